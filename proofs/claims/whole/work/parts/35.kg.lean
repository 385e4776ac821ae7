theorem k_10_enter_0 {X : Cx} {d : Nat} {κ : Km} {Q : Res → Km → Prop} (r0 : Nat) (r1 : Nat) (h : (isH κ r0 10) ∧ (isH κ r1 0) ∧ (1 ≤ d) ∧ (((((if 0 < ((kI κ r0 13) - (kI κ r1 4)) then ((kI κ r0 13) - (kI κ r1 4)) else 0) + 4) + (kI κ r1 5)) ≤ (nI (kW κ (r0 + 1))) → K X d MX10_enter 46 [(0, vR r0), (1, vR r1), (2, vI (if 0 < ((kI κ r0 13) - (kI κ r1 4)) then ((kI κ r0 13) - (kI κ r1 4)) else 0)), (3, vI (((if 0 < ((kI κ r0 13) - (kI κ r1 4)) then ((kI κ r0 13) - (kI κ r1 4)) else 0) + 4) + (kI κ r1 5)))] [] κ Q) ∧ (¬ (((if 0 < ((kI κ r0 13) - (kI κ r1 4)) then ((kI κ r0 13) - (kI κ r1 4)) else 0) + 4) + (kI κ r1 5)) ≤ (nI (kW κ (r0 + 1))) → (isH κ (r0 + 1) 21) ∧ (2 ≤ d) ∧ ∃ n7 : Nat, (2 * (((if 0 < ((kI κ r0 13) - (kI κ r1 4)) then ((kI κ r0 13) - (kI κ r1 4)) else 0) + 4) + (kI κ r1 5))) = nI n7 ∧ kW κ (r0 + 1) < n7 ∧ n7 ≤ 1000000 ∧ ∀ κ12 : Km, κ12 = cRow κ (r0 + 1) n7 (fun i => if i < kW κ (r0 + 1) then kI κ (r0 + 1) i else 0) (fun _ => 0) → K X d MX10_enter 46 [(0, vR r0), (1, vR r1), (2, vI (if 0 < ((kI κ r0 13) - (kI κ r1 4)) then ((kI κ r0 13) - (kI κ r1 4)) else 0)), (3, vI (((if 0 < ((kI κ r0 13) - (kI κ r1 4)) then ((kI κ r0 13) - (kI κ r1 4)) else 0) + 4) + (kI κ r1 5)))] [] κ12 Q))) : K X d MX10_enter 0 [(0, vR r0), (1, vR r1)] [] κ Q := by
  refine K_p (pc2 := 1) (lv2 := [(0, vR _), (1, vR _)]) (st2 := [vI _]) (fun ad S Q _ k => V_iconst (x := 0) (pc2 := 1) (dk D_X10_enter 0 rfl) (by decide) rfl k) ?_
  refine K_p (pc2 := 2) (lv2 := [(0, vR _), (1, vR _)]) (st2 := [vR _, vI _]) (fun ad S Q _ k => V_aload_n (pc2 := 2) (dk D_X10_enter 1 rfl) rfl (V_lg 0 rfl) rfl k) ?_
  obtain ⟨h1, h⟩ := h
  refine K_getI kc10 (pc2 := 5) 13 (dk D_X10_enter 2 rfl) fl_10_61 (by decide) (fun _ _ => rfl) rfl h1 ?_
  refine K_p (pc2 := 6) (lv2 := [(0, vR _), (1, vR _)]) (st2 := [vR _, vI _, vI _]) (fun ad S Q _ k => V_aload_n (pc2 := 6) (dk D_X10_enter 3 rfl) rfl (V_lg 1 rfl) rfl k) ?_
  obtain ⟨h2, h⟩ := h
  refine K_getI kc0 (pc2 := 9) 4 (dk D_X10_enter 4 rfl) fl_10_83 (by decide) (fun _ _ => rfl) rfl h2 ?_
  refine K_p (pc2 := 10) (lv2 := [(0, vR _), (1, vR _)]) (st2 := [vI _, vI _]) (fun ad S Q _ k => V_isub (pc2 := 10) (dk D_X10_enter 5 rfl) rfl k) ?_
  obtain ⟨h3, h⟩ := h
  refine K_p (pc2 := 13) (lv2 := [(0, vR _), (1, vR _)]) (st2 := [vI _]) (fun ad S Q _ k => V_max (pc2 := 13) (dk D_X10_enter 6 rfl) ml_10_88 mx_s mx_i mx_c rfl (Nat.le_of_ble_eq_true rfl) h3 k) ?_
  refine K_p (pc2 := 14) (lv2 := [(0, vR _), (1, vR _), (2, vI _)]) (st2 := []) (fun ad S Q _ k => V_istore_n (pc2 := 14) (lv2 := [(0, _), (1, _), (2, _)]) (dk D_X10_enter 7 rfl) rfl (by decide) rfl rfl k) ?_
  refine K_p (pc2 := 15) (lv2 := [(0, vR _), (1, vR _), (2, vI _)]) (st2 := [vI _]) (fun ad S Q _ k => V_iload_n (pc2 := 15) (dk D_X10_enter 8 rfl) rfl (V_lg 2 rfl) rfl k) ?_
  refine K_p (pc2 := 16) (lv2 := [(0, vR _), (1, vR _), (2, vI _)]) (st2 := [vI _, vI _]) (fun ad S Q _ k => V_iconst (x := 4) (pc2 := 16) (dk D_X10_enter 9 rfl) (by decide) rfl k) ?_
  refine K_p (pc2 := 17) (lv2 := [(0, vR _), (1, vR _), (2, vI _)]) (st2 := [vI _]) (fun ad S Q _ k => V_iadd (pc2 := 17) (dk D_X10_enter 10 rfl) rfl k) ?_
  refine K_p (pc2 := 18) (lv2 := [(0, vR _), (1, vR _), (2, vI _)]) (st2 := [vR _, vI _]) (fun ad S Q _ k => V_aload_n (pc2 := 18) (dk D_X10_enter 11 rfl) rfl (V_lg 1 rfl) rfl k) ?_
  refine K_getI kc0 (pc2 := 21) 5 (dk D_X10_enter 12 rfl) fl_10_94 (by decide) (fun _ _ => rfl) rfl h2 ?_
  refine K_p (pc2 := 22) (lv2 := [(0, vR _), (1, vR _), (2, vI _)]) (st2 := [vI _]) (fun ad S Q _ k => V_iadd (pc2 := 22) (dk D_X10_enter 13 rfl) rfl k) ?_
  refine K_p (pc2 := 23) (lv2 := [(0, vR _), (1, vR _), (2, vI _), (3, vI _)]) (st2 := []) (fun ad S Q _ k => V_istore_n (pc2 := 23) (lv2 := [(0, _), (1, _), (2, _), (3, _)]) (dk D_X10_enter 14 rfl) rfl (by decide) rfl rfl k) ?_
  refine K_p (pc2 := 24) (lv2 := [(0, vR _), (1, vR _), (2, vI _), (3, vI _)]) (st2 := [vI _]) (fun ad S Q _ k => V_iload_n (pc2 := 24) (dk D_X10_enter 15 rfl) rfl (V_lg 3 rfl) rfl k) ?_
  refine K_p (pc2 := 25) (lv2 := [(0, vR _), (1, vR _), (2, vI _), (3, vI _)]) (st2 := [vR _, vI _]) (fun ad S Q _ k => V_aload_n (pc2 := 25) (dk D_X10_enter 16 rfl) rfl (V_lg 0 rfl) rfl k) ?_
  refine K_getV (pc2 := 28) (dk D_X10_enter 17 rfl) fl_10_15 rfl h1 ?_
  refine K_alenV (pc2 := 29) (dk D_X10_enter 18 rfl) rfl h1 ?_
  refine K_if (pa := 46) (pb := 32) (lv2 := [(0, vR _), (1, vR _), (2, vI _), (3, vI _)]) (st2 := []) (fun ad S Q _ k1 k2 => V_cmple (tgt := 46) (pc2 := 32) (dk D_X10_enter 19 rfl) (by decide) rfl (fun q => k1 q) (fun q => k2 q)) (fun q4 => ?_) (fun q4 => ?_)
  · have h := h.1 q4
    exact h
  · have h := h.2 q4
    refine K_p (pc2 := 33) (lv2 := [(0, vR _), (1, vR _), (2, vI _), (3, vI _)]) (st2 := [vR _]) (fun ad S Q _ k => V_aload_n (pc2 := 33) (dk D_X10_enter 20 rfl) rfl (V_lg 0 rfl) rfl k) ?_
    refine K_p (pc2 := 34) (lv2 := [(0, vR _), (1, vR _), (2, vI _), (3, vI _)]) (st2 := [vR _, vR _]) (fun ad S Q _ k => V_aload_n (pc2 := 34) (dk D_X10_enter 21 rfl) rfl (V_lg 0 rfl) rfl k) ?_
    refine K_getV (pc2 := 37) (dk D_X10_enter 22 rfl) fl_10_15 rfl h1 ?_
    refine K_p (pc2 := 38) (lv2 := [(0, vR _), (1, vR _), (2, vI _), (3, vI _)]) (st2 := [vI _, vR _, vR _]) (fun ad S Q _ k => V_iconst (x := 2) (pc2 := 38) (dk D_X10_enter 23 rfl) (by decide) rfl k) ?_
    refine K_p (pc2 := 39) (lv2 := [(0, vR _), (1, vR _), (2, vI _), (3, vI _)]) (st2 := [vI _, vI _, vR _, vR _]) (fun ad S Q _ k => V_iload_n (pc2 := 39) (dk D_X10_enter 24 rfl) rfl (V_lg 3 rfl) rfl k) ?_
    refine K_p (pc2 := 40) (lv2 := [(0, vR _), (1, vR _), (2, vI _), (3, vI _)]) (st2 := [vI _, vR _, vR _]) (fun ad S Q _ k => V_imul (pc2 := 40) (dk D_X10_enter 25 rfl) rfl k) ?_
    obtain ⟨h5, h⟩ := h
    obtain ⟨h6, h⟩ := h
    obtain ⟨n7, hx8, hl9, hb10, h⟩ := h
    rw [hx8]
    refine K_growI kc10 (n := n7) (pc2 := 46) 12 (okL.all _ ⟨(isH.ok h1 (by decide)), (isH.ok h2 (by decide)), trivial, trivial, trivial⟩) (okS.all _ trivial) (dk D_X10_enter 26 rfl) ml_10_73 (dk D_X10_enter 27 rfl) fl_10_15 (by decide) (Or.inl rfl) (Or.inr ⟨_, rfl⟩) rfl (Nat.le_of_ble_eq_true rfl) h6 h1 (by decide) h5 (isH.nst h1) (Or.inr (isH.how h1)) hl9 hb10 ?_
    have hz11 : n7 ≠ 0 := by omega
    have h := h _ rfl
    exact h
theorem k_10_enter_46 {X : Cx} {d : Nat} {κ : Km} {Q : Res → Km → Prop} (r0 : Nat) (r1 : Nat) (x2 : Int32) (x3 : Int32) (h : (isH κ r1 0) ∧ K X d MX10_enter 54 [(0, vR r0), (1, vR r1), (2, vI x2), (3, vI x3), (4, vI ((kI κ r1 5) - 1))] [] κ Q) : K X d MX10_enter 46 [(0, vR r0), (1, vR r1), (2, vI x2), (3, vI x3)] [] κ Q := by
  refine K_p (pc2 := 47) (lv2 := [(0, vR _), (1, vR _), (2, vI _), (3, vI _)]) (st2 := [vR _]) (fun ad S Q _ k => V_aload_n (pc2 := 47) (dk D_X10_enter 28 rfl) rfl (V_lg 1 rfl) rfl k) ?_
  obtain ⟨h1, h⟩ := h
  refine K_getI kc0 (pc2 := 50) 5 (dk D_X10_enter 29 rfl) fl_10_94 (by decide) (fun _ _ => rfl) rfl h1 ?_
  refine K_p (pc2 := 51) (lv2 := [(0, vR _), (1, vR _), (2, vI _), (3, vI _)]) (st2 := [vI _, vI _]) (fun ad S Q _ k => V_iconst (x := 1) (pc2 := 51) (dk D_X10_enter 30 rfl) (by decide) rfl k) ?_
  refine K_p (pc2 := 52) (lv2 := [(0, vR _), (1, vR _), (2, vI _), (3, vI _)]) (st2 := [vI _]) (fun ad S Q _ k => V_isub (pc2 := 52) (dk D_X10_enter 31 rfl) rfl k) ?_
  refine K_p (pc2 := 54) (lv2 := [(0, vR _), (1, vR _), (2, vI _), (3, vI _), (4, vI _)]) (st2 := []) (fun ad S Q _ k => V_istore (pc2 := 54) (lv2 := [(0, _), (1, _), (2, _), (3, _), (4, _)]) (dk D_X10_enter 32 rfl) (by decide) rfl rfl k) ?_
  exact h
theorem k_10_enter_54 {X : Cx} {d : Nat} {κ : Km} {Q : Res → Km → Prop} (r0 : Nat) (r1 : Nat) (x2 : Int32) (x3 : Int32) (x4 : Int32) (h : ((x4 < 0 → (isH κ r1 0) ∧ (isH κ r0 10) ∧ ∃ e3 : Nat, e3 + 1 ≤ d ∧ KC' X e3 MX10_put [vR r0, vI x2, vI (kI κ r1 5)] κ (kRV fun  κ7 => ∃ e9 : Nat, e9 + 1 ≤ d ∧ KC' X e9 MX10_put [vR r0, vI (x2 + 1), vI (kI κ7 r0 9)] κ7 (kRV fun  κ12 => ∃ e14 : Nat, e14 + 1 ≤ d ∧ KC' X e14 MX10_put [vR r0, vI (x2 + 2), vI (kI κ12 r0 14)] κ12 (kRV fun  κ17 => ∃ e19 : Nat, e19 + 1 ≤ d ∧ KC' X e19 MX10_put [vR r0, vI (x2 + 3), vI (-9)] κ17 (kRV fun  κ22 => ∀ κ24 : Km, κ24 = cI κ22 r0 14 x2 → ∀ κ25 : Km, κ25 = cI κ24 r0 13 x3 → ∀ κ26 : Km, κ26 = cI κ25 r0 9 (kI κ25 r1 6) → ∀ κ27 : Km, κ27 = cI κ26 r0 8 ((kI κ26 r0 8) + 1) → Q (.inl none) κ27))))) ∧ (¬ x4 < 0 → (isH κ r1 0) ∧ (((kI κ r1 4) ≤ x4 → K X d MX10_enter 87 [(0, vR r0), (1, vR r1), (2, vI x2), (3, vI x3), (4, vI x4)] [vI 0, vI ((x2 + 4) + x4), vR r0] κ Q) ∧ (¬ (kI κ r1 4) ≤ x4 → (isH κ r0 10) ∧ ∃ e30 : Nat, e30 + 1 ≤ d ∧ KC' X e30 MX10_cell [vR r0, vI (x2 + x4)] κ (kRI fun y33 κ35 => K X d MX10_enter 87 [(0, vR r0), (1, vR r1), (2, vI x2), (3, vI x3), (4, vI x4)] [vI y33, vI ((x2 + 4) + x4), vR r0] κ35 Q)))))) : K X d MX10_enter 54 [(0, vR r0), (1, vR r1), (2, vI x2), (3, vI x3), (4, vI x4)] [] κ Q := by
  refine K_p (pc2 := 56) (lv2 := [(0, vR _), (1, vR _), (2, vI _), (3, vI _), (4, vI _)]) (st2 := [vI _]) (fun ad S Q _ k => V_iload (pc2 := 56) (dk D_X10_enter 33 rfl) (V_lg 4 rfl) rfl k) ?_
  refine K_if (pa := 96) (pb := 59) (lv2 := [(0, vR _), (1, vR _), (2, vI _), (3, vI _), (4, vI _)]) (st2 := []) (fun ad S Q _ k1 k2 => V_iflt (tgt := 96) (pc2 := 59) (dk D_X10_enter 34 rfl) (by decide) rfl (fun q => k1 q) (fun q => k2 q)) (fun q1 => ?_) (fun q1 => ?_)
  · have h := h.1 q1
    refine K_p (pc2 := 97) (lv2 := [(0, vR _), (1, vR _), (2, vI _), (3, vI _), (4, vI _)]) (st2 := [vR _]) (fun ad S Q _ k => V_aload_n (pc2 := 97) (dk D_X10_enter 55 rfl) rfl (V_lg 0 rfl) rfl k) ?_
    refine K_p (pc2 := 98) (lv2 := [(0, vR _), (1, vR _), (2, vI _), (3, vI _), (4, vI _)]) (st2 := [vI _, vR _]) (fun ad S Q _ k => V_iload_n (pc2 := 98) (dk D_X10_enter 56 rfl) rfl (V_lg 2 rfl) rfl k) ?_
    refine K_p (pc2 := 99) (lv2 := [(0, vR _), (1, vR _), (2, vI _), (3, vI _), (4, vI _)]) (st2 := [vR _, vI _, vR _]) (fun ad S Q _ k => V_aload_n (pc2 := 99) (dk D_X10_enter 57 rfl) rfl (V_lg 1 rfl) rfl k) ?_
    obtain ⟨h2, h⟩ := h
    refine K_getI kc0 (pc2 := 102) 5 (dk D_X10_enter 58 rfl) fl_10_94 (by decide) (fun _ _ => rfl) rfl h2 ?_
    obtain ⟨h6, h⟩ := h
    obtain ⟨e3, he4, hc5⟩ := h
    refine K_call (as := [vR _, vI _, vI _]) (st := []) (pc2 := 105) (okL.all _ ⟨(isH.ok h6 (by decide)), (isH.ok h2 (by decide)), trivial, trivial, trivial, trivial⟩) (okS.all _ trivial) (fun ad S Q Qc hC hc k => V_callV (as := [_, _]) (st := []) (M' := MX10_put) (ci := 10) (pc2 := 105) (dk D_X10_enter 59 rfl) ml_10_57 mv_X10_put rfl rfl (by decide) rfl (Nat.le_of_ble_eq_true rfl) rfl he4 (hC.k' h6) hc k) hc5 (kRV.k fun  κ7 h mo8 => ?_)
    refine K_p (pc2 := 106) (lv2 := [(0, vR _), (1, vR _), (2, vI _), (3, vI _), (4, vI _)]) (st2 := [vR _]) (fun ad S Q _ k => V_aload_n (pc2 := 106) (dk D_X10_enter 60 rfl) rfl (V_lg 0 rfl) rfl k) ?_
    refine K_p (pc2 := 107) (lv2 := [(0, vR _), (1, vR _), (2, vI _), (3, vI _), (4, vI _)]) (st2 := [vI _, vR _]) (fun ad S Q _ k => V_iload_n (pc2 := 107) (dk D_X10_enter 61 rfl) rfl (V_lg 2 rfl) rfl k) ?_
    refine K_p (pc2 := 108) (lv2 := [(0, vR _), (1, vR _), (2, vI _), (3, vI _), (4, vI _)]) (st2 := [vI _, vI _, vR _]) (fun ad S Q _ k => V_iconst (x := 1) (pc2 := 108) (dk D_X10_enter 62 rfl) (by decide) rfl k) ?_
    refine K_p (pc2 := 109) (lv2 := [(0, vR _), (1, vR _), (2, vI _), (3, vI _), (4, vI _)]) (st2 := [vI _, vR _]) (fun ad S Q _ k => V_iadd (pc2 := 109) (dk D_X10_enter 63 rfl) rfl k) ?_
    refine K_p (pc2 := 110) (lv2 := [(0, vR _), (1, vR _), (2, vI _), (3, vI _), (4, vI _)]) (st2 := [vR _, vI _, vR _]) (fun ad S Q _ k => V_aload_n (pc2 := 110) (dk D_X10_enter 64 rfl) rfl (V_lg 0 rfl) rfl k) ?_
    refine K_getI kc10 (pc2 := 113) 9 (dk D_X10_enter 65 rfl) fl_10_70 (by decide) (fun _ _ => rfl) rfl (isH.mo h6 (by decide) mo8) ?_
    obtain ⟨e9, he10, hc11⟩ := h
    refine K_call (as := [vR _, vI _, vI _]) (st := []) (pc2 := 116) (okL.all _ ⟨(isH.ok (isH.mo h6 (by decide) mo8) (by decide)), (isH.ok (isH.mo h2 (by decide) mo8) (by decide)), trivial, trivial, trivial, trivial⟩) (okS.all _ trivial) (fun ad S Q Qc hC hc k => V_callV (as := [_, _]) (st := []) (M' := MX10_put) (ci := 10) (pc2 := 116) (dk D_X10_enter 66 rfl) ml_10_57 mv_X10_put rfl rfl (by decide) rfl (Nat.le_of_ble_eq_true rfl) rfl he10 (hC.k' (isH.mo h6 (by decide) mo8)) hc k) hc11 (kRV.k fun  κ12 h mo13 => ?_)
    refine K_p (pc2 := 117) (lv2 := [(0, vR _), (1, vR _), (2, vI _), (3, vI _), (4, vI _)]) (st2 := [vR _]) (fun ad S Q _ k => V_aload_n (pc2 := 117) (dk D_X10_enter 67 rfl) rfl (V_lg 0 rfl) rfl k) ?_
    refine K_p (pc2 := 118) (lv2 := [(0, vR _), (1, vR _), (2, vI _), (3, vI _), (4, vI _)]) (st2 := [vI _, vR _]) (fun ad S Q _ k => V_iload_n (pc2 := 118) (dk D_X10_enter 68 rfl) rfl (V_lg 2 rfl) rfl k) ?_
    refine K_p (pc2 := 119) (lv2 := [(0, vR _), (1, vR _), (2, vI _), (3, vI _), (4, vI _)]) (st2 := [vI _, vI _, vR _]) (fun ad S Q _ k => V_iconst (x := 2) (pc2 := 119) (dk D_X10_enter 69 rfl) (by decide) rfl k) ?_
    refine K_p (pc2 := 120) (lv2 := [(0, vR _), (1, vR _), (2, vI _), (3, vI _), (4, vI _)]) (st2 := [vI _, vR _]) (fun ad S Q _ k => V_iadd (pc2 := 120) (dk D_X10_enter 70 rfl) rfl k) ?_
    refine K_p (pc2 := 121) (lv2 := [(0, vR _), (1, vR _), (2, vI _), (3, vI _), (4, vI _)]) (st2 := [vR _, vI _, vR _]) (fun ad S Q _ k => V_aload_n (pc2 := 121) (dk D_X10_enter 71 rfl) rfl (V_lg 0 rfl) rfl k) ?_
    refine K_getI kc10 (pc2 := 124) 14 (dk D_X10_enter 72 rfl) fl_10_64 (by decide) (fun _ _ => rfl) rfl (isH.mo (isH.mo h6 (by decide) mo8) (by decide) mo13) ?_
    obtain ⟨e14, he15, hc16⟩ := h
    refine K_call (as := [vR _, vI _, vI _]) (st := []) (pc2 := 127) (okL.all _ ⟨(isH.ok (isH.mo (isH.mo h6 (by decide) mo8) (by decide) mo13) (by decide)), (isH.ok (isH.mo (isH.mo h2 (by decide) mo8) (by decide) mo13) (by decide)), trivial, trivial, trivial, trivial⟩) (okS.all _ trivial) (fun ad S Q Qc hC hc k => V_callV (as := [_, _]) (st := []) (M' := MX10_put) (ci := 10) (pc2 := 127) (dk D_X10_enter 73 rfl) ml_10_57 mv_X10_put rfl rfl (by decide) rfl (Nat.le_of_ble_eq_true rfl) rfl he15 (hC.k' (isH.mo (isH.mo h6 (by decide) mo8) (by decide) mo13)) hc k) hc16 (kRV.k fun  κ17 h mo18 => ?_)
    refine K_p (pc2 := 128) (lv2 := [(0, vR _), (1, vR _), (2, vI _), (3, vI _), (4, vI _)]) (st2 := [vR _]) (fun ad S Q _ k => V_aload_n (pc2 := 128) (dk D_X10_enter 74 rfl) rfl (V_lg 0 rfl) rfl k) ?_
    refine K_p (pc2 := 129) (lv2 := [(0, vR _), (1, vR _), (2, vI _), (3, vI _), (4, vI _)]) (st2 := [vI _, vR _]) (fun ad S Q _ k => V_iload_n (pc2 := 129) (dk D_X10_enter 75 rfl) rfl (V_lg 2 rfl) rfl k) ?_
    refine K_p (pc2 := 130) (lv2 := [(0, vR _), (1, vR _), (2, vI _), (3, vI _), (4, vI _)]) (st2 := [vI _, vI _, vR _]) (fun ad S Q _ k => V_iconst (x := 3) (pc2 := 130) (dk D_X10_enter 76 rfl) (by decide) rfl k) ?_
    refine K_p (pc2 := 131) (lv2 := [(0, vR _), (1, vR _), (2, vI _), (3, vI _), (4, vI _)]) (st2 := [vI _, vR _]) (fun ad S Q _ k => V_iadd (pc2 := 131) (dk D_X10_enter 77 rfl) rfl k) ?_
    refine K_p (pc2 := 133) (lv2 := [(0, vR _), (1, vR _), (2, vI _), (3, vI _), (4, vI _)]) (st2 := [vI _, vI _, vR _]) (fun ad S Q _ k => V_bipush (x := (-9)) (pc2 := 133) (dk D_X10_enter 78 rfl) (by decide) rfl k) ?_
    obtain ⟨e19, he20, hc21⟩ := h
    refine K_call (as := [vR _, vI _, vI _]) (st := []) (pc2 := 136) (okL.all _ ⟨(isH.ok (isH.mo (isH.mo (isH.mo h6 (by decide) mo8) (by decide) mo13) (by decide) mo18) (by decide)), (isH.ok (isH.mo (isH.mo (isH.mo h2 (by decide) mo8) (by decide) mo13) (by decide) mo18) (by decide)), trivial, trivial, trivial, trivial⟩) (okS.all _ trivial) (fun ad S Q Qc hC hc k => V_callV (as := [_, _]) (st := []) (M' := MX10_put) (ci := 10) (pc2 := 136) (dk D_X10_enter 79 rfl) ml_10_57 mv_X10_put rfl rfl (by decide) rfl (Nat.le_of_ble_eq_true rfl) rfl he20 (hC.k' (isH.mo (isH.mo (isH.mo h6 (by decide) mo8) (by decide) mo13) (by decide) mo18)) hc k) hc21 (kRV.k fun  κ22 h mo23 => ?_)
    refine K_p (pc2 := 137) (lv2 := [(0, vR _), (1, vR _), (2, vI _), (3, vI _), (4, vI _)]) (st2 := [vR _]) (fun ad S Q _ k => V_aload_n (pc2 := 137) (dk D_X10_enter 80 rfl) rfl (V_lg 0 rfl) rfl k) ?_
    refine K_p (pc2 := 138) (lv2 := [(0, vR _), (1, vR _), (2, vI _), (3, vI _), (4, vI _)]) (st2 := [vI _, vR _]) (fun ad S Q _ k => V_iload_n (pc2 := 138) (dk D_X10_enter 81 rfl) rfl (V_lg 2 rfl) rfl k) ?_
    refine K_putI kc10 (pc2 := 141) 14 (dk D_X10_enter 82 rfl) fl_10_64 (by decide) (Or.inl rfl) rfl rfl (isH.mo (isH.mo (isH.mo (isH.mo h6 (by decide) mo8) (by decide) mo13) (by decide) mo18) (by decide) mo23) (isH.n69 (isH.mo (isH.mo (isH.mo (isH.mo h6 (by decide) mo8) (by decide) mo13) (by decide) mo18) (by decide) mo23) (by decide)) ?_
    have h := h _ rfl
    refine K_p (pc2 := 142) (lv2 := [(0, vR _), (1, vR _), (2, vI _), (3, vI _), (4, vI _)]) (st2 := [vR _]) (fun ad S Q _ k => V_aload_n (pc2 := 142) (dk D_X10_enter 83 rfl) rfl (V_lg 0 rfl) rfl k) ?_
    refine K_p (pc2 := 143) (lv2 := [(0, vR _), (1, vR _), (2, vI _), (3, vI _), (4, vI _)]) (st2 := [vI _, vR _]) (fun ad S Q _ k => V_iload_n (pc2 := 143) (dk D_X10_enter 84 rfl) rfl (V_lg 3 rfl) rfl k) ?_
    refine K_putI kc10 (pc2 := 146) 13 (dk D_X10_enter 85 rfl) fl_10_61 (by decide) (Or.inl rfl) rfl rfl (isH.mo (isH.mo (isH.mo (isH.mo h6 (by decide) mo8) (by decide) mo13) (by decide) mo18) (by decide) mo23) (isH.n69 (isH.mo (isH.mo (isH.mo (isH.mo h6 (by decide) mo8) (by decide) mo13) (by decide) mo18) (by decide) mo23) (by decide)) ?_
    have h := h _ rfl
    refine K_p (pc2 := 147) (lv2 := [(0, vR _), (1, vR _), (2, vI _), (3, vI _), (4, vI _)]) (st2 := [vR _]) (fun ad S Q _ k => V_aload_n (pc2 := 147) (dk D_X10_enter 86 rfl) rfl (V_lg 0 rfl) rfl k) ?_
    refine K_p (pc2 := 148) (lv2 := [(0, vR _), (1, vR _), (2, vI _), (3, vI _), (4, vI _)]) (st2 := [vR _, vR _]) (fun ad S Q _ k => V_aload_n (pc2 := 148) (dk D_X10_enter 87 rfl) rfl (V_lg 1 rfl) rfl k) ?_
    refine K_getI kc0 (pc2 := 151) 6 (dk D_X10_enter 88 rfl) fl_10_97 (by decide) (fun _ _ => rfl) rfl (isH.mo (isH.mo (isH.mo (isH.mo h2 (by decide) mo8) (by decide) mo13) (by decide) mo18) (by decide) mo23) ?_
    refine K_putI kc10 (pc2 := 154) 9 (dk D_X10_enter 89 rfl) fl_10_70 (by decide) (Or.inl rfl) rfl rfl (isH.mo (isH.mo (isH.mo (isH.mo h6 (by decide) mo8) (by decide) mo13) (by decide) mo18) (by decide) mo23) (isH.n69 (isH.mo (isH.mo (isH.mo (isH.mo h6 (by decide) mo8) (by decide) mo13) (by decide) mo18) (by decide) mo23) (by decide)) ?_
    have h := h _ rfl
    refine K_p (pc2 := 155) (lv2 := [(0, vR _), (1, vR _), (2, vI _), (3, vI _), (4, vI _)]) (st2 := [vR _]) (fun ad S Q _ k => V_aload_n (pc2 := 155) (dk D_X10_enter 90 rfl) rfl (V_lg 0 rfl) rfl k) ?_
    refine K_p (pc2 := 156) (lv2 := [(0, vR _), (1, vR _), (2, vI _), (3, vI _), (4, vI _)]) (st2 := [vR _, vR _]) (fun ad S Q _ k => V_dup (pc2 := 156) (dk D_X10_enter 91 rfl) rfl rfl k) ?_
    refine K_getI kc10 (pc2 := 159) 8 (dk D_X10_enter 92 rfl) fl_10_43 (by decide) (fun _ _ => rfl) rfl (isH.mo (isH.mo (isH.mo (isH.mo h6 (by decide) mo8) (by decide) mo13) (by decide) mo18) (by decide) mo23) ?_
    refine K_p (pc2 := 160) (lv2 := [(0, vR _), (1, vR _), (2, vI _), (3, vI _), (4, vI _)]) (st2 := [vI _, vI _, vR _]) (fun ad S Q _ k => V_iconst (x := 1) (pc2 := 160) (dk D_X10_enter 93 rfl) (by decide) rfl k) ?_
    refine K_p (pc2 := 161) (lv2 := [(0, vR _), (1, vR _), (2, vI _), (3, vI _), (4, vI _)]) (st2 := [vI _, vR _]) (fun ad S Q _ k => V_iadd (pc2 := 161) (dk D_X10_enter 94 rfl) rfl k) ?_
    refine K_putI kc10 (pc2 := 164) 8 (dk D_X10_enter 95 rfl) fl_10_43 (by decide) (Or.inl rfl) rfl rfl (isH.mo (isH.mo (isH.mo (isH.mo h6 (by decide) mo8) (by decide) mo13) (by decide) mo18) (by decide) mo23) (isH.n69 (isH.mo (isH.mo (isH.mo (isH.mo h6 (by decide) mo8) (by decide) mo13) (by decide) mo18) (by decide) mo23) (by decide)) ?_
    have h := h _ rfl
    exact K_ret (r := .inl none) (fun ad S Q _ k => V_return (dk D_X10_enter 96 rfl) rfl k) h
  · have h := h.2 q1
    refine K_p (pc2 := 60) (lv2 := [(0, vR _), (1, vR _), (2, vI _), (3, vI _), (4, vI _)]) (st2 := [vR _]) (fun ad S Q _ k => V_aload_n (pc2 := 60) (dk D_X10_enter 35 rfl) rfl (V_lg 0 rfl) rfl k) ?_
    refine K_p (pc2 := 61) (lv2 := [(0, vR _), (1, vR _), (2, vI _), (3, vI _), (4, vI _)]) (st2 := [vI _, vR _]) (fun ad S Q _ k => V_iload_n (pc2 := 61) (dk D_X10_enter 36 rfl) rfl (V_lg 2 rfl) rfl k) ?_
    refine K_p (pc2 := 62) (lv2 := [(0, vR _), (1, vR _), (2, vI _), (3, vI _), (4, vI _)]) (st2 := [vI _, vI _, vR _]) (fun ad S Q _ k => V_iconst (x := 4) (pc2 := 62) (dk D_X10_enter 37 rfl) (by decide) rfl k) ?_
    refine K_p (pc2 := 63) (lv2 := [(0, vR _), (1, vR _), (2, vI _), (3, vI _), (4, vI _)]) (st2 := [vI _, vR _]) (fun ad S Q _ k => V_iadd (pc2 := 63) (dk D_X10_enter 38 rfl) rfl k) ?_
    refine K_p (pc2 := 65) (lv2 := [(0, vR _), (1, vR _), (2, vI _), (3, vI _), (4, vI _)]) (st2 := [vI _, vI _, vR _]) (fun ad S Q _ k => V_iload (pc2 := 65) (dk D_X10_enter 39 rfl) (V_lg 4 rfl) rfl k) ?_
    refine K_p (pc2 := 66) (lv2 := [(0, vR _), (1, vR _), (2, vI _), (3, vI _), (4, vI _)]) (st2 := [vI _, vR _]) (fun ad S Q _ k => V_iadd (pc2 := 66) (dk D_X10_enter 40 rfl) rfl k) ?_
    refine K_p (pc2 := 68) (lv2 := [(0, vR _), (1, vR _), (2, vI _), (3, vI _), (4, vI _)]) (st2 := [vI _, vI _, vR _]) (fun ad S Q _ k => V_iload (pc2 := 68) (dk D_X10_enter 41 rfl) (V_lg 4 rfl) rfl k) ?_
    refine K_p (pc2 := 69) (lv2 := [(0, vR _), (1, vR _), (2, vI _), (3, vI _), (4, vI _)]) (st2 := [vR _, vI _, vI _, vR _]) (fun ad S Q _ k => V_aload_n (pc2 := 69) (dk D_X10_enter 42 rfl) rfl (V_lg 1 rfl) rfl k) ?_
    obtain ⟨h28, h⟩ := h
    refine K_getI kc0 (pc2 := 72) 4 (dk D_X10_enter 43 rfl) fl_10_83 (by decide) (fun _ _ => rfl) rfl h28 ?_
    refine K_if (pa := 86) (pb := 75) (lv2 := [(0, vR _), (1, vR _), (2, vI _), (3, vI _), (4, vI _)]) (st2 := [vI _, vR _]) (fun ad S Q _ k1 k2 => V_cmpge (tgt := 86) (pc2 := 75) (dk D_X10_enter 44 rfl) (by decide) rfl (fun q => k1 q) (fun q => k2 q)) (fun q29 => ?_) (fun q29 => ?_)
    · have h := h.1 q29
      refine K_p (pc2 := 87) (lv2 := [(0, vR _), (1, vR _), (2, vI _), (3, vI _), (4, vI _)]) (st2 := [vI _, vI _, vR _]) (fun ad S Q _ k => V_iconst (x := 0) (pc2 := 87) (dk D_X10_enter 51 rfl) (by decide) rfl k) ?_
      exact h
    · have h := h.2 q29
      refine K_p (pc2 := 76) (lv2 := [(0, vR _), (1, vR _), (2, vI _), (3, vI _), (4, vI _)]) (st2 := [vR _, vI _, vR _]) (fun ad S Q _ k => V_aload_n (pc2 := 76) (dk D_X10_enter 45 rfl) rfl (V_lg 0 rfl) rfl k) ?_
      refine K_p (pc2 := 77) (lv2 := [(0, vR _), (1, vR _), (2, vI _), (3, vI _), (4, vI _)]) (st2 := [vI _, vR _, vI _, vR _]) (fun ad S Q _ k => V_iload_n (pc2 := 77) (dk D_X10_enter 46 rfl) rfl (V_lg 2 rfl) rfl k) ?_
      refine K_p (pc2 := 79) (lv2 := [(0, vR _), (1, vR _), (2, vI _), (3, vI _), (4, vI _)]) (st2 := [vI _, vI _, vR _, vI _, vR _]) (fun ad S Q _ k => V_iload (pc2 := 79) (dk D_X10_enter 47 rfl) (V_lg 4 rfl) rfl k) ?_
      refine K_p (pc2 := 80) (lv2 := [(0, vR _), (1, vR _), (2, vI _), (3, vI _), (4, vI _)]) (st2 := [vI _, vR _, vI _, vR _]) (fun ad S Q _ k => V_iadd (pc2 := 80) (dk D_X10_enter 48 rfl) rfl k) ?_
      obtain ⟨h34, h⟩ := h
      obtain ⟨e30, he31, hc32⟩ := h
      refine K_call (as := [vR _, vI _]) (st := [vI _, vR _]) (pc2 := 83) (okL.all _ ⟨(isH.ok h34 (by decide)), (isH.ok h28 (by decide)), trivial, trivial, trivial, trivial⟩) (okS.all _ ⟨trivial, (isH.ok h34 (by decide)), trivial⟩) (fun ad S Q Qc hC hc k => V_callV (as := [_]) (st := [_, _]) (M' := MX10_cell) (ci := 10) (pc2 := 83) (dk D_X10_enter 49 rfl) ml_10_79 mv_X10_cell rfl rfl (by decide) rfl (Nat.le_of_ble_eq_true rfl) rfl he31 (hC.k' h34) hc k) hc32 (kRI.k fun y33 κ35 h mo36 => ?_)
      refine K_p (pc2 := 87) (lv2 := [(0, vR _), (1, vR _), (2, vI _), (3, vI _), (4, vI _)]) (st2 := [vI _, vI _, vR _]) (fun ad S Q _ k => V_goto (tgt := 87) (dk D_X10_enter 50 rfl) (by decide) k) ?_
      exact h
theorem k_10_enter_87 {X : Cx} {d : Nat} {κ : Km} {Q : Res → Km → Prop} (r0 : Nat) (r1 : Nat) (x2 : Int32) (x3 : Int32) (x4 : Int32) (t0 : Nat) (t1 : Int32) (t2 : Int32) (h : (isH κ t0 10) ∧ (isH κ r0 10) ∧ (isH κ r1 0) ∧ ∃ e1 : Nat, e1 + 1 ≤ d ∧ KC' X e1 MX10_put [vR t0, vI t1, vI t2] κ (kRV fun  κ7 => K X d MX10_enter 54 [(0, vR r0), (1, vR r1), (2, vI x2), (3, vI x3), (4, vI (x4 + (-1)))] [] κ7 Q)) : K X d MX10_enter 87 [(0, vR r0), (1, vR r1), (2, vI x2), (3, vI x3), (4, vI x4)] [vI t2, vI t1, vR t0] κ Q := by
  obtain ⟨h4, h⟩ := h
  obtain ⟨h5, h⟩ := h
  obtain ⟨h6, h⟩ := h
  obtain ⟨e1, he2, hc3⟩ := h
  refine K_call (as := [vR _, vI _, vI _]) (st := []) (pc2 := 90) (okL.all _ ⟨(isH.ok h5 (by decide)), (isH.ok h6 (by decide)), trivial, trivial, trivial, trivial⟩) (okS.all _ trivial) (fun ad S Q Qc hC hc k => V_callV (as := [_, _]) (st := []) (M' := MX10_put) (ci := 10) (pc2 := 90) (dk D_X10_enter 52 rfl) ml_10_57 mv_X10_put rfl rfl (by decide) rfl (Nat.le_of_ble_eq_true rfl) rfl he2 (hC.k' h4) hc k) hc3 (kRV.k fun  κ7 h mo8 => ?_)
  refine K_p (pc2 := 93) (lv2 := [(0, vR _), (1, vR _), (2, vI _), (3, vI _), (4, vI _)]) (st2 := []) (fun ad S Q _ k => V_iinc (y := _ + (-1)) (pc2 := 93) (lv2 := [(0, _), (1, _), (2, _), (3, _), (4, _)]) (dk D_X10_enter 53 rfl) (V_lg 4 rfl) rfl (by decide) rfl rfl k) ?_
  refine K_p (pc2 := 54) (lv2 := [(0, vR _), (1, vR _), (2, vI _), (3, vI _), (4, vI _)]) (st2 := []) (fun ad S Q _ k => V_goto (tgt := 54) (dk D_X10_enter 54 rfl) (by decide) k) ?_
  exact h
theorem k_10_push_0 {X : Cx} {d : Nat} {κ : Km} {Q : Res → Km → Prop} (r0 : Nat) (x1 : Int32) (h : (isH κ r0 10) ∧ (((kI κ r0 13) < (nI (kW κ (r0 + 1))) → K X d MX10_push 31 [(0, vR r0), (1, vI x1)] [] κ Q) ∧ (¬ (kI κ r0 13) < (nI (kW κ (r0 + 1))) → (isH κ (r0 + 1) 21) ∧ (2 ≤ d) ∧ ∃ n5 : Nat, ((2 * (kI κ r0 13)) + 1) = nI n5 ∧ kW κ (r0 + 1) < n5 ∧ n5 ≤ 1000000 ∧ ∀ κ10 : Km, κ10 = cRow κ (r0 + 1) n5 (fun i => if i < kW κ (r0 + 1) then kI κ (r0 + 1) i else 0) (fun _ => 0) → K X d MX10_push 31 [(0, vR r0), (1, vI x1)] [] κ10 Q))) : K X d MX10_push 0 [(0, vR r0), (1, vI x1)] [] κ Q := by
  refine K_p (pc2 := 1) (lv2 := [(0, vR _), (1, vI _)]) (st2 := [vR _]) (fun ad S Q _ k => V_aload_n (pc2 := 1) (dk D_X10_push 0 rfl) rfl (V_lg 0 rfl) rfl k) ?_
  obtain ⟨h1, h⟩ := h
  refine K_getI kc10 (pc2 := 4) 13 (dk D_X10_push 1 rfl) fl_10_61 (by decide) (fun _ _ => rfl) rfl h1 ?_
  refine K_p (pc2 := 5) (lv2 := [(0, vR _), (1, vI _)]) (st2 := [vR _, vI _]) (fun ad S Q _ k => V_aload_n (pc2 := 5) (dk D_X10_push 2 rfl) rfl (V_lg 0 rfl) rfl k) ?_
  refine K_getV (pc2 := 8) (dk D_X10_push 3 rfl) fl_10_15 rfl h1 ?_
  refine K_alenV (pc2 := 9) (dk D_X10_push 4 rfl) rfl h1 ?_
  refine K_if (pa := 31) (pb := 12) (lv2 := [(0, vR _), (1, vI _)]) (st2 := []) (fun ad S Q _ k1 k2 => V_cmplt (tgt := 31) (pc2 := 12) (dk D_X10_push 5 rfl) (by decide) rfl (fun q => k1 q) (fun q => k2 q)) (fun q2 => ?_) (fun q2 => ?_)
  · have h := h.1 q2
    exact h
  · have h := h.2 q2
    refine K_p (pc2 := 13) (lv2 := [(0, vR _), (1, vI _)]) (st2 := [vR _]) (fun ad S Q _ k => V_aload_n (pc2 := 13) (dk D_X10_push 6 rfl) rfl (V_lg 0 rfl) rfl k) ?_
    refine K_p (pc2 := 14) (lv2 := [(0, vR _), (1, vI _)]) (st2 := [vR _, vR _]) (fun ad S Q _ k => V_aload_n (pc2 := 14) (dk D_X10_push 7 rfl) rfl (V_lg 0 rfl) rfl k) ?_
    refine K_getV (pc2 := 17) (dk D_X10_push 8 rfl) fl_10_15 rfl h1 ?_
    refine K_p (pc2 := 18) (lv2 := [(0, vR _), (1, vI _)]) (st2 := [vI _, vR _, vR _]) (fun ad S Q _ k => V_iconst (x := 2) (pc2 := 18) (dk D_X10_push 9 rfl) (by decide) rfl k) ?_
    refine K_p (pc2 := 19) (lv2 := [(0, vR _), (1, vI _)]) (st2 := [vR _, vI _, vR _, vR _]) (fun ad S Q _ k => V_aload_n (pc2 := 19) (dk D_X10_push 10 rfl) rfl (V_lg 0 rfl) rfl k) ?_
    refine K_getI kc10 (pc2 := 22) 13 (dk D_X10_push 11 rfl) fl_10_61 (by decide) (fun _ _ => rfl) rfl h1 ?_
    refine K_p (pc2 := 23) (lv2 := [(0, vR _), (1, vI _)]) (st2 := [vI _, vR _, vR _]) (fun ad S Q _ k => V_imul (pc2 := 23) (dk D_X10_push 12 rfl) rfl k) ?_
    refine K_p (pc2 := 24) (lv2 := [(0, vR _), (1, vI _)]) (st2 := [vI _, vI _, vR _, vR _]) (fun ad S Q _ k => V_iconst (x := 1) (pc2 := 24) (dk D_X10_push 13 rfl) (by decide) rfl k) ?_
    refine K_p (pc2 := 25) (lv2 := [(0, vR _), (1, vI _)]) (st2 := [vI _, vR _, vR _]) (fun ad S Q _ k => V_iadd (pc2 := 25) (dk D_X10_push 14 rfl) rfl k) ?_
    obtain ⟨h3, h⟩ := h
    obtain ⟨h4, h⟩ := h
    obtain ⟨n5, hx6, hl7, hb8, h⟩ := h
    rw [hx6]
    refine K_growI kc10 (n := n5) (pc2 := 31) 12 (okL.all _ ⟨(isH.ok h1 (by decide)), trivial, trivial⟩) (okS.all _ trivial) (dk D_X10_push 15 rfl) ml_10_73 (dk D_X10_push 16 rfl) fl_10_15 (by decide) (Or.inl rfl) (Or.inr ⟨_, rfl⟩) rfl (Nat.le_of_ble_eq_true rfl) h4 h1 (by decide) h3 (isH.nst h1) (Or.inr (isH.how h1)) hl7 hb8 ?_
    have hz9 : n5 ≠ 0 := by omega
    have h := h _ rfl
    exact h
theorem k_10_push_31 {X : Cx} {d : Nat} {κ : Km} {Q : Res → Km → Prop} (r0 : Nat) (x1 : Int32) (h : (isH κ r0 10) ∧ (((kI κ r0 13) < 0 → K X d MX10_push 58 [(0, vR r0), (1, vI x1)] [] κ Q) ∧ (¬ (kI κ r0 13) < 0 → (isH κ (r0 + 1) 21) ∧ (vp_in (kI κ r0 13) (kW κ (r0 + 1))) ∧ ∀ κ5 : Km, κ5 = cI κ (r0 + 1) (((kI κ r0 13) : Int32).toNatClampNeg) x1 → ∀ κ6 : Km, κ6 = cI κ5 r0 13 ((kI κ5 r0 13) + 1) → K X d MX10_push 58 [(0, vR r0), (1, vI x1)] [] κ6 Q))) : K X d MX10_push 31 [(0, vR r0), (1, vI x1)] [] κ Q := by
  refine K_p (pc2 := 32) (lv2 := [(0, vR _), (1, vI _)]) (st2 := [vR _]) (fun ad S Q _ k => V_aload_n (pc2 := 32) (dk D_X10_push 17 rfl) rfl (V_lg 0 rfl) rfl k) ?_
  obtain ⟨h1, h⟩ := h
  refine K_getI kc10 (pc2 := 35) 13 (dk D_X10_push 18 rfl) fl_10_61 (by decide) (fun _ _ => rfl) rfl h1 ?_
  refine K_if (pa := 58) (pb := 38) (lv2 := [(0, vR _), (1, vI _)]) (st2 := []) (fun ad S Q _ k1 k2 => V_iflt (tgt := 58) (pc2 := 38) (dk D_X10_push 19 rfl) (by decide) rfl (fun q => k1 q) (fun q => k2 q)) (fun q2 => ?_) (fun q2 => ?_)
  · have h := h.1 q2
    exact h
  · have h := h.2 q2
    refine K_p (pc2 := 39) (lv2 := [(0, vR _), (1, vI _)]) (st2 := [vR _]) (fun ad S Q _ k => V_aload_n (pc2 := 39) (dk D_X10_push 20 rfl) rfl (V_lg 0 rfl) rfl k) ?_
    refine K_getV (pc2 := 42) (dk D_X10_push 21 rfl) fl_10_15 rfl h1 ?_
    refine K_p (pc2 := 43) (lv2 := [(0, vR _), (1, vI _)]) (st2 := [vR _, vR _]) (fun ad S Q _ k => V_aload_n (pc2 := 43) (dk D_X10_push 22 rfl) rfl (V_lg 0 rfl) rfl k) ?_
    refine K_getI kc10 (pc2 := 46) 13 (dk D_X10_push 23 rfl) fl_10_61 (by decide) (fun _ _ => rfl) rfl h1 ?_
    refine K_p (pc2 := 47) (lv2 := [(0, vR _), (1, vI _)]) (st2 := [vI _, vI _, vR _]) (fun ad S Q _ k => V_iload_n (pc2 := 47) (dk D_X10_push 24 rfl) rfl (V_lg 1 rfl) rfl k) ?_
    obtain ⟨h3, h⟩ := h
    obtain ⟨h4, h⟩ := h
    refine K_iast (pc2 := 48) (dk D_X10_push 25 rfl) rfl h3 h4 ?_
    have h := h _ rfl
    refine K_p (pc2 := 49) (lv2 := [(0, vR _), (1, vI _)]) (st2 := [vR _]) (fun ad S Q _ k => V_aload_n (pc2 := 49) (dk D_X10_push 26 rfl) rfl (V_lg 0 rfl) rfl k) ?_
    refine K_p (pc2 := 50) (lv2 := [(0, vR _), (1, vI _)]) (st2 := [vR _, vR _]) (fun ad S Q _ k => V_dup (pc2 := 50) (dk D_X10_push 27 rfl) rfl rfl k) ?_
    refine K_getI kc10 (pc2 := 53) 13 (dk D_X10_push 28 rfl) fl_10_61 (by decide) (fun _ _ => rfl) rfl h1 ?_
    refine K_p (pc2 := 54) (lv2 := [(0, vR _), (1, vI _)]) (st2 := [vI _, vI _, vR _]) (fun ad S Q _ k => V_iconst (x := 1) (pc2 := 54) (dk D_X10_push 29 rfl) (by decide) rfl k) ?_
    refine K_p (pc2 := 55) (lv2 := [(0, vR _), (1, vI _)]) (st2 := [vI _, vR _]) (fun ad S Q _ k => V_iadd (pc2 := 55) (dk D_X10_push 30 rfl) rfl k) ?_
    refine K_putI kc10 (pc2 := 58) 13 (dk D_X10_push 31 rfl) fl_10_61 (by decide) (Or.inl rfl) rfl rfl h1 (isH.n69 h1 (by decide)) ?_
    have h := h _ rfl
    exact h
theorem k_10_push_58 {X : Cx} {d : Nat} {κ : Km} {Q : Res → Km → Prop} (r0 : Nat) (x1 : Int32) (h : Q (.inl none) κ) : K X d MX10_push 58 [(0, vR r0), (1, vI x1)] [] κ Q := by
  exact K_ret (r := .inl none) (fun ad S Q _ k => V_return (dk D_X10_push 32 rfl) rfl k) h
theorem k_1_add_0 {X : Cx} {d : Nat} {κ : Km} {Q : Res → Km → Prop} (x1 : Int32) (x2 : Int32) (h : (((kI κ 68 2) < (nI (kW κ 69)) → K X d MX1_add 46 [(0, vR 68), (1, vI x1), (2, vI x2)] [] κ Q) ∧ (¬ (kI κ 68 2) < (nI (kW κ 69)) → (2 ≤ d) ∧ ∃ n3 : Nat, (2 * (kI κ 68 2)) = nI n3 ∧ kW κ 69 < n3 ∧ n3 ≤ 1000000 ∧ ∀ κ8 : Km, κ8 = cRow κ 69 n3 (fun i => if i < kW κ 69 then kI κ 69 i else 0) (fun _ => 0) → (2 ≤ d) ∧ ∃ n10 : Nat, (2 * (kI κ8 68 2)) = nI n10 ∧ kW κ8 70 < n10 ∧ n10 ≤ 1000000 ∧ ∀ κ15 : Km, κ15 = cRow κ8 70 n10 (fun i => if i < kW κ8 70 then kI κ8 70 i else 0) (fun _ => 0) → K X d MX1_add 46 [(0, vR 68), (1, vI x1), (2, vI x2)] [] κ15 Q))) : K X d MX1_add 0 [(0, vR 68), (1, vI x1), (2, vI x2)] [] κ Q := by
  refine K_p (pc2 := 1) (lv2 := [(0, vR 68), (1, vI _), (2, vI _)]) (st2 := [vR 68]) (fun ad S Q _ k => V_aload_n (pc2 := 1) (dk D_X1_add 0 rfl) rfl (V_lg 0 rfl) rfl k) ?_
  refine K_getI kc1 (pc2 := 4) 2 (dk D_X1_add 1 rfl) fl_1_17 (by decide) (fun _ _ => rfl) rfl (fixH 68 1 (by decide) rfl) ?_
  refine K_p (pc2 := 5) (lv2 := [(0, vR 68), (1, vI _), (2, vI _)]) (st2 := [vR 68, vI _]) (fun ad S Q _ k => V_aload_n (pc2 := 5) (dk D_X1_add 2 rfl) rfl (V_lg 0 rfl) rfl k) ?_
  refine K_getF kc1 (h' := 69) (pc2 := 8) 0 (by decide) (dk D_X1_add 3 rfl) fl_1_7 (by decide) (fun _ _ => rfl) rfl (fixH 68 1 (by decide) rfl) (by decide) ?_
  refine K_alen (c := 20) (pc2 := 9) (dk D_X1_add 4 rfl) rfl (fixH 69 20 (by decide) rfl) (by decide) (by decide) ?_
  refine K_if (pa := 46) (pb := 12) (lv2 := [(0, vR 68), (1, vI _), (2, vI _)]) (st2 := []) (fun ad S Q _ k1 k2 => V_cmplt (tgt := 46) (pc2 := 12) (dk D_X1_add 5 rfl) (by decide) rfl (fun q => k1 q) (fun q => k2 q)) (fun q1 => ?_) (fun q1 => ?_)
  · have h := h.1 q1
    exact h
  · have h := h.2 q1
    refine K_p (pc2 := 13) (lv2 := [(0, vR 68), (1, vI _), (2, vI _)]) (st2 := [vR 68]) (fun ad S Q _ k => V_aload_n (pc2 := 13) (dk D_X1_add 6 rfl) rfl (V_lg 0 rfl) rfl k) ?_
    refine K_p (pc2 := 14) (lv2 := [(0, vR 68), (1, vI _), (2, vI _)]) (st2 := [vR 68, vR 68]) (fun ad S Q _ k => V_aload_n (pc2 := 14) (dk D_X1_add 7 rfl) rfl (V_lg 0 rfl) rfl k) ?_
    refine K_getF kc1 (h' := 69) (pc2 := 17) 0 (by decide) (dk D_X1_add 8 rfl) fl_1_7 (by decide) (fun _ _ => rfl) rfl (fixH 68 1 (by decide) rfl) (by decide) ?_
    refine K_p (pc2 := 18) (lv2 := [(0, vR 68), (1, vI _), (2, vI _)]) (st2 := [vI _, vR 69, vR 68]) (fun ad S Q _ k => V_iconst (x := 2) (pc2 := 18) (dk D_X1_add 9 rfl) (by decide) rfl k) ?_
    refine K_p (pc2 := 19) (lv2 := [(0, vR 68), (1, vI _), (2, vI _)]) (st2 := [vR 68, vI _, vR 69, vR 68]) (fun ad S Q _ k => V_aload_n (pc2 := 19) (dk D_X1_add 10 rfl) rfl (V_lg 0 rfl) rfl k) ?_
    refine K_getI kc1 (pc2 := 22) 2 (dk D_X1_add 11 rfl) fl_1_17 (by decide) (fun _ _ => rfl) rfl (fixH 68 1 (by decide) rfl) ?_
    refine K_p (pc2 := 23) (lv2 := [(0, vR 68), (1, vI _), (2, vI _)]) (st2 := [vI _, vR 69, vR 68]) (fun ad S Q _ k => V_imul (pc2 := 23) (dk D_X1_add 12 rfl) rfl k) ?_
    obtain ⟨h2, h⟩ := h
    obtain ⟨n3, hx4, hl5, hb6, h⟩ := h
    rw [hx4]
    refine K_growB kc1 (n := n3) (pc2 := 29) 0 (okL.all _ ⟨(Or.inr ⟨Or.inl ⟨by decide, by decide⟩, by decide⟩), trivial, trivial, trivial⟩) (okS.all _ trivial) (dk D_X1_add 13 rfl) ml_1_21 (dk D_X1_add 14 rfl) fl_1_7 (by decide) (Or.inl rfl) (Or.inr ⟨_, rfl⟩) rfl (Nat.le_of_ble_eq_true rfl) h2 (fixH 68 1 (by decide) rfl) (by decide) (fixH 69 20 (by decide) rfl) (by unfold still; decide) (Or.inl (by decide)) rfl hl5 hb6 ?_
    have hz7 : n3 ≠ 0 := by omega
    have h := h _ rfl
    refine K_p (pc2 := 30) (lv2 := [(0, vR 68), (1, vI _), (2, vI _)]) (st2 := [vR 68]) (fun ad S Q _ k => V_aload_n (pc2 := 30) (dk D_X1_add 15 rfl) rfl (V_lg 0 rfl) rfl k) ?_
    refine K_p (pc2 := 31) (lv2 := [(0, vR 68), (1, vI _), (2, vI _)]) (st2 := [vR 68, vR 68]) (fun ad S Q _ k => V_aload_n (pc2 := 31) (dk D_X1_add 16 rfl) rfl (V_lg 0 rfl) rfl k) ?_
    refine K_getF kc1 (h' := 70) (pc2 := 34) 1 (by decide) (dk D_X1_add 17 rfl) fl_1_13 (by decide) (fun _ _ => rfl) rfl (fixH 68 1 (by decide) rfl) (by decide) ?_
    refine K_p (pc2 := 35) (lv2 := [(0, vR 68), (1, vI _), (2, vI _)]) (st2 := [vI _, vR 70, vR 68]) (fun ad S Q _ k => V_iconst (x := 2) (pc2 := 35) (dk D_X1_add 18 rfl) (by decide) rfl k) ?_
    refine K_p (pc2 := 36) (lv2 := [(0, vR 68), (1, vI _), (2, vI _)]) (st2 := [vR 68, vI _, vR 70, vR 68]) (fun ad S Q _ k => V_aload_n (pc2 := 36) (dk D_X1_add 19 rfl) rfl (V_lg 0 rfl) rfl k) ?_
    refine K_getI kc1 (pc2 := 39) 2 (dk D_X1_add 20 rfl) fl_1_17 (by decide) (fun _ _ => rfl) rfl (fixH 68 1 (by decide) rfl) ?_
    refine K_p (pc2 := 40) (lv2 := [(0, vR 68), (1, vI _), (2, vI _)]) (st2 := [vI _, vR 70, vR 68]) (fun ad S Q _ k => V_imul (pc2 := 40) (dk D_X1_add 21 rfl) rfl k) ?_
    obtain ⟨h9, h⟩ := h
    obtain ⟨n10, hx11, hl12, hb13, h⟩ := h
    rw [hx11]
    refine K_growI kc1 (n := n10) (pc2 := 46) 1 (okL.all _ ⟨(Or.inr ⟨Or.inl ⟨by decide, by decide⟩, by decide⟩), trivial, trivial, trivial⟩) (okS.all _ trivial) (dk D_X1_add 22 rfl) ml_1_27 (dk D_X1_add 23 rfl) fl_1_13 (by decide) (Or.inl rfl) (Or.inr ⟨_, rfl⟩) rfl (Nat.le_of_ble_eq_true rfl) h9 (fixH 68 1 (by decide) rfl) (by decide) (fixH 70 21 (by decide) rfl) (by unfold still; decide) (Or.inl (by decide)) hl12 hb13 ?_
    have hz14 : n10 ≠ 0 := by omega
    have h := h _ rfl
    exact h
theorem k_1_add_46 {X : Cx} {d : Nat} {κ : Km} {Q : Res → Km → Prop} (x1 : Int32) (x2 : Int32) (h : (vp_in (kI κ 68 2) (kW κ 69)) ∧ ∀ κ2 : Km, κ2 = cI κ 69 (((kI κ 68 2) : Int32).toNatClampNeg) (((x1 : Int32).toInt8.toInt32) : Int32).toInt8.toInt32 → (vp_in (kI κ2 68 2) (kW κ2 70)) ∧ ∀ κ4 : Km, κ4 = cI κ2 70 (((kI κ2 68 2) : Int32).toNatClampNeg) x2 → ∀ κ5 : Km, κ5 = cI κ4 68 2 ((kI κ4 68 2) + 1) → Q (.inl (some (vI ((kI κ5 68 2) - 1)))) κ5) : K X d MX1_add 46 [(0, vR 68), (1, vI x1), (2, vI x2)] [] κ Q := by
  refine K_p (pc2 := 47) (lv2 := [(0, vR 68), (1, vI _), (2, vI _)]) (st2 := [vR 68]) (fun ad S Q _ k => V_aload_n (pc2 := 47) (dk D_X1_add 24 rfl) rfl (V_lg 0 rfl) rfl k) ?_
  refine K_getF kc1 (h' := 69) (pc2 := 50) 0 (by decide) (dk D_X1_add 25 rfl) fl_1_7 (by decide) (fun _ _ => rfl) rfl (fixH 68 1 (by decide) rfl) (by decide) ?_
  refine K_p (pc2 := 51) (lv2 := [(0, vR 68), (1, vI _), (2, vI _)]) (st2 := [vR 68, vR 69]) (fun ad S Q _ k => V_aload_n (pc2 := 51) (dk D_X1_add 26 rfl) rfl (V_lg 0 rfl) rfl k) ?_
  refine K_getI kc1 (pc2 := 54) 2 (dk D_X1_add 27 rfl) fl_1_17 (by decide) (fun _ _ => rfl) rfl (fixH 68 1 (by decide) rfl) ?_
  refine K_p (pc2 := 55) (lv2 := [(0, vR 68), (1, vI _), (2, vI _)]) (st2 := [vI _, vI _, vR 69]) (fun ad S Q _ k => V_iload_n (pc2 := 55) (dk D_X1_add 28 rfl) rfl (V_lg 1 rfl) rfl k) ?_
  refine K_p (pc2 := 56) (lv2 := [(0, vR 68), (1, vI _), (2, vI _)]) (st2 := [vI _, vI _, vR 69]) (fun ad S Q _ k => V_i2b (pc2 := 56) (dk D_X1_add 29 rfl) rfl k) ?_
  obtain ⟨h1, h⟩ := h
  refine K_bast (pc2 := 57) (dk D_X1_add 30 rfl) rfl (fixH 69 20 (by decide) rfl) h1 ?_
  have h := h _ rfl
  refine K_p (pc2 := 58) (lv2 := [(0, vR 68), (1, vI _), (2, vI _)]) (st2 := [vR 68]) (fun ad S Q _ k => V_aload_n (pc2 := 58) (dk D_X1_add 31 rfl) rfl (V_lg 0 rfl) rfl k) ?_
  refine K_getF kc1 (h' := 70) (pc2 := 61) 1 (by decide) (dk D_X1_add 32 rfl) fl_1_13 (by decide) (fun _ _ => rfl) rfl (fixH 68 1 (by decide) rfl) (by decide) ?_
  refine K_p (pc2 := 62) (lv2 := [(0, vR 68), (1, vI _), (2, vI _)]) (st2 := [vR 68, vR 70]) (fun ad S Q _ k => V_aload_n (pc2 := 62) (dk D_X1_add 33 rfl) rfl (V_lg 0 rfl) rfl k) ?_
  refine K_getI kc1 (pc2 := 65) 2 (dk D_X1_add 34 rfl) fl_1_17 (by decide) (fun _ _ => rfl) rfl (fixH 68 1 (by decide) rfl) ?_
  refine K_p (pc2 := 66) (lv2 := [(0, vR 68), (1, vI _), (2, vI _)]) (st2 := [vI _, vI _, vR 70]) (fun ad S Q _ k => V_iload_n (pc2 := 66) (dk D_X1_add 35 rfl) rfl (V_lg 2 rfl) rfl k) ?_
  obtain ⟨h3, h⟩ := h
  refine K_iast (pc2 := 67) (dk D_X1_add 36 rfl) rfl (fixH 70 21 (by decide) rfl) h3 ?_
  have h := h _ rfl
  refine K_p (pc2 := 68) (lv2 := [(0, vR 68), (1, vI _), (2, vI _)]) (st2 := [vR 68]) (fun ad S Q _ k => V_aload_n (pc2 := 68) (dk D_X1_add 37 rfl) rfl (V_lg 0 rfl) rfl k) ?_
  refine K_p (pc2 := 69) (lv2 := [(0, vR 68), (1, vI _), (2, vI _)]) (st2 := [vR 68, vR 68]) (fun ad S Q _ k => V_dup (pc2 := 69) (dk D_X1_add 38 rfl) rfl rfl k) ?_
  refine K_getI kc1 (pc2 := 72) 2 (dk D_X1_add 39 rfl) fl_1_17 (by decide) (fun _ _ => rfl) rfl (fixH 68 1 (by decide) rfl) ?_
  refine K_p (pc2 := 73) (lv2 := [(0, vR 68), (1, vI _), (2, vI _)]) (st2 := [vI _, vI _, vR 68]) (fun ad S Q _ k => V_iconst (x := 1) (pc2 := 73) (dk D_X1_add 40 rfl) (by decide) rfl k) ?_
  refine K_p (pc2 := 74) (lv2 := [(0, vR 68), (1, vI _), (2, vI _)]) (st2 := [vI _, vR 68]) (fun ad S Q _ k => V_iadd (pc2 := 74) (dk D_X1_add 41 rfl) rfl k) ?_
  refine K_putI kc1 (pc2 := 77) 2 (dk D_X1_add 42 rfl) fl_1_17 (by decide) (Or.inl rfl) rfl rfl (fixH 68 1 (by decide) rfl) (by decide) ?_
  have h := h _ rfl
  refine K_p (pc2 := 78) (lv2 := [(0, vR 68), (1, vI _), (2, vI _)]) (st2 := [vR 68]) (fun ad S Q _ k => V_aload_n (pc2 := 78) (dk D_X1_add 43 rfl) rfl (V_lg 0 rfl) rfl k) ?_
  refine K_getI kc1 (pc2 := 81) 2 (dk D_X1_add 44 rfl) fl_1_17 (by decide) (fun _ _ => rfl) rfl (fixH 68 1 (by decide) rfl) ?_
  refine K_p (pc2 := 82) (lv2 := [(0, vR 68), (1, vI _), (2, vI _)]) (st2 := [vI _, vI _]) (fun ad S Q _ k => V_iconst (x := 1) (pc2 := 82) (dk D_X1_add 45 rfl) (by decide) rfl k) ?_
  refine K_p (pc2 := 83) (lv2 := [(0, vR 68), (1, vI _), (2, vI _)]) (st2 := [vI _]) (fun ad S Q _ k => V_isub (pc2 := 83) (dk D_X1_add 46 rfl) rfl k) ?_
  exact K_ret (r := .inl (some (vI _))) (fun ad S Q _ k => V_ireturn (dk D_X1_add 47 rfl) rfl k) h
theorem k_2_make_0 {X : Cx} {d : Nat} {κ : Km} {Q : Res → Km → Prop} (x1 : Int32) (x2 : Int32) (x3 : Int32) (x4 : Int32) (x5 : Int32) (h : (((((kI κ 84 1) * 8) + 8) ≤ (nI (kW κ 85)) → K X d MX2_make 40 [(0, vR 84), (1, vI x1), (2, vI x2), (3, vI x3), (4, vI x4), (5, vI x5), (6, vI ((kI κ 84 1) * 8))] [] κ Q) ∧ (¬ (((kI κ 84 1) * 8) + 8) ≤ (nI (kW κ 85)) → (2 ≤ d) ∧ ∃ n3 : Nat, (2 * (nI (kW κ 85))) = nI n3 ∧ kW κ 85 < n3 ∧ n3 ≤ 1000000 ∧ ∀ κ8 : Km, κ8 = cRow κ 85 n3 (fun i => if i < kW κ 85 then kI κ 85 i else 0) (fun _ => 0) → K X d MX2_make 40 [(0, vR 84), (1, vI x1), (2, vI x2), (3, vI x3), (4, vI x4), (5, vI x5), (6, vI ((kI κ 84 1) * 8))] [] κ8 Q))) : K X d MX2_make 0 [(0, vR 84), (1, vI x1), (2, vI x2), (3, vI x3), (4, vI x4), (5, vI x5)] [] κ Q := by
  refine K_p (pc2 := 1) (lv2 := [(0, vR 84), (1, vI _), (2, vI _), (3, vI _), (4, vI _), (5, vI _)]) (st2 := [vR 84]) (fun ad S Q _ k => V_aload_n (pc2 := 1) (dk D_X2_make 0 rfl) rfl (V_lg 0 rfl) rfl k) ?_
  refine K_getI kc2 (pc2 := 4) 1 (dk D_X2_make 1 rfl) fl_2_24 (by decide) (fun _ _ => rfl) rfl (fixH 84 2 (by decide) rfl) ?_
  refine K_p (pc2 := 6) (lv2 := [(0, vR 84), (1, vI _), (2, vI _), (3, vI _), (4, vI _), (5, vI _)]) (st2 := [vI _, vI _]) (fun ad S Q _ k => V_bipush (x := 8) (pc2 := 6) (dk D_X2_make 2 rfl) (by decide) rfl k) ?_
  refine K_p (pc2 := 7) (lv2 := [(0, vR 84), (1, vI _), (2, vI _), (3, vI _), (4, vI _), (5, vI _)]) (st2 := [vI _]) (fun ad S Q _ k => V_imul (pc2 := 7) (dk D_X2_make 3 rfl) rfl k) ?_
  refine K_p (pc2 := 9) (lv2 := [(0, vR 84), (1, vI _), (2, vI _), (3, vI _), (4, vI _), (5, vI _), (6, vI _)]) (st2 := []) (fun ad S Q _ k => V_istore (pc2 := 9) (lv2 := [(0, _), (1, _), (2, _), (3, _), (4, _), (5, _), (6, _)]) (dk D_X2_make 4 rfl) (by decide) rfl rfl k) ?_
  refine K_p (pc2 := 11) (lv2 := [(0, vR 84), (1, vI _), (2, vI _), (3, vI _), (4, vI _), (5, vI _), (6, vI _)]) (st2 := [vI _]) (fun ad S Q _ k => V_iload (pc2 := 11) (dk D_X2_make 5 rfl) (V_lg 6 rfl) rfl k) ?_
  refine K_p (pc2 := 13) (lv2 := [(0, vR 84), (1, vI _), (2, vI _), (3, vI _), (4, vI _), (5, vI _), (6, vI _)]) (st2 := [vI _, vI _]) (fun ad S Q _ k => V_bipush (x := 8) (pc2 := 13) (dk D_X2_make 6 rfl) (by decide) rfl k) ?_
  refine K_p (pc2 := 14) (lv2 := [(0, vR 84), (1, vI _), (2, vI _), (3, vI _), (4, vI _), (5, vI _), (6, vI _)]) (st2 := [vI _]) (fun ad S Q _ k => V_iadd (pc2 := 14) (dk D_X2_make 7 rfl) rfl k) ?_
  refine K_p (pc2 := 15) (lv2 := [(0, vR 84), (1, vI _), (2, vI _), (3, vI _), (4, vI _), (5, vI _), (6, vI _)]) (st2 := [vR 84, vI _]) (fun ad S Q _ k => V_aload_n (pc2 := 15) (dk D_X2_make 8 rfl) rfl (V_lg 0 rfl) rfl k) ?_
  refine K_getF kc2 (h' := 85) (pc2 := 18) 0 (by decide) (dk D_X2_make 9 rfl) fl_2_11 (by decide) (fun _ _ => rfl) rfl (fixH 84 2 (by decide) rfl) (by decide) ?_
  refine K_alen (c := 21) (pc2 := 19) (dk D_X2_make 10 rfl) rfl (fixH 85 21 (by decide) rfl) (by decide) (by decide) ?_
  refine K_if (pa := 40) (pb := 22) (lv2 := [(0, vR 84), (1, vI _), (2, vI _), (3, vI _), (4, vI _), (5, vI _), (6, vI _)]) (st2 := []) (fun ad S Q _ k1 k2 => V_cmple (tgt := 40) (pc2 := 22) (dk D_X2_make 11 rfl) (by decide) rfl (fun q => k1 q) (fun q => k2 q)) (fun q1 => ?_) (fun q1 => ?_)
  · have h := h.1 q1
    exact h
  · have h := h.2 q1
    refine K_p (pc2 := 23) (lv2 := [(0, vR 84), (1, vI _), (2, vI _), (3, vI _), (4, vI _), (5, vI _), (6, vI _)]) (st2 := [vR 84]) (fun ad S Q _ k => V_aload_n (pc2 := 23) (dk D_X2_make 12 rfl) rfl (V_lg 0 rfl) rfl k) ?_
    refine K_p (pc2 := 24) (lv2 := [(0, vR 84), (1, vI _), (2, vI _), (3, vI _), (4, vI _), (5, vI _), (6, vI _)]) (st2 := [vR 84, vR 84]) (fun ad S Q _ k => V_aload_n (pc2 := 24) (dk D_X2_make 13 rfl) rfl (V_lg 0 rfl) rfl k) ?_
    refine K_getF kc2 (h' := 85) (pc2 := 27) 0 (by decide) (dk D_X2_make 14 rfl) fl_2_11 (by decide) (fun _ _ => rfl) rfl (fixH 84 2 (by decide) rfl) (by decide) ?_
    refine K_p (pc2 := 28) (lv2 := [(0, vR 84), (1, vI _), (2, vI _), (3, vI _), (4, vI _), (5, vI _), (6, vI _)]) (st2 := [vI _, vR 85, vR 84]) (fun ad S Q _ k => V_iconst (x := 2) (pc2 := 28) (dk D_X2_make 15 rfl) (by decide) rfl k) ?_
    refine K_p (pc2 := 29) (lv2 := [(0, vR 84), (1, vI _), (2, vI _), (3, vI _), (4, vI _), (5, vI _), (6, vI _)]) (st2 := [vR 84, vI _, vR 85, vR 84]) (fun ad S Q _ k => V_aload_n (pc2 := 29) (dk D_X2_make 16 rfl) rfl (V_lg 0 rfl) rfl k) ?_
    refine K_getF kc2 (h' := 85) (pc2 := 32) 0 (by decide) (dk D_X2_make 17 rfl) fl_2_11 (by decide) (fun _ _ => rfl) rfl (fixH 84 2 (by decide) rfl) (by decide) ?_
    refine K_alen (c := 21) (pc2 := 33) (dk D_X2_make 18 rfl) rfl (fixH 85 21 (by decide) rfl) (by decide) (by decide) ?_
    refine K_p (pc2 := 34) (lv2 := [(0, vR 84), (1, vI _), (2, vI _), (3, vI _), (4, vI _), (5, vI _), (6, vI _)]) (st2 := [vI _, vR 85, vR 84]) (fun ad S Q _ k => V_imul (pc2 := 34) (dk D_X2_make 19 rfl) rfl k) ?_
    obtain ⟨h2, h⟩ := h
    obtain ⟨n3, hx4, hl5, hb6, h⟩ := h
    rw [hx4]
    refine K_growI kc2 (n := n3) (pc2 := 40) 0 (okL.all _ ⟨(Or.inr ⟨Or.inl ⟨by decide, by decide⟩, by decide⟩), trivial, trivial, trivial, trivial, trivial, trivial, trivial⟩) (okS.all _ trivial) (dk D_X2_make 20 rfl) ml_2_39 (dk D_X2_make 21 rfl) fl_2_11 (by decide) (Or.inl rfl) (Or.inr ⟨_, rfl⟩) rfl (Nat.le_of_ble_eq_true rfl) h2 (fixH 84 2 (by decide) rfl) (by decide) (fixH 85 21 (by decide) rfl) (by unfold still; decide) (Or.inl (by decide)) hl5 hb6 ?_
    have hz7 : n3 ≠ 0 := by omega
    have h := h _ rfl
    exact h
theorem k_2_make_40 {X : Cx} {d : Nat} {κ : Km} {Q : Res → Km → Prop} (x1 : Int32) (x2 : Int32) (x3 : Int32) (x4 : Int32) (x5 : Int32) (x6 : Int32) (h : (vp_in (x6 + 0) (kW κ 85)) ∧ ∀ κ2 : Km, κ2 = cI κ 85 (((x6 + 0) : Int32).toNatClampNeg) x1 → (vp_in (x6 + 1) (kW κ2 85)) ∧ ∀ κ4 : Km, κ4 = cI κ2 85 (((x6 + 1) : Int32).toNatClampNeg) x2 → (vp_in (x6 + 2) (kW κ4 85)) ∧ ∀ κ6 : Km, κ6 = cI κ4 85 (((x6 + 2) : Int32).toNatClampNeg) x3 → (vp_in (x6 + 3) (kW κ6 85)) ∧ ∀ κ8 : Km, κ8 = cI κ6 85 (((x6 + 3) : Int32).toNatClampNeg) x4 → (vp_in (x6 + 4) (kW κ8 85)) ∧ ∀ κ10 : Km, κ10 = cI κ8 85 (((x6 + 4) : Int32).toNatClampNeg) x5 → (vp_in (x6 + 5) (kW κ10 85)) ∧ ∀ κ12 : Km, κ12 = cI κ10 85 (((x6 + 5) : Int32).toNatClampNeg) 0 → (vp_in (x6 + 6) (kW κ12 85)) ∧ ∀ κ14 : Km, κ14 = cI κ12 85 (((x6 + 6) : Int32).toNatClampNeg) 0 → (vp_in (x6 + 7) (kW κ14 85)) ∧ ∀ κ16 : Km, κ16 = cI κ14 85 (((x6 + 7) : Int32).toNatClampNeg) 0 → ∀ κ17 : Km, κ17 = cI κ16 84 1 ((kI κ16 84 1) + 1) → Q (.inl (some (vI ((kI κ17 84 1) - 1)))) κ17) : K X d MX2_make 40 [(0, vR 84), (1, vI x1), (2, vI x2), (3, vI x3), (4, vI x4), (5, vI x5), (6, vI x6)] [] κ Q := by
  refine K_p (pc2 := 41) (lv2 := [(0, vR 84), (1, vI _), (2, vI _), (3, vI _), (4, vI _), (5, vI _), (6, vI _)]) (st2 := [vR 84]) (fun ad S Q _ k => V_aload_n (pc2 := 41) (dk D_X2_make 22 rfl) rfl (V_lg 0 rfl) rfl k) ?_
  refine K_getF kc2 (h' := 85) (pc2 := 44) 0 (by decide) (dk D_X2_make 23 rfl) fl_2_11 (by decide) (fun _ _ => rfl) rfl (fixH 84 2 (by decide) rfl) (by decide) ?_
  refine K_p (pc2 := 46) (lv2 := [(0, vR 84), (1, vI _), (2, vI _), (3, vI _), (4, vI _), (5, vI _), (6, vI _)]) (st2 := [vI _, vR 85]) (fun ad S Q _ k => V_iload (pc2 := 46) (dk D_X2_make 24 rfl) (V_lg 6 rfl) rfl k) ?_
  refine K_p (pc2 := 47) (lv2 := [(0, vR 84), (1, vI _), (2, vI _), (3, vI _), (4, vI _), (5, vI _), (6, vI _)]) (st2 := [vI _, vI _, vR 85]) (fun ad S Q _ k => V_iconst (x := 0) (pc2 := 47) (dk D_X2_make 25 rfl) (by decide) rfl k) ?_
  refine K_p (pc2 := 48) (lv2 := [(0, vR 84), (1, vI _), (2, vI _), (3, vI _), (4, vI _), (5, vI _), (6, vI _)]) (st2 := [vI _, vR 85]) (fun ad S Q _ k => V_iadd (pc2 := 48) (dk D_X2_make 26 rfl) rfl k) ?_
  refine K_p (pc2 := 49) (lv2 := [(0, vR 84), (1, vI _), (2, vI _), (3, vI _), (4, vI _), (5, vI _), (6, vI _)]) (st2 := [vI _, vI _, vR 85]) (fun ad S Q _ k => V_iload_n (pc2 := 49) (dk D_X2_make 27 rfl) rfl (V_lg 1 rfl) rfl k) ?_
  obtain ⟨h1, h⟩ := h
  refine K_iast (pc2 := 50) (dk D_X2_make 28 rfl) rfl (fixH 85 21 (by decide) rfl) h1 ?_
  have h := h _ rfl
  refine K_p (pc2 := 51) (lv2 := [(0, vR 84), (1, vI _), (2, vI _), (3, vI _), (4, vI _), (5, vI _), (6, vI _)]) (st2 := [vR 84]) (fun ad S Q _ k => V_aload_n (pc2 := 51) (dk D_X2_make 29 rfl) rfl (V_lg 0 rfl) rfl k) ?_
  refine K_getF kc2 (h' := 85) (pc2 := 54) 0 (by decide) (dk D_X2_make 30 rfl) fl_2_11 (by decide) (fun _ _ => rfl) rfl (fixH 84 2 (by decide) rfl) (by decide) ?_
  refine K_p (pc2 := 56) (lv2 := [(0, vR 84), (1, vI _), (2, vI _), (3, vI _), (4, vI _), (5, vI _), (6, vI _)]) (st2 := [vI _, vR 85]) (fun ad S Q _ k => V_iload (pc2 := 56) (dk D_X2_make 31 rfl) (V_lg 6 rfl) rfl k) ?_
  refine K_p (pc2 := 57) (lv2 := [(0, vR 84), (1, vI _), (2, vI _), (3, vI _), (4, vI _), (5, vI _), (6, vI _)]) (st2 := [vI _, vI _, vR 85]) (fun ad S Q _ k => V_iconst (x := 1) (pc2 := 57) (dk D_X2_make 32 rfl) (by decide) rfl k) ?_
  refine K_p (pc2 := 58) (lv2 := [(0, vR 84), (1, vI _), (2, vI _), (3, vI _), (4, vI _), (5, vI _), (6, vI _)]) (st2 := [vI _, vR 85]) (fun ad S Q _ k => V_iadd (pc2 := 58) (dk D_X2_make 33 rfl) rfl k) ?_
  refine K_p (pc2 := 59) (lv2 := [(0, vR 84), (1, vI _), (2, vI _), (3, vI _), (4, vI _), (5, vI _), (6, vI _)]) (st2 := [vI _, vI _, vR 85]) (fun ad S Q _ k => V_iload_n (pc2 := 59) (dk D_X2_make 34 rfl) rfl (V_lg 2 rfl) rfl k) ?_
  obtain ⟨h3, h⟩ := h
  refine K_iast (pc2 := 60) (dk D_X2_make 35 rfl) rfl (fixH 85 21 (by decide) rfl) h3 ?_
  have h := h _ rfl
  refine K_p (pc2 := 61) (lv2 := [(0, vR 84), (1, vI _), (2, vI _), (3, vI _), (4, vI _), (5, vI _), (6, vI _)]) (st2 := [vR 84]) (fun ad S Q _ k => V_aload_n (pc2 := 61) (dk D_X2_make 36 rfl) rfl (V_lg 0 rfl) rfl k) ?_
  refine K_getF kc2 (h' := 85) (pc2 := 64) 0 (by decide) (dk D_X2_make 37 rfl) fl_2_11 (by decide) (fun _ _ => rfl) rfl (fixH 84 2 (by decide) rfl) (by decide) ?_
  refine K_p (pc2 := 66) (lv2 := [(0, vR 84), (1, vI _), (2, vI _), (3, vI _), (4, vI _), (5, vI _), (6, vI _)]) (st2 := [vI _, vR 85]) (fun ad S Q _ k => V_iload (pc2 := 66) (dk D_X2_make 38 rfl) (V_lg 6 rfl) rfl k) ?_
  refine K_p (pc2 := 67) (lv2 := [(0, vR 84), (1, vI _), (2, vI _), (3, vI _), (4, vI _), (5, vI _), (6, vI _)]) (st2 := [vI _, vI _, vR 85]) (fun ad S Q _ k => V_iconst (x := 2) (pc2 := 67) (dk D_X2_make 39 rfl) (by decide) rfl k) ?_
  refine K_p (pc2 := 68) (lv2 := [(0, vR 84), (1, vI _), (2, vI _), (3, vI _), (4, vI _), (5, vI _), (6, vI _)]) (st2 := [vI _, vR 85]) (fun ad S Q _ k => V_iadd (pc2 := 68) (dk D_X2_make 40 rfl) rfl k) ?_
  refine K_p (pc2 := 69) (lv2 := [(0, vR 84), (1, vI _), (2, vI _), (3, vI _), (4, vI _), (5, vI _), (6, vI _)]) (st2 := [vI _, vI _, vR 85]) (fun ad S Q _ k => V_iload_n (pc2 := 69) (dk D_X2_make 41 rfl) rfl (V_lg 3 rfl) rfl k) ?_
  obtain ⟨h5, h⟩ := h
  refine K_iast (pc2 := 70) (dk D_X2_make 42 rfl) rfl (fixH 85 21 (by decide) rfl) h5 ?_
  have h := h _ rfl
  refine K_p (pc2 := 71) (lv2 := [(0, vR 84), (1, vI _), (2, vI _), (3, vI _), (4, vI _), (5, vI _), (6, vI _)]) (st2 := [vR 84]) (fun ad S Q _ k => V_aload_n (pc2 := 71) (dk D_X2_make 43 rfl) rfl (V_lg 0 rfl) rfl k) ?_
  refine K_getF kc2 (h' := 85) (pc2 := 74) 0 (by decide) (dk D_X2_make 44 rfl) fl_2_11 (by decide) (fun _ _ => rfl) rfl (fixH 84 2 (by decide) rfl) (by decide) ?_
  refine K_p (pc2 := 76) (lv2 := [(0, vR 84), (1, vI _), (2, vI _), (3, vI _), (4, vI _), (5, vI _), (6, vI _)]) (st2 := [vI _, vR 85]) (fun ad S Q _ k => V_iload (pc2 := 76) (dk D_X2_make 45 rfl) (V_lg 6 rfl) rfl k) ?_
  refine K_p (pc2 := 77) (lv2 := [(0, vR 84), (1, vI _), (2, vI _), (3, vI _), (4, vI _), (5, vI _), (6, vI _)]) (st2 := [vI _, vI _, vR 85]) (fun ad S Q _ k => V_iconst (x := 3) (pc2 := 77) (dk D_X2_make 46 rfl) (by decide) rfl k) ?_
  refine K_p (pc2 := 78) (lv2 := [(0, vR 84), (1, vI _), (2, vI _), (3, vI _), (4, vI _), (5, vI _), (6, vI _)]) (st2 := [vI _, vR 85]) (fun ad S Q _ k => V_iadd (pc2 := 78) (dk D_X2_make 47 rfl) rfl k) ?_
  refine K_p (pc2 := 80) (lv2 := [(0, vR 84), (1, vI _), (2, vI _), (3, vI _), (4, vI _), (5, vI _), (6, vI _)]) (st2 := [vI _, vI _, vR 85]) (fun ad S Q _ k => V_iload (pc2 := 80) (dk D_X2_make 48 rfl) (V_lg 4 rfl) rfl k) ?_
  obtain ⟨h7, h⟩ := h
  refine K_iast (pc2 := 81) (dk D_X2_make 49 rfl) rfl (fixH 85 21 (by decide) rfl) h7 ?_
  have h := h _ rfl
  refine K_p (pc2 := 82) (lv2 := [(0, vR 84), (1, vI _), (2, vI _), (3, vI _), (4, vI _), (5, vI _), (6, vI _)]) (st2 := [vR 84]) (fun ad S Q _ k => V_aload_n (pc2 := 82) (dk D_X2_make 50 rfl) rfl (V_lg 0 rfl) rfl k) ?_
  refine K_getF kc2 (h' := 85) (pc2 := 85) 0 (by decide) (dk D_X2_make 51 rfl) fl_2_11 (by decide) (fun _ _ => rfl) rfl (fixH 84 2 (by decide) rfl) (by decide) ?_
  refine K_p (pc2 := 87) (lv2 := [(0, vR 84), (1, vI _), (2, vI _), (3, vI _), (4, vI _), (5, vI _), (6, vI _)]) (st2 := [vI _, vR 85]) (fun ad S Q _ k => V_iload (pc2 := 87) (dk D_X2_make 52 rfl) (V_lg 6 rfl) rfl k) ?_
  refine K_p (pc2 := 88) (lv2 := [(0, vR 84), (1, vI _), (2, vI _), (3, vI _), (4, vI _), (5, vI _), (6, vI _)]) (st2 := [vI _, vI _, vR 85]) (fun ad S Q _ k => V_iconst (x := 4) (pc2 := 88) (dk D_X2_make 53 rfl) (by decide) rfl k) ?_
  refine K_p (pc2 := 89) (lv2 := [(0, vR 84), (1, vI _), (2, vI _), (3, vI _), (4, vI _), (5, vI _), (6, vI _)]) (st2 := [vI _, vR 85]) (fun ad S Q _ k => V_iadd (pc2 := 89) (dk D_X2_make 54 rfl) rfl k) ?_
  refine K_p (pc2 := 91) (lv2 := [(0, vR 84), (1, vI _), (2, vI _), (3, vI _), (4, vI _), (5, vI _), (6, vI _)]) (st2 := [vI _, vI _, vR 85]) (fun ad S Q _ k => V_iload (pc2 := 91) (dk D_X2_make 55 rfl) (V_lg 5 rfl) rfl k) ?_
  obtain ⟨h9, h⟩ := h
  refine K_iast (pc2 := 92) (dk D_X2_make 56 rfl) rfl (fixH 85 21 (by decide) rfl) h9 ?_
  have h := h _ rfl
  refine K_p (pc2 := 93) (lv2 := [(0, vR 84), (1, vI _), (2, vI _), (3, vI _), (4, vI _), (5, vI _), (6, vI _)]) (st2 := [vR 84]) (fun ad S Q _ k => V_aload_n (pc2 := 93) (dk D_X2_make 57 rfl) rfl (V_lg 0 rfl) rfl k) ?_
  refine K_getF kc2 (h' := 85) (pc2 := 96) 0 (by decide) (dk D_X2_make 58 rfl) fl_2_11 (by decide) (fun _ _ => rfl) rfl (fixH 84 2 (by decide) rfl) (by decide) ?_
  refine K_p (pc2 := 98) (lv2 := [(0, vR 84), (1, vI _), (2, vI _), (3, vI _), (4, vI _), (5, vI _), (6, vI _)]) (st2 := [vI _, vR 85]) (fun ad S Q _ k => V_iload (pc2 := 98) (dk D_X2_make 59 rfl) (V_lg 6 rfl) rfl k) ?_
  refine K_p (pc2 := 99) (lv2 := [(0, vR 84), (1, vI _), (2, vI _), (3, vI _), (4, vI _), (5, vI _), (6, vI _)]) (st2 := [vI _, vI _, vR 85]) (fun ad S Q _ k => V_iconst (x := 5) (pc2 := 99) (dk D_X2_make 60 rfl) (by decide) rfl k) ?_
  refine K_p (pc2 := 100) (lv2 := [(0, vR 84), (1, vI _), (2, vI _), (3, vI _), (4, vI _), (5, vI _), (6, vI _)]) (st2 := [vI _, vR 85]) (fun ad S Q _ k => V_iadd (pc2 := 100) (dk D_X2_make 61 rfl) rfl k) ?_
  refine K_p (pc2 := 101) (lv2 := [(0, vR 84), (1, vI _), (2, vI _), (3, vI _), (4, vI _), (5, vI _), (6, vI _)]) (st2 := [vI _, vI _, vR 85]) (fun ad S Q _ k => V_iconst (x := 0) (pc2 := 101) (dk D_X2_make 62 rfl) (by decide) rfl k) ?_
  obtain ⟨h11, h⟩ := h
  refine K_iast (pc2 := 102) (dk D_X2_make 63 rfl) rfl (fixH 85 21 (by decide) rfl) h11 ?_
  have h := h _ rfl
  refine K_p (pc2 := 103) (lv2 := [(0, vR 84), (1, vI _), (2, vI _), (3, vI _), (4, vI _), (5, vI _), (6, vI _)]) (st2 := [vR 84]) (fun ad S Q _ k => V_aload_n (pc2 := 103) (dk D_X2_make 64 rfl) rfl (V_lg 0 rfl) rfl k) ?_
  refine K_getF kc2 (h' := 85) (pc2 := 106) 0 (by decide) (dk D_X2_make 65 rfl) fl_2_11 (by decide) (fun _ _ => rfl) rfl (fixH 84 2 (by decide) rfl) (by decide) ?_
  refine K_p (pc2 := 108) (lv2 := [(0, vR 84), (1, vI _), (2, vI _), (3, vI _), (4, vI _), (5, vI _), (6, vI _)]) (st2 := [vI _, vR 85]) (fun ad S Q _ k => V_iload (pc2 := 108) (dk D_X2_make 66 rfl) (V_lg 6 rfl) rfl k) ?_
  refine K_p (pc2 := 110) (lv2 := [(0, vR 84), (1, vI _), (2, vI _), (3, vI _), (4, vI _), (5, vI _), (6, vI _)]) (st2 := [vI _, vI _, vR 85]) (fun ad S Q _ k => V_bipush (x := 6) (pc2 := 110) (dk D_X2_make 67 rfl) (by decide) rfl k) ?_
  refine K_p (pc2 := 111) (lv2 := [(0, vR 84), (1, vI _), (2, vI _), (3, vI _), (4, vI _), (5, vI _), (6, vI _)]) (st2 := [vI _, vR 85]) (fun ad S Q _ k => V_iadd (pc2 := 111) (dk D_X2_make 68 rfl) rfl k) ?_
  refine K_p (pc2 := 112) (lv2 := [(0, vR 84), (1, vI _), (2, vI _), (3, vI _), (4, vI _), (5, vI _), (6, vI _)]) (st2 := [vI _, vI _, vR 85]) (fun ad S Q _ k => V_iconst (x := 0) (pc2 := 112) (dk D_X2_make 69 rfl) (by decide) rfl k) ?_
  obtain ⟨h13, h⟩ := h
  refine K_iast (pc2 := 113) (dk D_X2_make 70 rfl) rfl (fixH 85 21 (by decide) rfl) h13 ?_
  have h := h _ rfl
  refine K_p (pc2 := 114) (lv2 := [(0, vR 84), (1, vI _), (2, vI _), (3, vI _), (4, vI _), (5, vI _), (6, vI _)]) (st2 := [vR 84]) (fun ad S Q _ k => V_aload_n (pc2 := 114) (dk D_X2_make 71 rfl) rfl (V_lg 0 rfl) rfl k) ?_
  refine K_getF kc2 (h' := 85) (pc2 := 117) 0 (by decide) (dk D_X2_make 72 rfl) fl_2_11 (by decide) (fun _ _ => rfl) rfl (fixH 84 2 (by decide) rfl) (by decide) ?_
  refine K_p (pc2 := 119) (lv2 := [(0, vR 84), (1, vI _), (2, vI _), (3, vI _), (4, vI _), (5, vI _), (6, vI _)]) (st2 := [vI _, vR 85]) (fun ad S Q _ k => V_iload (pc2 := 119) (dk D_X2_make 73 rfl) (V_lg 6 rfl) rfl k) ?_
  refine K_p (pc2 := 121) (lv2 := [(0, vR 84), (1, vI _), (2, vI _), (3, vI _), (4, vI _), (5, vI _), (6, vI _)]) (st2 := [vI _, vI _, vR 85]) (fun ad S Q _ k => V_bipush (x := 7) (pc2 := 121) (dk D_X2_make 74 rfl) (by decide) rfl k) ?_
  refine K_p (pc2 := 122) (lv2 := [(0, vR 84), (1, vI _), (2, vI _), (3, vI _), (4, vI _), (5, vI _), (6, vI _)]) (st2 := [vI _, vR 85]) (fun ad S Q _ k => V_iadd (pc2 := 122) (dk D_X2_make 75 rfl) rfl k) ?_
  refine K_p (pc2 := 123) (lv2 := [(0, vR 84), (1, vI _), (2, vI _), (3, vI _), (4, vI _), (5, vI _), (6, vI _)]) (st2 := [vI _, vI _, vR 85]) (fun ad S Q _ k => V_iconst (x := 0) (pc2 := 123) (dk D_X2_make 76 rfl) (by decide) rfl k) ?_
  obtain ⟨h15, h⟩ := h
  refine K_iast (pc2 := 124) (dk D_X2_make 77 rfl) rfl (fixH 85 21 (by decide) rfl) h15 ?_
  have h := h _ rfl
  refine K_p (pc2 := 125) (lv2 := [(0, vR 84), (1, vI _), (2, vI _), (3, vI _), (4, vI _), (5, vI _), (6, vI _)]) (st2 := [vR 84]) (fun ad S Q _ k => V_aload_n (pc2 := 125) (dk D_X2_make 78 rfl) rfl (V_lg 0 rfl) rfl k) ?_
  refine K_p (pc2 := 126) (lv2 := [(0, vR 84), (1, vI _), (2, vI _), (3, vI _), (4, vI _), (5, vI _), (6, vI _)]) (st2 := [vR 84, vR 84]) (fun ad S Q _ k => V_dup (pc2 := 126) (dk D_X2_make 79 rfl) rfl rfl k) ?_
  refine K_getI kc2 (pc2 := 129) 1 (dk D_X2_make 80 rfl) fl_2_24 (by decide) (fun _ _ => rfl) rfl (fixH 84 2 (by decide) rfl) ?_
  refine K_p (pc2 := 130) (lv2 := [(0, vR 84), (1, vI _), (2, vI _), (3, vI _), (4, vI _), (5, vI _), (6, vI _)]) (st2 := [vI _, vI _, vR 84]) (fun ad S Q _ k => V_iconst (x := 1) (pc2 := 130) (dk D_X2_make 81 rfl) (by decide) rfl k) ?_
  refine K_p (pc2 := 131) (lv2 := [(0, vR 84), (1, vI _), (2, vI _), (3, vI _), (4, vI _), (5, vI _), (6, vI _)]) (st2 := [vI _, vR 84]) (fun ad S Q _ k => V_iadd (pc2 := 131) (dk D_X2_make 82 rfl) rfl k) ?_
  refine K_putI kc2 (pc2 := 134) 1 (dk D_X2_make 83 rfl) fl_2_24 (by decide) (Or.inl rfl) rfl rfl (fixH 84 2 (by decide) rfl) (by decide) ?_
  have h := h _ rfl
  refine K_p (pc2 := 135) (lv2 := [(0, vR 84), (1, vI _), (2, vI _), (3, vI _), (4, vI _), (5, vI _), (6, vI _)]) (st2 := [vR 84]) (fun ad S Q _ k => V_aload_n (pc2 := 135) (dk D_X2_make 84 rfl) rfl (V_lg 0 rfl) rfl k) ?_
  refine K_getI kc2 (pc2 := 138) 1 (dk D_X2_make 85 rfl) fl_2_24 (by decide) (fun _ _ => rfl) rfl (fixH 84 2 (by decide) rfl) ?_
  refine K_p (pc2 := 139) (lv2 := [(0, vR 84), (1, vI _), (2, vI _), (3, vI _), (4, vI _), (5, vI _), (6, vI _)]) (st2 := [vI _, vI _]) (fun ad S Q _ k => V_iconst (x := 1) (pc2 := 139) (dk D_X2_make 86 rfl) (by decide) rfl k) ?_
  refine K_p (pc2 := 140) (lv2 := [(0, vR 84), (1, vI _), (2, vI _), (3, vI _), (4, vI _), (5, vI _), (6, vI _)]) (st2 := [vI _]) (fun ad S Q _ k => V_isub (pc2 := 140) (dk D_X2_make 87 rfl) rfl k) ?_
  exact K_ret (r := .inl (some (vI _))) (fun ad S Q _ k => V_ireturn (dk D_X2_make 88 rfl) rfl k) h
theorem k_4_add_0 {X : Cx} {d : Nat} {κ : Km} {Q : Res → Km → Prop} (r0 : Nat) (x1 : Int32) (x2 : Int32) (h : (isH κ r0 4) ∧ ∀ κ2 : Km, κ2 = cI κ r0 2 ((kI κ r0 2) + 1) → (((kI κ2 r0 1) < 300 → (r0 = 80 ∨ r0 = 82) ∧ (isH κ2 (r0 + 1) 21) ∧ ((((2 * (kI κ2 r0 1)) + 1) < (nI (kW κ2 (r0 + 1))) → K X d MX4_add 55 [(0, vR r0), (1, vI x1), (2, vI x2)] [] κ2 Q) ∧ (¬ ((2 * (kI κ2 r0 1)) + 1) < (nI (kW κ2 (r0 + 1))) → (2 ≤ d) ∧ ∃ n8 : Nat, (2 * (nI (kW κ2 (r0 + 1)))) = nI n8 ∧ kW κ2 (r0 + 1) < n8 ∧ n8 ≤ 1000000 ∧ ∀ κ13 : Km, κ13 = cRow κ2 (r0 + 1) n8 (fun i => if i < kW κ2 (r0 + 1) then kI κ2 (r0 + 1) i else 0) (fun _ => 0) → K X d MX4_add 55 [(0, vR r0), (1, vI x1), (2, vI x2)] [] κ13 Q))) ∧ (¬ (kI κ2 r0 1) < 300 → Q (.inl none) κ2))) : K X d MX4_add 0 [(0, vR r0), (1, vI x1), (2, vI x2)] [] κ Q := by
  refine K_p (pc2 := 1) (lv2 := [(0, vR _), (1, vI _), (2, vI _)]) (st2 := [vR _]) (fun ad S Q _ k => V_aload_n (pc2 := 1) (dk D_X4_add 0 rfl) rfl (V_lg 0 rfl) rfl k) ?_
  refine K_p (pc2 := 2) (lv2 := [(0, vR _), (1, vI _), (2, vI _)]) (st2 := [vR _, vR _]) (fun ad S Q _ k => V_dup (pc2 := 2) (dk D_X4_add 1 rfl) rfl rfl k) ?_
  obtain ⟨h1, h⟩ := h
  refine K_getI kc4 (pc2 := 5) 2 (dk D_X4_add 2 rfl) fl_4_19 (by decide) (fun _ _ => rfl) rfl h1 ?_
  refine K_p (pc2 := 6) (lv2 := [(0, vR _), (1, vI _), (2, vI _)]) (st2 := [vI _, vI _, vR _]) (fun ad S Q _ k => V_iconst (x := 1) (pc2 := 6) (dk D_X4_add 3 rfl) (by decide) rfl k) ?_
  refine K_p (pc2 := 7) (lv2 := [(0, vR _), (1, vI _), (2, vI _)]) (st2 := [vI _, vR _]) (fun ad S Q _ k => V_iadd (pc2 := 7) (dk D_X4_add 4 rfl) rfl k) ?_
  refine K_putI kc4 (pc2 := 10) 2 (dk D_X4_add 5 rfl) fl_4_19 (by decide) (Or.inl rfl) rfl rfl h1 (isH.n69 h1 (by decide)) ?_
  have h := h _ rfl
  refine K_p (pc2 := 11) (lv2 := [(0, vR _), (1, vI _), (2, vI _)]) (st2 := [vR _]) (fun ad S Q _ k => V_aload_n (pc2 := 11) (dk D_X4_add 6 rfl) rfl (V_lg 0 rfl) rfl k) ?_
  refine K_getI kc4 (pc2 := 14) 1 (dk D_X4_add 7 rfl) fl_4_15 (by decide) (fun _ _ => rfl) rfl h1 ?_
  refine K_p (pc2 := 17) (lv2 := [(0, vR _), (1, vI _), (2, vI _)]) (st2 := [vI _, vI _]) (fun ad S Q _ k => V_sipush (x := 300) (pc2 := 17) (dk D_X4_add 8 rfl) (by decide) rfl k) ?_
  refine K_if (pa := 21) (pb := 20) (lv2 := [(0, vR _), (1, vI _), (2, vI _)]) (st2 := []) (fun ad S Q _ k1 k2 => V_cmplt (tgt := 21) (pc2 := 20) (dk D_X4_add 9 rfl) (by decide) rfl (fun q => k1 q) (fun q => k2 q)) (fun q3 => ?_) (fun q3 => ?_)
  · have h := h.1 q3
    refine K_p (pc2 := 22) (lv2 := [(0, vR _), (1, vI _), (2, vI _)]) (st2 := [vI _]) (fun ad S Q _ k => V_iconst (x := 2) (pc2 := 22) (dk D_X4_add 11 rfl) (by decide) rfl k) ?_
    refine K_p (pc2 := 23) (lv2 := [(0, vR _), (1, vI _), (2, vI _)]) (st2 := [vR _, vI _]) (fun ad S Q _ k => V_aload_n (pc2 := 23) (dk D_X4_add 12 rfl) rfl (V_lg 0 rfl) rfl k) ?_
    refine K_getI kc4 (pc2 := 26) 1 (dk D_X4_add 13 rfl) fl_4_15 (by decide) (fun _ _ => rfl) rfl h1 ?_
    refine K_p (pc2 := 27) (lv2 := [(0, vR _), (1, vI _), (2, vI _)]) (st2 := [vI _]) (fun ad S Q _ k => V_imul (pc2 := 27) (dk D_X4_add 14 rfl) rfl k) ?_
    refine K_p (pc2 := 28) (lv2 := [(0, vR _), (1, vI _), (2, vI _)]) (st2 := [vI _, vI _]) (fun ad S Q _ k => V_iconst (x := 1) (pc2 := 28) (dk D_X4_add 15 rfl) (by decide) rfl k) ?_
    refine K_p (pc2 := 29) (lv2 := [(0, vR _), (1, vI _), (2, vI _)]) (st2 := [vI _]) (fun ad S Q _ k => V_iadd (pc2 := 29) (dk D_X4_add 16 rfl) rfl k) ?_
    refine K_p (pc2 := 30) (lv2 := [(0, vR _), (1, vI _), (2, vI _)]) (st2 := [vR _, vI _]) (fun ad S Q _ k => V_aload_n (pc2 := 30) (dk D_X4_add 17 rfl) rfl (V_lg 0 rfl) rfl k) ?_
    obtain ⟨h4, h⟩ := h
    refine K_getP (pc2 := 33) (dk D_X4_add 18 rfl) fl_4_9 rfl h4 ?_
    obtain ⟨h5, h⟩ := h
    refine K_alen (c := 21) (pc2 := 34) (dk D_X4_add 19 rfl) rfl h5 (by decide) (by decide) ?_
    refine K_if (pa := 55) (pb := 37) (lv2 := [(0, vR _), (1, vI _), (2, vI _)]) (st2 := []) (fun ad S Q _ k1 k2 => V_cmplt (tgt := 55) (pc2 := 37) (dk D_X4_add 20 rfl) (by decide) rfl (fun q => k1 q) (fun q => k2 q)) (fun q6 => ?_) (fun q6 => ?_)
    · have h := h.1 q6
      exact h
    · have h := h.2 q6
      refine K_p (pc2 := 38) (lv2 := [(0, vR _), (1, vI _), (2, vI _)]) (st2 := [vR _]) (fun ad S Q _ k => V_aload_n (pc2 := 38) (dk D_X4_add 21 rfl) rfl (V_lg 0 rfl) rfl k) ?_
      refine K_p (pc2 := 39) (lv2 := [(0, vR _), (1, vI _), (2, vI _)]) (st2 := [vR _, vR _]) (fun ad S Q _ k => V_aload_n (pc2 := 39) (dk D_X4_add 22 rfl) rfl (V_lg 0 rfl) rfl k) ?_
      refine K_getP (pc2 := 42) (dk D_X4_add 23 rfl) fl_4_9 rfl h4 ?_
      refine K_p (pc2 := 43) (lv2 := [(0, vR _), (1, vI _), (2, vI _)]) (st2 := [vI _, vR _, vR _]) (fun ad S Q _ k => V_iconst (x := 2) (pc2 := 43) (dk D_X4_add 24 rfl) (by decide) rfl k) ?_
      refine K_p (pc2 := 44) (lv2 := [(0, vR _), (1, vI _), (2, vI _)]) (st2 := [vR _, vI _, vR _, vR _]) (fun ad S Q _ k => V_aload_n (pc2 := 44) (dk D_X4_add 25 rfl) rfl (V_lg 0 rfl) rfl k) ?_
      refine K_getP (pc2 := 47) (dk D_X4_add 26 rfl) fl_4_9 rfl h4 ?_
      refine K_alen (c := 21) (pc2 := 48) (dk D_X4_add 27 rfl) rfl h5 (by decide) (by decide) ?_
      refine K_p (pc2 := 49) (lv2 := [(0, vR _), (1, vI _), (2, vI _)]) (st2 := [vI _, vR _, vR _]) (fun ad S Q _ k => V_imul (pc2 := 49) (dk D_X4_add 28 rfl) rfl k) ?_
      obtain ⟨h7, h⟩ := h
      obtain ⟨n8, hx9, hl10, hb11, h⟩ := h
      rw [hx9]
      refine K_growI kc4 (n := n8) (pc2 := 55) 0 (okL.all _ ⟨(isH.ok h1 (by decide)), trivial, trivial, trivial⟩) (okS.all _ trivial) (dk D_X4_add 29 rfl) ml_4_22 (dk D_X4_add 30 rfl) fl_4_9 (by decide) (Or.inl rfl) (Or.inr ⟨_, rfl⟩) rfl (Nat.le_of_ble_eq_true rfl) h7 h1 (by decide) h5 (pair_nst h4) (Or.inl (pair_how h4)) hl10 hb11 ?_
      have hz12 : n8 ≠ 0 := by omega
      have h := h _ rfl
      exact h
  · have h := h.2 q3
    exact K_ret (r := .inl none) (fun ad S Q _ k => V_return (dk D_X4_add 10 rfl) rfl k) h
theorem k_4_add_55 {X : Cx} {d : Nat} {κ : Km} {Q : Res → Km → Prop} (r0 : Nat) (x1 : Int32) (x2 : Int32) (h : (r0 = 80 ∨ r0 = 82) ∧ (isH κ r0 4) ∧ (isH κ (r0 + 1) 21) ∧ (vp_in (2 * (kI κ r0 1)) (kW κ (r0 + 1))) ∧ ∀ κ5 : Km, κ5 = cI κ (r0 + 1) (((2 * (kI κ r0 1)) : Int32).toNatClampNeg) x1 → (vp_in ((2 * (kI κ5 r0 1)) + 1) (kW κ5 (r0 + 1))) ∧ ∀ κ7 : Km, κ7 = cI κ5 (r0 + 1) ((((2 * (kI κ5 r0 1)) + 1) : Int32).toNatClampNeg) x2 → ∀ κ8 : Km, κ8 = cI κ7 r0 1 ((kI κ7 r0 1) + 1) → Q (.inl none) κ8) : K X d MX4_add 55 [(0, vR r0), (1, vI x1), (2, vI x2)] [] κ Q := by
  refine K_p (pc2 := 56) (lv2 := [(0, vR _), (1, vI _), (2, vI _)]) (st2 := [vR _]) (fun ad S Q _ k => V_aload_n (pc2 := 56) (dk D_X4_add 31 rfl) rfl (V_lg 0 rfl) rfl k) ?_
  obtain ⟨h1, h⟩ := h
  refine K_getP (pc2 := 59) (dk D_X4_add 32 rfl) fl_4_9 rfl h1 ?_
  refine K_p (pc2 := 60) (lv2 := [(0, vR _), (1, vI _), (2, vI _)]) (st2 := [vI _, vR _]) (fun ad S Q _ k => V_iconst (x := 2) (pc2 := 60) (dk D_X4_add 33 rfl) (by decide) rfl k) ?_
  refine K_p (pc2 := 61) (lv2 := [(0, vR _), (1, vI _), (2, vI _)]) (st2 := [vR _, vI _, vR _]) (fun ad S Q _ k => V_aload_n (pc2 := 61) (dk D_X4_add 34 rfl) rfl (V_lg 0 rfl) rfl k) ?_
  obtain ⟨h2, h⟩ := h
  refine K_getI kc4 (pc2 := 64) 1 (dk D_X4_add 35 rfl) fl_4_15 (by decide) (fun _ _ => rfl) rfl h2 ?_
  refine K_p (pc2 := 65) (lv2 := [(0, vR _), (1, vI _), (2, vI _)]) (st2 := [vI _, vR _]) (fun ad S Q _ k => V_imul (pc2 := 65) (dk D_X4_add 36 rfl) rfl k) ?_
  refine K_p (pc2 := 66) (lv2 := [(0, vR _), (1, vI _), (2, vI _)]) (st2 := [vI _, vI _, vR _]) (fun ad S Q _ k => V_iload_n (pc2 := 66) (dk D_X4_add 37 rfl) rfl (V_lg 1 rfl) rfl k) ?_
  obtain ⟨h3, h⟩ := h
  obtain ⟨h4, h⟩ := h
  refine K_iast (pc2 := 67) (dk D_X4_add 38 rfl) rfl h3 h4 ?_
  have h := h _ rfl
  refine K_p (pc2 := 68) (lv2 := [(0, vR _), (1, vI _), (2, vI _)]) (st2 := [vR _]) (fun ad S Q _ k => V_aload_n (pc2 := 68) (dk D_X4_add 39 rfl) rfl (V_lg 0 rfl) rfl k) ?_
  refine K_getP (pc2 := 71) (dk D_X4_add 40 rfl) fl_4_9 rfl h1 ?_
  refine K_p (pc2 := 72) (lv2 := [(0, vR _), (1, vI _), (2, vI _)]) (st2 := [vI _, vR _]) (fun ad S Q _ k => V_iconst (x := 2) (pc2 := 72) (dk D_X4_add 41 rfl) (by decide) rfl k) ?_
  refine K_p (pc2 := 73) (lv2 := [(0, vR _), (1, vI _), (2, vI _)]) (st2 := [vR _, vI _, vR _]) (fun ad S Q _ k => V_aload_n (pc2 := 73) (dk D_X4_add 42 rfl) rfl (V_lg 0 rfl) rfl k) ?_
  refine K_getI kc4 (pc2 := 76) 1 (dk D_X4_add 43 rfl) fl_4_15 (by decide) (fun _ _ => rfl) rfl h2 ?_
  refine K_p (pc2 := 77) (lv2 := [(0, vR _), (1, vI _), (2, vI _)]) (st2 := [vI _, vR _]) (fun ad S Q _ k => V_imul (pc2 := 77) (dk D_X4_add 44 rfl) rfl k) ?_
  refine K_p (pc2 := 78) (lv2 := [(0, vR _), (1, vI _), (2, vI _)]) (st2 := [vI _, vI _, vR _]) (fun ad S Q _ k => V_iconst (x := 1) (pc2 := 78) (dk D_X4_add 45 rfl) (by decide) rfl k) ?_
  refine K_p (pc2 := 79) (lv2 := [(0, vR _), (1, vI _), (2, vI _)]) (st2 := [vI _, vR _]) (fun ad S Q _ k => V_iadd (pc2 := 79) (dk D_X4_add 46 rfl) rfl k) ?_
  refine K_p (pc2 := 80) (lv2 := [(0, vR _), (1, vI _), (2, vI _)]) (st2 := [vI _, vI _, vR _]) (fun ad S Q _ k => V_iload_n (pc2 := 80) (dk D_X4_add 47 rfl) rfl (V_lg 2 rfl) rfl k) ?_
  obtain ⟨h6, h⟩ := h
  refine K_iast (pc2 := 81) (dk D_X4_add 48 rfl) rfl h3 h6 ?_
  have h := h _ rfl
  refine K_p (pc2 := 82) (lv2 := [(0, vR _), (1, vI _), (2, vI _)]) (st2 := [vR _]) (fun ad S Q _ k => V_aload_n (pc2 := 82) (dk D_X4_add 49 rfl) rfl (V_lg 0 rfl) rfl k) ?_
  refine K_p (pc2 := 83) (lv2 := [(0, vR _), (1, vI _), (2, vI _)]) (st2 := [vR _, vR _]) (fun ad S Q _ k => V_dup (pc2 := 83) (dk D_X4_add 50 rfl) rfl rfl k) ?_
  refine K_getI kc4 (pc2 := 86) 1 (dk D_X4_add 51 rfl) fl_4_15 (by decide) (fun _ _ => rfl) rfl h2 ?_
  refine K_p (pc2 := 87) (lv2 := [(0, vR _), (1, vI _), (2, vI _)]) (st2 := [vI _, vI _, vR _]) (fun ad S Q _ k => V_iconst (x := 1) (pc2 := 87) (dk D_X4_add 52 rfl) (by decide) rfl k) ?_
  refine K_p (pc2 := 88) (lv2 := [(0, vR _), (1, vI _), (2, vI _)]) (st2 := [vI _, vR _]) (fun ad S Q _ k => V_iadd (pc2 := 88) (dk D_X4_add 53 rfl) rfl k) ?_
  refine K_putI kc4 (pc2 := 91) 1 (dk D_X4_add 54 rfl) fl_4_15 (by decide) (Or.inl rfl) rfl rfl h2 (isH.n69 h2 (by decide)) ?_
  have h := h _ rfl
  exact K_ret (r := .inl none) (fun ad S Q _ k => V_return (dk D_X4_add 55 rfl) rfl k) h
theorem k_9_add_0 {X : Cx} {d : Nat} {κ : Km} {Q : Res → Km → Prop} (x1 : Int32) (x2 : Int32) (l3 : Int64) (h : (((kI κ 72 5) < (nI (kW κ 74)) → K X d MX9_add 63 [(0, vR 72), (1, vI x1), (2, vI x2), (3, vL l3)] [] κ Q) ∧ (¬ (kI κ 72 5) < (nI (kW κ 74)) → (2 ≤ d) ∧ ∃ n3 : Nat, (2 * (kI κ 72 5)) = nI n3 ∧ kW κ 74 < n3 ∧ n3 ≤ 1000000 ∧ ∀ κ8 : Km, κ8 = cRow κ 74 n3 (fun i => if i < kW κ 74 then kI κ 74 i else 0) (fun _ => 0) → (2 ≤ d) ∧ ∃ n10 : Nat, (2 * (kI κ8 72 5)) = nI n10 ∧ kW κ8 75 < n10 ∧ n10 ≤ 1000000 ∧ ∀ κ15 : Km, κ15 = cRow κ8 75 n10 (fun i => if i < kW κ8 75 then kI κ8 75 i else 0) (fun _ => 0) → (2 ≤ d) ∧ ∃ n17 : Nat, (2 * (kI κ15 72 5)) = nI n17 ∧ kW κ15 76 < n17 ∧ n17 ≤ 1000000 ∧ ∀ κ22 : Km, κ22 = cRow κ15 76 n17 (fun _ => 0) (fun i => if i < kW κ15 76 then kL κ15 76 i else 0) → K X d MX9_add 63 [(0, vR 72), (1, vI x1), (2, vI x2), (3, vL l3)] [] κ22 Q))) : K X d MX9_add 0 [(0, vR 72), (1, vI x1), (2, vI x2), (3, vL l3)] [] κ Q := by
  refine K_p (pc2 := 1) (lv2 := [(0, vR 72), (1, vI _), (2, vI _), (3, vL _)]) (st2 := [vR 72]) (fun ad S Q _ k => V_aload_n (pc2 := 1) (dk D_X9_add 0 rfl) rfl (V_lg 0 rfl) rfl k) ?_
  refine K_getI kc9 (pc2 := 4) 5 (dk D_X9_add 1 rfl) fl_9_41 (by decide) (fun _ _ => rfl) rfl (fixH 72 9 (by decide) rfl) ?_
  refine K_p (pc2 := 5) (lv2 := [(0, vR 72), (1, vI _), (2, vI _), (3, vL _)]) (st2 := [vR 72, vI _]) (fun ad S Q _ k => V_aload_n (pc2 := 5) (dk D_X9_add 2 rfl) rfl (V_lg 0 rfl) rfl k) ?_
  refine K_getF kc9 (h' := 74) (pc2 := 8) 2 (by decide) (dk D_X9_add 3 rfl) fl_9_13 (by decide) (fun _ _ => rfl) rfl (fixH 72 9 (by decide) rfl) (by decide) ?_
  refine K_alen (c := 21) (pc2 := 9) (dk D_X9_add 4 rfl) rfl (fixH 74 21 (by decide) rfl) (by decide) (by decide) ?_
  refine K_if (pa := 63) (pb := 12) (lv2 := [(0, vR 72), (1, vI _), (2, vI _), (3, vL _)]) (st2 := []) (fun ad S Q _ k1 k2 => V_cmplt (tgt := 63) (pc2 := 12) (dk D_X9_add 5 rfl) (by decide) rfl (fun q => k1 q) (fun q => k2 q)) (fun q1 => ?_) (fun q1 => ?_)
  · have h := h.1 q1
    exact h
  · have h := h.2 q1
    refine K_p (pc2 := 13) (lv2 := [(0, vR 72), (1, vI _), (2, vI _), (3, vL _)]) (st2 := [vR 72]) (fun ad S Q _ k => V_aload_n (pc2 := 13) (dk D_X9_add 6 rfl) rfl (V_lg 0 rfl) rfl k) ?_
    refine K_p (pc2 := 14) (lv2 := [(0, vR 72), (1, vI _), (2, vI _), (3, vL _)]) (st2 := [vR 72, vR 72]) (fun ad S Q _ k => V_aload_n (pc2 := 14) (dk D_X9_add 7 rfl) rfl (V_lg 0 rfl) rfl k) ?_
    refine K_getF kc9 (h' := 74) (pc2 := 17) 2 (by decide) (dk D_X9_add 8 rfl) fl_9_13 (by decide) (fun _ _ => rfl) rfl (fixH 72 9 (by decide) rfl) (by decide) ?_
    refine K_p (pc2 := 18) (lv2 := [(0, vR 72), (1, vI _), (2, vI _), (3, vL _)]) (st2 := [vI _, vR 74, vR 72]) (fun ad S Q _ k => V_iconst (x := 2) (pc2 := 18) (dk D_X9_add 9 rfl) (by decide) rfl k) ?_
    refine K_p (pc2 := 19) (lv2 := [(0, vR 72), (1, vI _), (2, vI _), (3, vL _)]) (st2 := [vR 72, vI _, vR 74, vR 72]) (fun ad S Q _ k => V_aload_n (pc2 := 19) (dk D_X9_add 10 rfl) rfl (V_lg 0 rfl) rfl k) ?_
    refine K_getI kc9 (pc2 := 22) 5 (dk D_X9_add 11 rfl) fl_9_41 (by decide) (fun _ _ => rfl) rfl (fixH 72 9 (by decide) rfl) ?_
    refine K_p (pc2 := 23) (lv2 := [(0, vR 72), (1, vI _), (2, vI _), (3, vL _)]) (st2 := [vI _, vR 74, vR 72]) (fun ad S Q _ k => V_imul (pc2 := 23) (dk D_X9_add 12 rfl) rfl k) ?_
    obtain ⟨h2, h⟩ := h
    obtain ⟨n3, hx4, hl5, hb6, h⟩ := h
    rw [hx4]
    refine K_growI kc9 (n := n3) (pc2 := 29) 2 (okL.all _ ⟨(Or.inr ⟨Or.inl ⟨by decide, by decide⟩, by decide⟩), trivial, trivial, trivial, trivial⟩) (okS.all _ trivial) (dk D_X9_add 13 rfl) ml_9_96 (dk D_X9_add 14 rfl) fl_9_13 (by decide) (Or.inl rfl) (Or.inr ⟨_, rfl⟩) rfl (Nat.le_of_ble_eq_true rfl) h2 (fixH 72 9 (by decide) rfl) (by decide) (fixH 74 21 (by decide) rfl) (by unfold still; decide) (Or.inl (by decide)) hl5 hb6 ?_
    have hz7 : n3 ≠ 0 := by omega
    have h := h _ rfl
    refine K_p (pc2 := 30) (lv2 := [(0, vR 72), (1, vI _), (2, vI _), (3, vL _)]) (st2 := [vR 72]) (fun ad S Q _ k => V_aload_n (pc2 := 30) (dk D_X9_add 15 rfl) rfl (V_lg 0 rfl) rfl k) ?_
    refine K_p (pc2 := 31) (lv2 := [(0, vR 72), (1, vI _), (2, vI _), (3, vL _)]) (st2 := [vR 72, vR 72]) (fun ad S Q _ k => V_aload_n (pc2 := 31) (dk D_X9_add 16 rfl) rfl (V_lg 0 rfl) rfl k) ?_
    refine K_getF kc9 (h' := 75) (pc2 := 34) 3 (by decide) (dk D_X9_add 17 rfl) fl_9_17 (by decide) (fun _ _ => rfl) rfl (fixH 72 9 (by decide) rfl) (by decide) ?_
    refine K_p (pc2 := 35) (lv2 := [(0, vR 72), (1, vI _), (2, vI _), (3, vL _)]) (st2 := [vI _, vR 75, vR 72]) (fun ad S Q _ k => V_iconst (x := 2) (pc2 := 35) (dk D_X9_add 18 rfl) (by decide) rfl k) ?_
    refine K_p (pc2 := 36) (lv2 := [(0, vR 72), (1, vI _), (2, vI _), (3, vL _)]) (st2 := [vR 72, vI _, vR 75, vR 72]) (fun ad S Q _ k => V_aload_n (pc2 := 36) (dk D_X9_add 19 rfl) rfl (V_lg 0 rfl) rfl k) ?_
    refine K_getI kc9 (pc2 := 39) 5 (dk D_X9_add 20 rfl) fl_9_41 (by decide) (fun _ _ => rfl) rfl (fixH 72 9 (by decide) rfl) ?_
    refine K_p (pc2 := 40) (lv2 := [(0, vR 72), (1, vI _), (2, vI _), (3, vL _)]) (st2 := [vI _, vR 75, vR 72]) (fun ad S Q _ k => V_imul (pc2 := 40) (dk D_X9_add 21 rfl) rfl k) ?_
    obtain ⟨h9, h⟩ := h
    obtain ⟨n10, hx11, hl12, hb13, h⟩ := h
    rw [hx11]
    refine K_growI kc9 (n := n10) (pc2 := 46) 3 (okL.all _ ⟨(Or.inr ⟨Or.inl ⟨by decide, by decide⟩, by decide⟩), trivial, trivial, trivial, trivial⟩) (okS.all _ trivial) (dk D_X9_add 22 rfl) ml_9_96 (dk D_X9_add 23 rfl) fl_9_17 (by decide) (Or.inl rfl) (Or.inr ⟨_, rfl⟩) rfl (Nat.le_of_ble_eq_true rfl) h9 (fixH 72 9 (by decide) rfl) (by decide) (fixH 75 21 (by decide) rfl) (by unfold still; decide) (Or.inl (by decide)) hl12 hb13 ?_
    have hz14 : n10 ≠ 0 := by omega
    have h := h _ rfl
    refine K_p (pc2 := 47) (lv2 := [(0, vR 72), (1, vI _), (2, vI _), (3, vL _)]) (st2 := [vR 72]) (fun ad S Q _ k => V_aload_n (pc2 := 47) (dk D_X9_add 24 rfl) rfl (V_lg 0 rfl) rfl k) ?_
    refine K_p (pc2 := 48) (lv2 := [(0, vR 72), (1, vI _), (2, vI _), (3, vL _)]) (st2 := [vR 72, vR 72]) (fun ad S Q _ k => V_aload_n (pc2 := 48) (dk D_X9_add 25 rfl) rfl (V_lg 0 rfl) rfl k) ?_
    refine K_getF kc9 (h' := 76) (pc2 := 51) 4 (by decide) (dk D_X9_add 26 rfl) fl_9_20 (by decide) (fun _ _ => rfl) rfl (fixH 72 9 (by decide) rfl) (by decide) ?_
    refine K_p (pc2 := 52) (lv2 := [(0, vR 72), (1, vI _), (2, vI _), (3, vL _)]) (st2 := [vI _, vR 76, vR 72]) (fun ad S Q _ k => V_iconst (x := 2) (pc2 := 52) (dk D_X9_add 27 rfl) (by decide) rfl k) ?_
    refine K_p (pc2 := 53) (lv2 := [(0, vR 72), (1, vI _), (2, vI _), (3, vL _)]) (st2 := [vR 72, vI _, vR 76, vR 72]) (fun ad S Q _ k => V_aload_n (pc2 := 53) (dk D_X9_add 28 rfl) rfl (V_lg 0 rfl) rfl k) ?_
    refine K_getI kc9 (pc2 := 56) 5 (dk D_X9_add 29 rfl) fl_9_41 (by decide) (fun _ _ => rfl) rfl (fixH 72 9 (by decide) rfl) ?_
    refine K_p (pc2 := 57) (lv2 := [(0, vR 72), (1, vI _), (2, vI _), (3, vL _)]) (st2 := [vI _, vR 76, vR 72]) (fun ad S Q _ k => V_imul (pc2 := 57) (dk D_X9_add 30 rfl) rfl k) ?_
    obtain ⟨h16, h⟩ := h
    obtain ⟨n17, hx18, hl19, hb20, h⟩ := h
    rw [hx18]
    refine K_growL kc9 (n := n17) (pc2 := 63) 4 (okL.all _ ⟨(Or.inr ⟨Or.inl ⟨by decide, by decide⟩, by decide⟩), trivial, trivial, trivial, trivial⟩) (okS.all _ trivial) (dk D_X9_add 31 rfl) ml_9_102 (dk D_X9_add 32 rfl) fl_9_20 (by decide) (Or.inl rfl) (Or.inr ⟨_, rfl⟩) rfl (Nat.le_of_ble_eq_true rfl) h16 (fixH 72 9 (by decide) rfl) (by decide) (fixH 76 22 (by decide) rfl) (by unfold still; decide) (Or.inl (by decide)) hl19 hb20 ?_
    have hz21 : n17 ≠ 0 := by omega
    have h := h _ rfl
    exact h
theorem k_9_add_63 {X : Cx} {d : Nat} {κ : Km} {Q : Res → Km → Prop} (x1 : Int32) (x2 : Int32) (l3 : Int64) (h : (vp_in (kI κ 72 5) (kW κ 74)) ∧ ∀ κ2 : Km, κ2 = cI κ 74 (((kI κ 72 5) : Int32).toNatClampNeg) x1 → (vp_in (kI κ2 72 5) (kW κ2 75)) ∧ ∀ κ4 : Km, κ4 = cI κ2 75 (((kI κ2 72 5) : Int32).toNatClampNeg) x2 → (vp_in (kI κ4 72 5) (kW κ4 76)) ∧ ∀ κ6 : Km, κ6 = cL κ4 76 (((kI κ4 72 5) : Int32).toNatClampNeg) l3 → ∀ κ7 : Km, κ7 = cI κ6 72 5 ((kI κ6 72 5) + 1) → Q (.inl none) κ7) : K X d MX9_add 63 [(0, vR 72), (1, vI x1), (2, vI x2), (3, vL l3)] [] κ Q := by
  refine K_p (pc2 := 64) (lv2 := [(0, vR 72), (1, vI _), (2, vI _), (3, vL _)]) (st2 := [vR 72]) (fun ad S Q _ k => V_aload_n (pc2 := 64) (dk D_X9_add 33 rfl) rfl (V_lg 0 rfl) rfl k) ?_
  refine K_getF kc9 (h' := 74) (pc2 := 67) 2 (by decide) (dk D_X9_add 34 rfl) fl_9_13 (by decide) (fun _ _ => rfl) rfl (fixH 72 9 (by decide) rfl) (by decide) ?_
  refine K_p (pc2 := 68) (lv2 := [(0, vR 72), (1, vI _), (2, vI _), (3, vL _)]) (st2 := [vR 72, vR 74]) (fun ad S Q _ k => V_aload_n (pc2 := 68) (dk D_X9_add 35 rfl) rfl (V_lg 0 rfl) rfl k) ?_
  refine K_getI kc9 (pc2 := 71) 5 (dk D_X9_add 36 rfl) fl_9_41 (by decide) (fun _ _ => rfl) rfl (fixH 72 9 (by decide) rfl) ?_
  refine K_p (pc2 := 72) (lv2 := [(0, vR 72), (1, vI _), (2, vI _), (3, vL _)]) (st2 := [vI _, vI _, vR 74]) (fun ad S Q _ k => V_iload_n (pc2 := 72) (dk D_X9_add 37 rfl) rfl (V_lg 1 rfl) rfl k) ?_
  obtain ⟨h1, h⟩ := h
  refine K_iast (pc2 := 73) (dk D_X9_add 38 rfl) rfl (fixH 74 21 (by decide) rfl) h1 ?_
  have h := h _ rfl
  refine K_p (pc2 := 74) (lv2 := [(0, vR 72), (1, vI _), (2, vI _), (3, vL _)]) (st2 := [vR 72]) (fun ad S Q _ k => V_aload_n (pc2 := 74) (dk D_X9_add 39 rfl) rfl (V_lg 0 rfl) rfl k) ?_
  refine K_getF kc9 (h' := 75) (pc2 := 77) 3 (by decide) (dk D_X9_add 40 rfl) fl_9_17 (by decide) (fun _ _ => rfl) rfl (fixH 72 9 (by decide) rfl) (by decide) ?_
  refine K_p (pc2 := 78) (lv2 := [(0, vR 72), (1, vI _), (2, vI _), (3, vL _)]) (st2 := [vR 72, vR 75]) (fun ad S Q _ k => V_aload_n (pc2 := 78) (dk D_X9_add 41 rfl) rfl (V_lg 0 rfl) rfl k) ?_
  refine K_getI kc9 (pc2 := 81) 5 (dk D_X9_add 42 rfl) fl_9_41 (by decide) (fun _ _ => rfl) rfl (fixH 72 9 (by decide) rfl) ?_
  refine K_p (pc2 := 82) (lv2 := [(0, vR 72), (1, vI _), (2, vI _), (3, vL _)]) (st2 := [vI _, vI _, vR 75]) (fun ad S Q _ k => V_iload_n (pc2 := 82) (dk D_X9_add 43 rfl) rfl (V_lg 2 rfl) rfl k) ?_
  obtain ⟨h3, h⟩ := h
  refine K_iast (pc2 := 83) (dk D_X9_add 44 rfl) rfl (fixH 75 21 (by decide) rfl) h3 ?_
  have h := h _ rfl
  refine K_p (pc2 := 84) (lv2 := [(0, vR 72), (1, vI _), (2, vI _), (3, vL _)]) (st2 := [vR 72]) (fun ad S Q _ k => V_aload_n (pc2 := 84) (dk D_X9_add 45 rfl) rfl (V_lg 0 rfl) rfl k) ?_
  refine K_getF kc9 (h' := 76) (pc2 := 87) 4 (by decide) (dk D_X9_add 46 rfl) fl_9_20 (by decide) (fun _ _ => rfl) rfl (fixH 72 9 (by decide) rfl) (by decide) ?_
  refine K_p (pc2 := 88) (lv2 := [(0, vR 72), (1, vI _), (2, vI _), (3, vL _)]) (st2 := [vR 72, vR 76]) (fun ad S Q _ k => V_aload_n (pc2 := 88) (dk D_X9_add 47 rfl) rfl (V_lg 0 rfl) rfl k) ?_
  refine K_getI kc9 (pc2 := 91) 5 (dk D_X9_add 48 rfl) fl_9_41 (by decide) (fun _ _ => rfl) rfl (fixH 72 9 (by decide) rfl) ?_
  refine K_p (pc2 := 92) (lv2 := [(0, vR 72), (1, vI _), (2, vI _), (3, vL _)]) (st2 := [vL _, vI _, vR 76]) (fun ad S Q _ k => V_lload_n (pc2 := 92) (dk D_X9_add 49 rfl) rfl (V_lg 3 rfl) rfl k) ?_
  obtain ⟨h5, h⟩ := h
  refine K_last (pc2 := 93) (dk D_X9_add 50 rfl) rfl (fixH 76 22 (by decide) rfl) h5 ?_
  have h := h _ rfl
  refine K_p (pc2 := 94) (lv2 := [(0, vR 72), (1, vI _), (2, vI _), (3, vL _)]) (st2 := [vR 72]) (fun ad S Q _ k => V_aload_n (pc2 := 94) (dk D_X9_add 51 rfl) rfl (V_lg 0 rfl) rfl k) ?_
  refine K_p (pc2 := 95) (lv2 := [(0, vR 72), (1, vI _), (2, vI _), (3, vL _)]) (st2 := [vR 72, vR 72]) (fun ad S Q _ k => V_dup (pc2 := 95) (dk D_X9_add 52 rfl) rfl rfl k) ?_
  refine K_getI kc9 (pc2 := 98) 5 (dk D_X9_add 53 rfl) fl_9_41 (by decide) (fun _ _ => rfl) rfl (fixH 72 9 (by decide) rfl) ?_
  refine K_p (pc2 := 99) (lv2 := [(0, vR 72), (1, vI _), (2, vI _), (3, vL _)]) (st2 := [vI _, vI _, vR 72]) (fun ad S Q _ k => V_iconst (x := 1) (pc2 := 99) (dk D_X9_add 54 rfl) (by decide) rfl k) ?_
  refine K_p (pc2 := 100) (lv2 := [(0, vR 72), (1, vI _), (2, vI _), (3, vL _)]) (st2 := [vI _, vR 72]) (fun ad S Q _ k => V_iadd (pc2 := 100) (dk D_X9_add 55 rfl) rfl k) ?_
  refine K_putI kc9 (pc2 := 103) 5 (dk D_X9_add 56 rfl) fl_9_41 (by decide) (Or.inl rfl) rfl rfl (fixH 72 9 (by decide) rfl) (by decide) ?_
  have h := h _ rfl
  exact K_ret (r := .inl none) (fun ad S Q _ k => V_return (dk D_X9_add 57 rfl) rfl k) h
