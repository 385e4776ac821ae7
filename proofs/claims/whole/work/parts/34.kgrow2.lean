/-! a row is copied and put back: one row of the walk -/
section KGROW
variable {X : Cx} {d : Nat} {M : MI} {pc pc2 : Nat} {lv : Lv} {st : List AV} {κ : Km} {Q : Res → Km → Prop}
theorem K_growI {ci : Nat} {Cn : String} {T : u_T} {N : Nat} {ty : Nat → FieldType} (B : KC ci Cn T N ty) {ix ix2 h o n : Nat} (k : Nat) (hlv : ∀ q ∈ lv, okv κ q.2) (hst : ∀ v ∈ st, okv κ v) (hd : decode M.2.1 pc = .ok (.invokestatic ix, 3)) (hw : Cond.methodLink (kcn.getD M.2.2.2.2 "") ix MJ7_copyOf_59c91.1 ∈ lw_tbl) (hd2 : decode M.2.1 (pc + 3) = .ok (.putfield ix2, 3)) (hw2 : Cond.fieldLink (kcn.getD M.2.2.2.2 "") ix2 (T k).1 (T k).2.1 (T k).2.2.1 ∈ lw_tbl) (hkN : k < N) (hf : finOk M (T k)) (hty : (∃ c, ty k = .object c) ∨ ∃ t, ty k = .array t) (hp : pc + 3 + 3 = pc2) (hs8 : (st.map cat).sum ≤ 7) (hdd : 2 ≤ d) (ho : isH κ o ci) (hci : ci < 20) (hh : isH κ h 21) (hns : ¬ still h)
    (how : (o, k, h) ∈ hRs ∨ (∃ m, o = 1002 + 8 * m ∧ k = 12 ∧ h = 1003 + 8 * m)) (hn : kW κ h < n) (hn2 : n ≤ 1000000) (kk : K X d M pc2 lv st (cRow κ h n (fun i => if i < kW κ h then kI κ h i else 0) (fun _ => 0)) Q) : K X d M pc lv (vI (nI n) :: vR h :: vR o :: st) κ Q := by
  obtain ⟨r, κ', ⟨mo, e⟩, q⟩ := kk
  refine ⟨r, κ', ⟨mo, fun ad S hC => ?_⟩, q⟩
  have hlh := hC.1 h hh.1
  have hlo := hC.1 o ho.1
  have hT : 168 ≤ tp S := hC.2.2.2.2.2.2.2.2.2.2.2.2.2.2.2.1
  have hne : ad o ≠ tp S := Nat.ne_of_lt hlo.2.1
  obtain ⟨CV', ob, fc⟩ := hC.regrow (S' := uR (rwI (nw S 21 n n) (tp S) (fun i => if i < kW κ h then gI S (ad h) i else 0)) (ad o) k (tp S)) (ad' := fun x => if x = h then tp S else ad x) (h := h) (n := n) (o := o) (k := k) (f := (fun i => if i < kW κ h then kI κ h i else 0)) (l := (fun _ => 0)) hh.1 (by rw [hh.2]; decide) hns (by omega) ⟨ho.1, rfl⟩ (by rw [ho.2]; exact hci) how rfl rfl (by rw [hh.2]; exact ((gK_nw (S := S) (k := 21) (n := n) (w := n)).trans (if_pos rfl))) ((gN_nw (S := S) (k := 21) (n := n) (w := n)).trans (if_pos rfl)) (fun a ha => ⟨(gK_nw (S := S) (k := 21) (n := n) (w := n)).trans (if_neg (Nat.ne_of_lt ha)), (gN_nw (S := S) (k := 21) (n := n) (w := n)).trans (if_neg (Nat.ne_of_lt ha))⟩)
    (by
      funext i
      show (if tp S = tp S then (if i < kW κ h then gI S (ad h) i else 0) else _) = if i < kW κ h then kI κ h i else 0
      rw [if_pos rfl, hC.i hh.1])
    (by
      funext i
      exact (gL_nw (S := S) (k := 21) (n := n) (w := n)).trans (if_pos rfl))
    (fun a ha => ⟨by
      funext i
      show (if a = tp S then _ else (nw S 21 n n).1 a i) = _
      rw [if_neg (Nat.ne_of_lt ha)]
      exact (gI_nw (S := S) (k := 21) (n := n) (w := n)).trans (if_neg (Nat.ne_of_lt ha)), by
      funext i
      exact (gL_nw (S := S) (k := 21) (n := n) (w := n)).trans (if_neg (Nat.ne_of_lt ha))⟩) (by rw [gR_uR, if_pos ⟨rfl, rfl⟩]) (fun a j ha hn3 => by
      rw [gR_uR, if_neg hn3]
      exact (gR_nw (S := S) (k := 21) (n := n) (w := n)).trans (if_neg (Nat.ne_of_lt ha))) (fun e => by have := hh.2; rw [e] at this; exact absurd this (by decide)) (if_pos rfl) (fun g hg => if_neg hg)
  obtain ⟨ad2, S2, ev, C2, ob2, fc2⟩ := e _ _ CV'
  rw [mpl_ok ob lv hlv, mps_ok ob st hst] at ev
  refine ⟨ad2, S2, ?_, C2, fun x hx hxk => (ob2 x (live_mo hx hxk ⟨Nat.le_refl _, Nat.le_refl _⟩) hxk).trans (ob x hx hxk), fc.trans fc2⟩
  have es : mps ad (vI (nI n) :: vR h :: vR o :: st) = vI (nI n) :: vR (ad h) :: vR (ad o) :: mps ad st := by
    show vI (nI n) :: mps ad (vR h :: vR o :: st) = _
    rw [mps_R (live_ge hh.1), mps_R (live_ge ho.1)]
  rw [es]
  have vgo : V X d M pc (mpl ad lv) (vI (nI n) :: vR (ad h) :: vR (ad o) :: mps ad st) S (fun r' T' => r' = mpr ad2 r ∧ T' = S2) := by
    refine V_callS (as := [vR (ad h), vI (nI n)]) (st := vR (ad o) :: mps ad st) (M' := MJ7_copyOf_59c91) (pc2 := pc + 3) (d' := 1) hd hw mv_J7_copyOf_59c91 rfl rfl (by show 1 + ((mps ad st).map cat).sum ≤ 8; rw [mps_cat]; omega) rfl (by omega) (c_copyI (hC.k hh) hlh.1 (by omega) (hC.n hh (by decide)) hn hn2 (F := fun p S1 => p = tp S ∧ S1 = rwI (nw S 21 n n) (tp S) (fun i => if i < kW κ h then gI S (ad h) i else 0)) ⟨rfl, rfl⟩) ?_
    rintro r1 S1 ⟨x, rfl, rfl, rfl⟩
    refine ⟨some (vR (tp S)), rfl, ?_⟩
    exact V_putR B (pc2 := pc2) k hd2 hw2 hkN hf hty hp (isK_nw (hC.k ho)) ⟨_, S2, ev, rfl, rfl⟩
  obtain ⟨r3, S3, ev3, rfl, rfl⟩ := vgo
  exact ev3
theorem K_growL {ci : Nat} {Cn : String} {T : u_T} {N : Nat} {ty : Nat → FieldType} (B : KC ci Cn T N ty) {ix ix2 h o n : Nat} (k : Nat) (hlv : ∀ q ∈ lv, okv κ q.2) (hst : ∀ v ∈ st, okv κ v) (hd : decode M.2.1 pc = .ok (.invokestatic ix, 3)) (hw : Cond.methodLink (kcn.getD M.2.2.2.2 "") ix MJ7_copyOf_c38d5.1 ∈ lw_tbl) (hd2 : decode M.2.1 (pc + 3) = .ok (.putfield ix2, 3)) (hw2 : Cond.fieldLink (kcn.getD M.2.2.2.2 "") ix2 (T k).1 (T k).2.1 (T k).2.2.1 ∈ lw_tbl) (hkN : k < N) (hf : finOk M (T k)) (hty : (∃ c, ty k = .object c) ∨ ∃ t, ty k = .array t) (hp : pc + 3 + 3 = pc2) (hs8 : (st.map cat).sum ≤ 7) (hdd : 2 ≤ d) (ho : isH κ o ci) (hci : ci < 20) (hh : isH κ h 22) (hns : ¬ still h)
    (how : (o, k, h) ∈ hRs ∨ (∃ m, o = 1002 + 8 * m ∧ k = 12 ∧ h = 1003 + 8 * m)) (hn : kW κ h < n) (hn2 : n ≤ 1000000) (kk : K X d M pc2 lv st (cRow κ h n (fun _ => 0) (fun i => if i < kW κ h then kL κ h i else 0)) Q) : K X d M pc lv (vI (nI n) :: vR h :: vR o :: st) κ Q := by
  obtain ⟨r, κ', ⟨mo, e⟩, q⟩ := kk
  refine ⟨r, κ', ⟨mo, fun ad S hC => ?_⟩, q⟩
  have hlh := hC.1 h hh.1
  have hlo := hC.1 o ho.1
  have hT : 168 ≤ tp S := hC.2.2.2.2.2.2.2.2.2.2.2.2.2.2.2.1
  have hne : ad o ≠ tp S := Nat.ne_of_lt hlo.2.1
  obtain ⟨CV', ob, fc⟩ := hC.regrow (S' := uR (rwL (nw S 22 n n) (tp S) (fun i => if i < kW κ h then gL S (ad h) i else 0)) (ad o) k (tp S)) (ad' := fun x => if x = h then tp S else ad x) (h := h) (n := n) (o := o) (k := k) (f := (fun _ => 0)) (l := (fun i => if i < kW κ h then kL κ h i else 0)) hh.1 (by rw [hh.2]; decide) hns (by omega) ⟨ho.1, rfl⟩ (by rw [ho.2]; exact hci) how rfl rfl (by rw [hh.2]; exact ((gK_nw (S := S) (k := 22) (n := n) (w := n)).trans (if_pos rfl))) ((gN_nw (S := S) (k := 22) (n := n) (w := n)).trans (if_pos rfl)) (fun a ha => ⟨(gK_nw (S := S) (k := 22) (n := n) (w := n)).trans (if_neg (Nat.ne_of_lt ha)), (gN_nw (S := S) (k := 22) (n := n) (w := n)).trans (if_neg (Nat.ne_of_lt ha))⟩)
    (by
      funext i
      exact (gI_nw (S := S) (k := 22) (n := n) (w := n)).trans (if_pos rfl))
    (by
      funext i
      show (if tp S = tp S then (if i < kW κ h then gL S (ad h) i else 0) else _) = if i < kW κ h then kL κ h i else 0
      rw [if_pos rfl, hC.l hh.1])
    (fun a ha => ⟨by
      funext i
      exact (gI_nw (S := S) (k := 22) (n := n) (w := n)).trans (if_neg (Nat.ne_of_lt ha)), by
      funext i
      show (if a = tp S then _ else (nw S 22 n n).2.1 a i) = _
      rw [if_neg (Nat.ne_of_lt ha)]
      exact (gL_nw (S := S) (k := 22) (n := n) (w := n)).trans (if_neg (Nat.ne_of_lt ha))⟩) (by rw [gR_uR, if_pos ⟨rfl, rfl⟩]) (fun a j ha hn3 => by
      rw [gR_uR, if_neg hn3]
      exact (gR_nw (S := S) (k := 22) (n := n) (w := n)).trans (if_neg (Nat.ne_of_lt ha))) (fun e => by have := hh.2; rw [e] at this; exact absurd this (by decide)) (if_pos rfl) (fun g hg => if_neg hg)
  obtain ⟨ad2, S2, ev, C2, ob2, fc2⟩ := e _ _ CV'
  rw [mpl_ok ob lv hlv, mps_ok ob st hst] at ev
  refine ⟨ad2, S2, ?_, C2, fun x hx hxk => (ob2 x (live_mo hx hxk ⟨Nat.le_refl _, Nat.le_refl _⟩) hxk).trans (ob x hx hxk), fc.trans fc2⟩
  have es : mps ad (vI (nI n) :: vR h :: vR o :: st) = vI (nI n) :: vR (ad h) :: vR (ad o) :: mps ad st := by
    show vI (nI n) :: mps ad (vR h :: vR o :: st) = _
    rw [mps_R (live_ge hh.1), mps_R (live_ge ho.1)]
  rw [es]
  have vgo : V X d M pc (mpl ad lv) (vI (nI n) :: vR (ad h) :: vR (ad o) :: mps ad st) S (fun r' T' => r' = mpr ad2 r ∧ T' = S2) := by
    refine V_callS (as := [vR (ad h), vI (nI n)]) (st := vR (ad o) :: mps ad st) (M' := MJ7_copyOf_c38d5) (pc2 := pc + 3) (d' := 1) hd hw mv_J7_copyOf_c38d5 rfl rfl (by show 1 + ((mps ad st).map cat).sum ≤ 8; rw [mps_cat]; omega) rfl (by omega) (c_copyL (hC.k hh) hlh.1 (by omega) (hC.n hh (by decide)) hn hn2 (F := fun p S1 => p = tp S ∧ S1 = rwL (nw S 22 n n) (tp S) (fun i => if i < kW κ h then gL S (ad h) i else 0)) ⟨rfl, rfl⟩) ?_
    rintro r1 S1 ⟨x, rfl, rfl, rfl⟩
    refine ⟨some (vR (tp S)), rfl, ?_⟩
    exact V_putR B (pc2 := pc2) k hd2 hw2 hkN hf hty hp (isK_nw (hC.k ho)) ⟨_, S2, ev, rfl, rfl⟩
  obtain ⟨r3, S3, ev3, rfl, rfl⟩ := vgo
  exact ev3
theorem K_growB {ci : Nat} {Cn : String} {T : u_T} {N : Nat} {ty : Nat → FieldType} (B : KC ci Cn T N ty) {ix ix2 h o n : Nat} (k : Nat) (hlv : ∀ q ∈ lv, okv κ q.2) (hst : ∀ v ∈ st, okv κ v) (hd : decode M.2.1 pc = .ok (.invokestatic ix, 3)) (hw : Cond.methodLink (kcn.getD M.2.2.2.2 "") ix MJ7_copyOf_9075b.1 ∈ lw_tbl) (hd2 : decode M.2.1 (pc + 3) = .ok (.putfield ix2, 3)) (hw2 : Cond.fieldLink (kcn.getD M.2.2.2.2 "") ix2 (T k).1 (T k).2.1 (T k).2.2.1 ∈ lw_tbl) (hkN : k < N) (hf : finOk M (T k)) (hty : (∃ c, ty k = .object c) ∨ ∃ t, ty k = .array t) (hp : pc + 3 + 3 = pc2) (hs8 : (st.map cat).sum ≤ 7) (hdd : 2 ≤ d) (ho : isH κ o ci) (hci : ci < 20) (hh : isH κ h 20) (hns : ¬ still h)
    (how : (o, k, h) ∈ hRs ∨ (∃ m, o = 1002 + 8 * m ∧ k = 12 ∧ h = 1003 + 8 * m)) (h69 : h = 69) (hn : kW κ h < n) (hn2 : n ≤ 1000000) (kk : K X d M pc2 lv st (cRow κ h n (fun i => if i < kW κ h then kI κ h i else 0) (fun _ => 0)) Q) : K X d M pc lv (vI (nI n) :: vR h :: vR o :: st) κ Q := by
  obtain ⟨r, κ', ⟨mo, e⟩, q⟩ := kk
  refine ⟨r, κ', ⟨mo, fun ad S hC => ?_⟩, q⟩
  have hlh := hC.1 h hh.1
  have hlo := hC.1 o ho.1
  have hT : 168 ≤ tp S := hC.2.2.2.2.2.2.2.2.2.2.2.2.2.2.2.1
  have hbyte : ∀ {ad : Nat → Nat} {S : Mem}, CV ad κ S → ∀ i, (kI κ h i).toInt8.toInt32 = kI κ h i := fun hC i => by rw [h69]; exact hC.2.2.2.2.2.2.2.2.2.2.2.2.2.2.2.2.2.2.2.1 i
  have hne : ad o ≠ tp S := Nat.ne_of_lt hlo.2.1
  obtain ⟨CV', ob, fc⟩ := hC.regrow (S' := uR (rwI (nw S 20 n n) (tp S) (fun i => if i < kW κ h then gI S (ad h) i else 0)) (ad o) k (tp S)) (ad' := fun x => if x = h then tp S else ad x) (h := h) (n := n) (o := o) (k := k) (f := (fun i => if i < kW κ h then kI κ h i else 0)) (l := (fun _ => 0)) hh.1 (by rw [hh.2]; decide) hns (by omega) ⟨ho.1, rfl⟩ (by rw [ho.2]; exact hci) how rfl rfl (by rw [hh.2]; exact ((gK_nw (S := S) (k := 20) (n := n) (w := n)).trans (if_pos rfl))) ((gN_nw (S := S) (k := 20) (n := n) (w := n)).trans (if_pos rfl)) (fun a ha => ⟨(gK_nw (S := S) (k := 20) (n := n) (w := n)).trans (if_neg (Nat.ne_of_lt ha)), (gN_nw (S := S) (k := 20) (n := n) (w := n)).trans (if_neg (Nat.ne_of_lt ha))⟩)
    (by
      funext i
      show (if tp S = tp S then (if i < kW κ h then gI S (ad h) i else 0) else _) = if i < kW κ h then kI κ h i else 0
      rw [if_pos rfl, hC.i hh.1])
    (by
      funext i
      exact (gL_nw (S := S) (k := 20) (n := n) (w := n)).trans (if_pos rfl))
    (fun a ha => ⟨by
      funext i
      show (if a = tp S then _ else (nw S 20 n n).1 a i) = _
      rw [if_neg (Nat.ne_of_lt ha)]
      exact (gI_nw (S := S) (k := 20) (n := n) (w := n)).trans (if_neg (Nat.ne_of_lt ha)), by
      funext i
      exact (gL_nw (S := S) (k := 20) (n := n) (w := n)).trans (if_neg (Nat.ne_of_lt ha))⟩) (by rw [gR_uR, if_pos ⟨rfl, rfl⟩]) (fun a j ha hn3 => by
      rw [gR_uR, if_neg hn3]
      exact (gR_nw (S := S) (k := 20) (n := n) (w := n)).trans (if_neg (Nat.ne_of_lt ha))) (fun _ i => by
      show (if i < kW κ h then kI κ h i else 0).toInt8.toInt32 = if i < kW κ h then kI κ h i else 0
      by_cases c : i < kW κ h
      · rw [if_pos c]; exact hbyte hC i
      · rw [if_neg c]; decide) (if_pos rfl) (fun g hg => if_neg hg)
  obtain ⟨ad2, S2, ev, C2, ob2, fc2⟩ := e _ _ CV'
  rw [mpl_ok ob lv hlv, mps_ok ob st hst] at ev
  refine ⟨ad2, S2, ?_, C2, fun x hx hxk => (ob2 x (live_mo hx hxk ⟨Nat.le_refl _, Nat.le_refl _⟩) hxk).trans (ob x hx hxk), fc.trans fc2⟩
  have es : mps ad (vI (nI n) :: vR h :: vR o :: st) = vI (nI n) :: vR (ad h) :: vR (ad o) :: mps ad st := by
    show vI (nI n) :: mps ad (vR h :: vR o :: st) = _
    rw [mps_R (live_ge hh.1), mps_R (live_ge ho.1)]
  rw [es]
  have vgo : V X d M pc (mpl ad lv) (vI (nI n) :: vR (ad h) :: vR (ad o) :: mps ad st) S (fun r' T' => r' = mpr ad2 r ∧ T' = S2) := by
    refine V_callS (as := [vR (ad h), vI (nI n)]) (st := vR (ad o) :: mps ad st) (M' := MJ7_copyOf_9075b) (pc2 := pc + 3) (d' := 1) hd hw mv_J7_copyOf_9075b rfl rfl (by show 1 + ((mps ad st).map cat).sum ≤ 8; rw [mps_cat]; omega) rfl (by omega) (c_copyB (hC.k hh) hlh.1 (by omega) (hC.n hh (by decide)) hn hn2 (fun i => by rw [hC.i hh.1]; exact hbyte hC i) (F := fun p S1 => p = tp S ∧ S1 = rwI (nw S 20 n n) (tp S) (fun i => if i < kW κ h then gI S (ad h) i else 0)) ⟨rfl, rfl⟩) ?_
    rintro r1 S1 ⟨x, rfl, rfl, rfl⟩
    refine ⟨some (vR (tp S)), rfl, ?_⟩
    exact V_putR B (pc2 := pc2) k hd2 hw2 hkN hf hty hp (isK_nw (hC.k ho)) ⟨_, S2, ev, rfl, rfl⟩
  obtain ⟨r3, S3, ev3, rfl, rfl⟩ := vgo
  exact ev3
end KGROW
theorem isH.row {κ : Km} {h n g c : Nat} {f : Nat → Int32} {l : Nat → Int64} (hl : live κ h) (hn : n ≠ 0) (hg : isH κ g c) : isH (cRow κ h n f l) g c := ⟨(live_row hl hn g).mpr hg.1, hg.2⟩
theorem isH.nst {κ : Km} {v : Nat} (h : isH κ v 10) : ¬ still (v + 1) := by
  have := h.v
  unfold still
  omega
theorem isH.how {κ : Km} {v : Nat} (h : isH κ v 10) : ∃ m, v = 1002 + 8 * m ∧ 12 = 12 ∧ v + 1 = 1003 + 8 * m := by
  have := h.v
  exact ⟨(v - 1000) / 8, by omega, rfl, by omega⟩
theorem pair_nst {p : Nat} (h : p = 80 ∨ p = 82) : ¬ still (p + 1) := by
  rcases h with rfl | rfl <;> (unfold still; decide)
theorem pair_how {p : Nat} (h : p = 80 ∨ p = 82) : (p, 0, p + 1) ∈ hRs := by
  rcases h with rfl | rfl <;> decide
