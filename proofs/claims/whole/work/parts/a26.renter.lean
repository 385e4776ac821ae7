/-! the reference enters a call, and starts a voice -/
section RENTER
variable {X : Cx} {σ σ' σ1 σ2 : Rm} {n p D G V a bd : Nat} {F : Rm → Prop}
/-- rows of part p alone, from the outside -/
theorem ac_pop0 {F : Int32 → Rm → Prop} (hn : n ≤ 60) (hp : p < 12) (h58 : aI σ 58 n = nI p) (h73 : aI σ 73 p = nI (V + 1)) (hV : V < 10200) (q : F (aI σ 74 (10200 * p + V)) (wI σ 73 p (nI V))) : AC X 92 0 MX13_pop [vR 92, vI (nI n)] σ (aRI F) := by
  refine AC_of_A rfl (Nat.le_of_ble_eq_true rfl) rfl (a_pop_0 _ ?_)
  rw [vpn (by omega), cl_nI (by omega), h58, vpn (by omega), cl_nI (by omega), h73, litI 1, nI_sb (by omega), show V + 1 - 1 = V by omega]
  refine ⟨by omega, hp, hp, ?_⟩
  rintro s4 rfl
  rw [aI_eq, litI 10200, pk_mul, nI_add, vpn (by omega), cl_nI (by omega), aI_ne (by decide)]
  exact ⟨hp, by omega, _, rfl, q⟩
theorem ac_push0 {x : Int32} (hn : n ≤ 60) (hp : p < 12) (h58 : aI σ 58 n = nI p) (h73 : aI σ 73 p = nI V) (hV : V < 10200) (q : F (wI (wI σ 74 (10200 * p + V) x) 73 p (nI (V + 1)))) : AC X 92 0 MX13_push [vR 92, vI (nI n), vI x] σ (aRV F) := by
  refine AC_of_A rfl (Nat.le_of_ble_eq_true rfl) rfl (a_push_0 _ _ ?_)
  rw [vpn (by omega), cl_nI (by omega), h58, vpn (by omega), cl_nI (by omega), h73, litI 10200, pk_mul, nI_add, vpn (by omega), cl_nI (by omega)]
  refine ⟨by omega, hp, by omega, ?_⟩
  rintro s4 rfl
  refine ⟨hp, hp, ?_⟩
  rintro s7 rfl
  rw [aI_ne (by decide), h73, nI_1]
  exact ⟨rfl, q⟩
/-- the cells of a call are cleared -/
def zrS (σ : Rm) (c : Nat) : Nat → Rm
  | 0 => σ
  | m + 1 => wI (zrS σ c m) 66 (40 * c + m) 0
theorem zrS_ne {c k : Nat} (hk : k ≠ 66) : ∀ m, aI (zrS σ c m) k = aI σ k := by
  intro m
  induction m with
  | zero => rfl
  | succ m ih => show aI (wI (zrS σ c m) 66 _ 0) k = _; rw [aI_ne hk, ih]
theorem zrS_l {c : Nat} : ∀ m, aL (zrS σ c m) = aL σ := by
  intro m
  induction m with
  | zero => rfl
  | succ m ih => exact ih
theorem zrS_66 {c : Nat} : ∀ m i, aI (zrS σ c m) 66 i = if 40 * c ≤ i ∧ i < 40 * c + m then 0 else aI σ 66 i := by
  intro m
  induction m with
  | zero => intro i; rw [if_neg (by omega)]; rfl
  | succ m ih =>
    intro i
    show aI (wI (zrS σ c m) 66 (40 * c + m) 0) 66 i = _
    by_cases e : i = 40 * c + m
    · rw [e, aI_eq, if_pos (by omega)]
    · rw [aI_ni e, ih i]
      by_cases z : 40 * c ≤ i ∧ i < 40 * c + m
      · rw [if_pos z, if_pos (by omega)]
      · rw [if_neg z, if_neg (by omega)]
theorem zero_loop {x1 x2 x3 x4 : Int32} {c d : Nat} {Q : Res → Rm → Prop} (hc : c < 720) (q : A X 92 d MX13_enter 69 [(0, vR 92), (1, vI x1), (2, vI x2), (3, vI x3), (4, vI x4), (5, vI (nI c)), (6, vI (x3 - 1))] [] (zrS σ c 40) Q) : ∀ r k, k + r = 40 → A X 92 d MX13_enter 37 [(0, vR 92), (1, vI x1), (2, vI x2), (3, vI x3), (4, vI x4), (5, vI (nI c)), (6, vI (nI k))] [] (zrS σ c k) Q := by
  intro r
  induction r with
  | zero =>
    intro k hk
    have e : k = 40 := by omega
    subst e
    exact a_enter_37 _ _ _ _ _ _ ⟨fun _ => q, fun z => absurd (by decide) z⟩
  | succ r ih =>
    intro k hk
    refine a_enter_37 _ _ _ _ _ _ ?_
    rw [litI 40, le_nI (by omega) (by omega), pk_mul, nI_add, vpn (by omega), cl_nI (by omega), nI_1]
    refine ⟨fun z => absurd z (by omega), fun _ => ⟨by omega, ?_⟩⟩
    rintro s3 rfl
    exact ih (k + 1) (by omega)
/-- a call is entered: what has become of the rows -/
def EnR (n p D G V a bd : Nat) (σ σ' : Rm) : Prop := Ro p σ σ' ∧ (aI σ' 60 p = nI (D + 1) ∧ aI σ' 68 p = aI σ 68 p ∧ aI σ' 73 p = nI (V - a)) ∧ (aI σ' 61 (60 * p + D) = nI bd ∧ aI σ' 62 (60 * p + D) = aI σ 23 bd ∧ aI σ' 63 (60 * p + D) = -9 ∧ aI σ' 64 (60 * p + D) = nI G ∧ aI σ' 65 (60 * p + D) = nI (V - a)) ∧ (∀ k, k < 40 → aI σ' 66 (40 * (60 * p + D) + k) = if k < a then aI σ 74 (10200 * p + (V - a) + k) else 0) ∧
  (∀ k i, 61 ≤ k → k ≤ 65 → i ≠ 60 * p + D → aI σ' k i = aI σ k i) ∧ (∀ i, (i < 40 * (60 * p + D) ∨ 40 * (60 * p + D) + 40 ≤ i) → aI σ' 66 i = aI σ 66 i) ∧ (∀ k, k = 67 ∨ (69 ≤ k ∧ k ≤ 72) ∨ k = 74 → aI σ' k = aI σ k)
theorem ac_enter0 (hn : n ≤ 60) (hp : p < 12) (hD : D < 60) (hbd : bd < 12) (ha : a ≤ 4) (haV : a ≤ V) (hV : V ≤ 10200) (h58 : aI σ 58 n = nI p) (h60 : aI σ 60 p = nI D) (h68 : aI σ 68 p = nI G) (h73 : aI σ 73 p = nI V) (q : ∀ σ', EnR n p D G V a bd σ σ' → F σ') : AC X 92 1 MX13_enter [vR 92, vI (nI n), vI (nI bd), vI (nI a)] σ (aRV F) := by
  refine AC_of_A rfl (Nat.le_of_ble_eq_true rfl) rfl (a_enter_0 _ _ _ ?_)
  rw [vpn (by omega), cl_nI (by omega), h58, vpn (by omega), cl_nI (by omega), h60, litI 60, pk_mul, nI_add, nI_1]
  refine ⟨by omega, hp, hp, hp, ?_⟩
  rintro s5 rfl
  -- the arguments are taken from the operands
  have pops : ∀ (u : Nat) (σ1 : Rm), u ≤ a → aI σ1 73 p = nI (V - (a - u)) → (∀ k, k ≠ 66 → k ≠ 73 → aI σ1 k = aI (wI σ 60 p (nI (D + 1))) k) → aL σ1 = aL σ → (∀ i, i ≠ p → aI σ1 73 i = aI σ 73 i) → (∀ i, (i < 40 * (60 * p + D) ∨ 40 * (60 * p + D) + 40 ≤ i) → aI σ1 66 i = aI σ 66 i) → (∀ k, k < 40 → aI σ1 66 (40 * (60 * p + D) + k) = if u ≤ k ∧ k < a then aI σ 74 (10200 * p + (V - a) + k) else 0) → A X 92 1 MX13_enter 69 [(0, vR 92), (1, vI (nI n)), (2, vI (nI bd)), (3, vI (nI a)), (4, vI (nI p)), (5, vI (nI (60 * p + D))), (6, vI (nI u - 1))] [] σ1 (aRV F) := by
    intro u
    induction u with
    | zero =>
      intro σ1 _ e73 ek el e73o e66o e66
      refine a_enter_69 _ _ _ _ _ _ ⟨fun _ => ?_, fun z => absurd (by decide) z⟩
      rw [vpn (by omega), cl_nI (by omega)]
      refine ⟨by omega, ?_⟩
      rintro s3 rfl
      rw [vpn (by omega), cl_nI (by omega)]
      refine ⟨hbd, by omega, ?_⟩
      rintro s6 rfl
      refine ⟨by omega, ?_⟩
      rintro s8 rfl
      rw [vpn (by omega), cl_nI (by omega)]
      refine ⟨hp, by omega, ?_⟩
      rintro s11 rfl
      refine ⟨hp, by omega, ?_⟩
      rintro s14 rfl
      have a23 : aI (wI σ1 61 (60 * p + D) (nI bd)) 23 bd = aI σ 23 bd := by rw [aI_ne (by decide), ek 23 (by decide) (by decide), aI_ne (by decide)]
      have a68 : aI (wI (wI (wI σ1 61 (60 * p + D) (nI bd)) 62 (60 * p + D) (aI (wI σ1 61 (60 * p + D) (nI bd)) 23 bd)) 63 (60 * p + D) (-9)) 68 p = nI G := by rw [aI_ne (by decide), aI_ne (by decide), aI_ne (by decide), ek 68 (by decide) (by decide), aI_ne (by decide)]; exact h68
      have a73 : aI (wI (wI (wI (wI σ1 61 (60 * p + D) (nI bd)) 62 (60 * p + D) (aI (wI σ1 61 (60 * p + D) (nI bd)) 23 bd)) 63 (60 * p + D) (-9)) 64 (60 * p + D) (aI (wI (wI (wI σ1 61 (60 * p + D) (nI bd)) 62 (60 * p + D) (aI (wI σ1 61 (60 * p + D) (nI bd)) 23 bd)) 63 (60 * p + D) (-9)) 68 p)) 73 p = nI (V - a) := by rw [aI_ne (by decide), aI_ne (by decide), aI_ne (by decide), aI_ne (by decide)]; exact e73
      rw [a68] at a73 ⊢
      rw [a73, a23]
      have eK : ∀ k, k ≠ 61 → k ≠ 62 → k ≠ 63 → k ≠ 64 → k ≠ 65 → aI (wI (wI (wI (wI (wI σ1 61 (60 * p + D) (nI bd)) 62 (60 * p + D) (aI σ 23 bd)) 63 (60 * p + D) (-9)) 64 (60 * p + D) (nI G)) 65 (60 * p + D) (nI (V - a))) k = aI σ1 k := fun k k1 k2 k3 k4 k5 => by rw [aI_ne k5, aI_ne k4, aI_ne k3, aI_ne k2, aI_ne k1]
      have eI : ∀ k i, 61 ≤ k → k ≤ 65 → i ≠ 60 * p + D → aI (wI (wI (wI (wI (wI σ1 61 (60 * p + D) (nI bd)) 62 (60 * p + D) (aI σ 23 bd)) 63 (60 * p + D) (-9)) 64 (60 * p + D) (nI G)) 65 (60 * p + D) (nI (V - a))) k i = aI σ k i := fun k i k1 k2 hi => by
        rw [aI_ni hi, aI_ni hi, aI_ni hi, aI_ni hi, aI_ni hi, ek k (by omega) (by omega), aI_ne (by omega)]
      refine ⟨rfl, q _ ⟨⟨fun k hk => ?_, ?_, fun k i k1 k2 hi => ?_⟩, ⟨?_, ?_, ?_⟩, ⟨?_, ?_, ?_, ?_, ?_⟩, fun k hk => ?_, eI, fun i hi => ?_, fun k hk => ?_⟩⟩
      · rw [eK k (by omega) (by omega) (by omega) (by omega) (by omega), ek k (by omega) (by omega), aI_ne (by omega)]
      · exact el
      · by_cases c1 : 61 ≤ k ∧ k ≤ 65
        · refine eI k i c1.1 c1.2 ?_
          have e : pw k = 60 := by unfold pw; rw [if_neg (by omega), if_pos (by omega)]
          rw [e] at hi
          omega
        · rw [eK k (by omega) (by omega) (by omega) (by omega) (by omega)]
          by_cases c2 : k = 66
          · subst c2
            refine e66o i ?_
            have e : pw 66 = 2400 := rfl
            rw [e] at hi
            omega
          · by_cases c3 : k = 73
            · subst c3
              refine e73o i ?_
              have e : pw 73 = 1 := rfl
              rw [e] at hi
              omega
            · rw [ek k c2 c3]
              by_cases c4 : k = 60
              · subst c4
                rw [aI_ni (by
                  have e : pw 60 = 1 := rfl
                  rw [e] at hi
                  omega)]
              · rw [aI_ne c4]
      · rw [eK 60 (by decide) (by decide) (by decide) (by decide) (by decide), ek 60 (by decide) (by decide), aI_eq]
      · rw [eK 68 (by decide) (by decide) (by decide) (by decide) (by decide), ek 68 (by decide) (by decide), aI_ne (by decide)]
      · rw [eK 73 (by decide) (by decide) (by decide) (by decide) (by decide)]; exact e73
      · rw [aI_ne (by decide), aI_ne (by decide), aI_ne (by decide), aI_ne (by decide), aI_eq]
      · rw [aI_ne (by decide), aI_ne (by decide), aI_ne (by decide), aI_eq]
      · rw [aI_ne (by decide), aI_ne (by decide), aI_eq]
      · rw [aI_ne (by decide), aI_eq]
      · rw [aI_eq]
      · rw [eK 66 (by decide) (by decide) (by decide) (by decide) (by decide), e66 k hk]
        by_cases z : k < a
        · rw [if_pos (by omega), if_pos z]
        · rw [if_neg (by omega), if_neg z]
      · rw [eK 66 (by decide) (by decide) (by decide) (by decide) (by decide)]; exact e66o i hi
      · rw [eK k (by omega) (by omega) (by omega) (by omega) (by omega), ek k (by omega) (by omega), aI_ne (by omega)]
    | succ u ih =>
      intro σ1 hu e73 ek el e73o e66o e66
      rw [litI 1, nI_sb (by omega), show u + 1 - 1 = u by omega]
      refine a_enter_69 _ _ _ _ _ _ ⟨fun z => absurd z (by rw [n0_lt (by omega)]; exact id), fun _ => ⟨0, by omega, ?_⟩⟩
      have e73' : aI σ1 73 p = nI (V - (a - u) + 1) := by rw [e73]; congr 1; omega
      refine ac_pop0 hn hp (by rw [ek 58 (by decide) (by decide), aI_ne (by decide)]; exact h58) e73' (by omega) ?_
      rw [litI 40, pk_mul, nI_add, vpn (by omega), cl_nI (by omega)]
      refine ⟨by omega, ?_⟩
      rintro s21 rfl
      rw [add_m1]
      have e74 : aI σ1 74 (10200 * p + (V - (a - u))) = aI σ 74 (10200 * p + (V - a) + u) := by
        rw [ek 74 (by decide) (by decide), aI_ne (by decide)]
        congr 1
        omega
      rw [e74]
      refine ih _ (by omega) ?_ (fun k k1 k2 => ?_) el (fun i hi => ?_) (fun i hi => ?_) (fun k hk => ?_)
      · rw [aI_ne (by decide), aI_eq]
      · rw [aI_ne k1, aI_ne k2]; exact ek k k1 k2
      · rw [aI_ne (by decide), aI_ni hi]; exact e73o i hi
      · rw [aI_ni (by omega), aI_ne (by decide)]; exact e66o i hi
      · by_cases c : k = u
        · rw [c, aI_eq, if_pos (by omega)]
        · rw [aI_ni (by omega), aI_ne (by decide), e66 k hk]
          by_cases z : u + 1 ≤ k ∧ k < a
          · rw [if_pos z, if_pos (by omega)]
          · rw [if_neg z, if_neg (by omega)]
  refine zero_loop (σ := wI σ 60 p (nI (D + 1))) (by omega) (pops a _ (Nat.le_refl _) ?_ (fun k k1 k2 => zrS_ne k1 40) ?_ (fun i hi => ?_) (fun i hi => ?_) (fun k hk => ?_)) 40 0 rfl
  · rw [zrS_ne (by decide), aI_ne (by decide), h73]
    congr 1
    omega
  · rw [zrS_l]; rfl
  · rw [zrS_ne (by decide), aI_ne (by decide)]
  · rw [zrS_66, if_neg (by omega), aI_ne (by decide)]
  · rw [zrS_66, if_pos (by omega), if_neg (by omega)]
section ENTV
variable {b i j nv nv0 s md b' i' j' s' md' j2 st s2 m2 : Nat} {pl arg : Int32} {vs : Nat → Int32} {L : List Ite} {O Ar : List Int32} {r : List Frm}
theorem EnR.ag {fs : List Frm} {g o : Nat} (h : EnR n p fs.length G V a bd σ σ') : AgR σ σ' p fs.length g o := by
  obtain ⟨h1, h2, h3, h4, h5, h6, h7⟩ := h
  refine ⟨fun k i k1 k2 hi => h5 k _ k1 k2 (by omega), fun i hi => h6 _ (by omega), fun i hi => by rw [h7 67 (by omega)], fun k i k1 k2 hi => by rw [h7 k (by omega)], fun i hi => by rw [h7 74 (by omega)]⟩
theorem ac_enter (hk : VR σ n p ((b, i, j, pl, nv0, vs, L, O ++ Ar, s, md) :: r)) (hr : r.length + 2 ≤ 60) (hbd : bd < 12) (ha : Ar.length ≤ 4) (h23 : aI σ 23 bd = nI j2) (hj : j2 < 12000) (hst : st < 20000) (hi : i' < 20000) (hnv : nv ≤ 12)
    (q : ∀ σ', Ro p σ σ' → VR σ' n p ((bd, st, j2, -9, nv, fun k => if k < Ar.length then Ar.getD k 0 else 0, [], [], s2, m2) :: (b, i', j, pl, nv0, vs, L, O, s', md') :: r) → F σ') : AC X 92 1 MX13_enter [vR 92, vI (nI n), vI (nI bd), vI (nI Ar.length)] σ (aRV F) := by
  have hbd2 := hk.bd
  obtain ⟨⟨h1, h2, h3, h4⟩, h5, ⟨h6, h7, h8⟩, h9, ⟨f1, f2, f3, f4, f5, f6⟩, a1, g2, g3, g4⟩ := hk
  have eo : ocs ((b, i, j, pl, nv0, vs, L, O ++ Ar, s, md) :: r) = ocs r + O.length + Ar.length := by
    show ocs r + (O ++ Ar).length = _
    rw [List.length_append]
    omega
  have f3 : (O ++ Ar).length ≤ 150 := f3
  rw [List.length_append] at f3
  refine ac_enter0 (D := r.length + 1) (G := gcs ((b, i, j, pl, nv0, vs, L, O ++ Ar, s, md) :: r)) (V := ocs r + O.length + Ar.length) h3 h1 (by omega) hbd ha (by omega) (by omega) h5 h6 h7 (by rw [h8, eo]) (fun σ' en => ?_)
  have ag : AgR σ σ' p (r.length + 1) (gcs ((b, i, j, pl, nv0, vs, L, O ++ Ar, s, md) :: r)) (ocs ((b, i, j, pl, nv0, vs, L, O ++ Ar, s, md) :: r)) := EnR.ag (fs := (b, i, j, pl, nv0, vs, L, O ++ Ar, s, md) :: r) en
  obtain ⟨e1, ⟨e2, e3, e4⟩, ⟨e5, e6, e7, e8, e9⟩, e10, e11, e12, e13⟩ := en
  have eV : ocs r + O.length + Ar.length - Ar.length = ocs r + O.length := by omega
  rw [eV] at e4 e9 e10
  have hf : FrR σ p r.length (gcs r) (ocs r) (b, i', j, pl, nv0, vs, L, O, s', md') := by
    refine ⟨⟨f1, f2, by show O.length ≤ 150; omega, f4, hi, f6⟩, a1, g2, g3, fun k hk => ?_⟩
    have hk : k < O.length := hk
    have e := g4 k (by show k < (O ++ Ar).length; rw [List.length_append]; omega)
    have e : aI σ 74 (10200 * p + ocs r + k) = (O ++ Ar).getD k 0 := e
    rw [List.getD_eq_getElem?_getD, List.getElem?_append_left hk] at e
    show _ = O.getD k 0
    rw [List.getD_eq_getElem?_getD]
    exact e
  have eg2 : gcs ((b, i', j, pl, nv0, vs, L, O, s', md') :: r) = gcs ((b, i, j, pl, nv0, vs, L, O ++ Ar, s, md) :: r) := rfl
  have eo2 : ocs ((b, i', j, pl, nv0, vs, L, O, s', md') :: r) = ocs r + O.length := rfl
  refine q σ' e1 ⟨⟨h1, h2, h3, by show r.length + 1 + 1 ≤ 60; omega⟩, by rw [e1.1 58 (by omega)]; exact h5, ⟨e2, ?_, ?_⟩, ⟨h9.cg _ (ag.weak (by omega) (by rw [← eg2]; exact Nat.le_add_right _ _) (by omega)), hf.cg (ag.weak (by omega) (by rw [← eg2]; exact Nat.le_refl _) (by show ocs r + O.length ≤ _; omega))⟩, ⟨hnv, Nat.zero_le _, Nat.zero_le _, hbd, hst, Nat.lt_succ_of_lt hj⟩, ⟨e5, e6.trans h23, e7, e8, e9⟩, fun k hk => ?_, trivial, fun k hk => absurd hk (Nat.not_lt_zero _)⟩
  · rw [e3, h7]; rfl
  · rw [e4]; rfl
  · have hk : k < nv := hk
    show aI σ' 66 (40 * (60 * p + (r.length + 1)) + k) = if k < Ar.length then Ar.getD k 0 else 0
    rw [e10 k (by omega)]
    by_cases z : k < Ar.length
    · rw [if_pos z, if_pos z]
      have e := g4 (O.length + k) (by show O.length + k < (O ++ Ar).length; rw [List.length_append]; omega)
      have e : aI σ 74 (10200 * p + ocs r + (O.length + k)) = (O ++ Ar).getD (O.length + k) 0 := e
      rw [List.getD_eq_getElem?_getD, List.getElem?_append_right (by omega), show O.length + k - O.length = k by omega] at e
      rw [List.getD_eq_getElem?_getD, ← e]
      congr 1
      omega
    · rw [if_neg z, if_neg z]
/-- a voice is started: p is the first free part -/
theorem ac_start (hn1 : 1 ≤ n) (hn : n ≤ 60) (hp : p < 12) (hfree : aI σ 59 p = 0) (hfst : ∀ k, k < p → aI σ 59 k ≠ 0) (h50 : aI σ 50 n = nI bd) (hbd : bd < 12) (h20 : aI σ 20 bd = nI a) (ha : a ≤ 1) (h51 : aI σ 51 n = arg) (h23 : aI σ 23 bd = nI j2) (hj : j2 < 12000) (hst : st < 20000) (hnv : nv ≤ 12)
    (q : ∀ σ', Ro p (wI (wI σ 59 p 1) 58 n (nI p)) σ' → VR σ' n p [(bd, st, j2, -9, nv, fun k => if k < a then arg else 0, [], [], s2, m2)] → F σ') : AC X 92 2 MX13_start [vR 92, vI (nI n)] σ (aRV F) := by
  have fin : ∀ (V : Nat) (σ1 : Rm), (V = a) → aI σ1 58 n = nI p → aI σ1 60 p = nI 0 → aI σ1 68 p = nI 0 → aI σ1 73 p = nI V → (a = 1 → aI σ1 74 (10200 * p + 0) = arg) → Ro p (wI (wI σ 59 p 1) 58 n (nI p)) σ1 → A X 92 2 MX13_start 77 [(0, vR 92), (1, vI (nI n)), (2, vI (nI p))] [] σ1 (aRV F) := fun V σ1 hV e58 e60 e68 e73 e74 ro => by
    subst hV
    have k50 : aI σ1 50 n = nI bd := by rw [ro.1 50 (by omega), aI_ne (by decide), aI_ne (by decide)]; exact h50
    have k20 : aI σ1 20 bd = nI V := by rw [ro.1 20 (by omega), aI_ne (by decide), aI_ne (by decide)]; exact h20
    have k23 : aI σ1 23 bd = nI j2 := by rw [ro.1 23 (by omega), aI_ne (by decide), aI_ne (by decide)]; exact h23
    refine a_start_77 _ _ ?_
    rw [vpn (by omega), cl_nI (by omega), k50, vpn (by omega), cl_nI (by omega), k20]
    refine ⟨by omega, by omega, hbd, 1, by omega, ac_enter0 (D := 0) (G := 0) hn hp (by omega) hbd (by omega) (Nat.le_refl _) (by omega) e58 e60 e68 e73 (fun σ' en => ?_)⟩
    obtain ⟨e1, ⟨e2, e3, e4⟩, ⟨e5, e6, e7, e8, e9⟩, e10, e11, e12, e13⟩ := en
    rw [Nat.sub_self] at e4 e9 e10
    refine ⟨rfl, q σ' (ro.trans e1) ⟨⟨hp, hn1, hn, by show 1 ≤ 60; omega⟩, by rw [e1.1 58 (by omega)]; exact e58, ⟨e2, by rw [e3]; exact e68, e4⟩, trivial, ⟨hnv, Nat.zero_le _, Nat.zero_le _, hbd, hst, Nat.lt_succ_of_lt hj⟩, ⟨e5, e6.trans k23, e7, e8, e9⟩, fun k hk => ?_, trivial, fun k hk => absurd hk (Nat.not_lt_zero _)⟩⟩
    have hk : k < nv := hk
    show aI σ' 66 (40 * (60 * p + 0) + k) = if k < V then arg else 0
    rw [e10 k (by omega)]
    by_cases z : k < V
    · rw [if_pos z, if_pos z, show k = 0 by omega]
      exact e74 (by omega)
    · rw [if_neg z, if_neg z]
  have loop : ∀ (r k : Nat), k + r = p → A X 92 2 MX13_start 2 [(0, vR 92), (1, vI (nI n)), (2, vI (nI k))] [] σ (aRV F) := by
    intro r
    induction r with
    | zero =>
      intro k hk
      have e : k = p := by omega
      subst e
      refine a_start_2 _ _ ?_
      rw [vpn (by omega), cl_nI (by omega), hfree]
      refine ⟨hp, fun _ => ⟨hp, ?_⟩, fun z => absurd rfl z⟩
      rintro s4 rfl
      rw [vpn (by omega), cl_nI (by omega)]
      refine ⟨by omega, ?_⟩
      rintro s6 rfl
      refine ⟨hp, ?_⟩
      rintro s8 rfl
      refine ⟨hp, ?_⟩
      rintro s10 rfl
      refine ⟨hp, ?_⟩
      rintro s12 rfl
      have k50 : aI (wI (wI (wI (wI (wI σ 59 k 1) 58 n (nI k)) 60 k 0) 68 k 0) 73 k 0) 50 n = nI bd := by rw [aI_ne (by decide), aI_ne (by decide), aI_ne (by decide), aI_ne (by decide), aI_ne (by decide)]; exact h50
      have k20 : aI (wI (wI (wI (wI (wI σ 59 k 1) 58 n (nI k)) 60 k 0) 68 k 0) 73 k 0) 20 bd = nI a := by rw [aI_ne (by decide), aI_ne (by decide), aI_ne (by decide), aI_ne (by decide), aI_ne (by decide)]; exact h20
      have k51 : aI (wI (wI (wI (wI (wI σ 59 k 1) 58 n (nI k)) 60 k 0) 68 k 0) 73 k 0) 51 n = arg := by rw [aI_ne (by decide), aI_ne (by decide), aI_ne (by decide), aI_ne (by decide), aI_ne (by decide)]; exact h51
      rw [k50, vpn (by omega), cl_nI (by omega), k20, nI_le0 (by omega), k51]
      have ro : Ro k (wI (wI σ 59 k 1) 58 n (nI k)) (wI (wI (wI (wI (wI σ 59 k 1) 58 n (nI k)) 60 k 0) 68 k 0) 73 k 0) := ((Ro.w (by decide) (by decide) (by show 1 * k ≤ k; omega) (by show k < 1 * (k + 1); omega)).trans (Ro.w (by decide) (by decide) (by show 1 * k ≤ k; omega) (by show k < 1 * (k + 1); omega))).trans (Ro.w (by decide) (by decide) (by show 1 * k ≤ k; omega) (by show k < 1 * (k + 1); omega))
      have e58 : aI (wI (wI (wI (wI (wI σ 59 k 1) 58 n (nI k)) 60 k 0) 68 k 0) 73 k 0) 58 n = nI k := by rw [aI_ne (by decide), aI_ne (by decide), aI_ne (by decide), aI_eq]
      have e60 : aI (wI (wI (wI (wI (wI σ 59 k 1) 58 n (nI k)) 60 k 0) 68 k 0) 73 k 0) 60 k = nI 0 := by rw [aI_ne (by decide), aI_ne (by decide), aI_eq]; rfl
      have e68 : aI (wI (wI (wI (wI (wI σ 59 k 1) 58 n (nI k)) 60 k 0) 68 k 0) 73 k 0) 68 k = nI 0 := by rw [aI_ne (by decide), aI_eq]; rfl
      have e73 : aI (wI (wI (wI (wI (wI σ 59 k 1) 58 n (nI k)) 60 k 0) 68 k 0) 73 k 0) 73 k = nI 0 := by rw [aI_eq]; rfl
      refine ⟨by omega, hbd, fun z => fin 0 _ z.symm e58 e60 e68 e73 (fun y => by omega) ro, fun z => ⟨by omega, 0, by omega, ac_push0 (V := 0) hn hp e58 e73 (by omega) (fin 1 _ (by omega) ?_ ?_ ?_ ?_ (fun _ => ?_) (ro.trans ((Ro.w (by decide) (by decide) (by show 10200 * k ≤ _; omega) (by show _ < 10200 * (k + 1); omega)).trans (Ro.w (by decide) (by decide) (by show 1 * k ≤ k; omega) (by show k < 1 * (k + 1); omega)))))⟩⟩
      · rw [aI_ne (by decide), aI_ne (by decide)]; exact e58
      · rw [aI_ne (by decide), aI_ne (by decide)]; exact e60
      · rw [aI_ne (by decide), aI_ne (by decide)]; exact e68
      · rw [aI_eq]
      · rw [aI_ne (by decide), aI_eq]
    | succ r ih =>
      intro k hk
      refine a_start_2 _ _ ?_
      rw [vpn (by omega), cl_nI (by omega), nI_1]
      exact ⟨by omega, fun z => absurd z (hfst k (by omega)), fun _ => ih (k + 1) (by omega)⟩
  exact AC_of_A rfl (Nat.le_of_ble_eq_true rfl) rfl (a_start_0 _ (loop p 0 (by omega)))
end ENTV
end RENTER
