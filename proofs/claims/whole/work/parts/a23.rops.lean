/-! the reference's calls: what its pieces do -/
/-- the same, but for how many operands there are -/
def VRx (σ : Rm) (n p : Nat) (fs : List Frm) : Prop := (p < 12 ∧ 1 ≤ n ∧ n ≤ 60 ∧ fs.length ≤ 60) ∧ aI σ 58 n = nI p ∧ (aI σ 60 p = nI fs.length ∧ aI σ 68 p = nI (gcs fs)) ∧ FsR σ p fs
section ROPS
variable {X : Cx} {σ σ' σ1 σ2 : Rm} {n p b i j nv s md b' i' j' s' md' t t' h ph : Nat} {pl x : Int32} {vs : Nat → Int32} {L L0 Es : List Ite} {O : List Int32} {r : List Frm}
theorem VR.vx {fs : List Frm} (h : VR σ n p fs) : VRx σ n p fs := ⟨h.1, h.2.1, ⟨h.2.2.1.1, h.2.2.1.2.1⟩, h.2.2.2⟩
theorem VRx.vr {fs : List Frm} (h : VRx σ n p fs) (e : aI σ 73 p = nI (ocs fs)) : VR σ n p fs := ⟨h.1, h.2.1, ⟨h.2.2.1.1, h.2.2.1.2, e⟩, h.2.2.2⟩
/-- operands are left out of sight -/
theorem VRx.cut (h : VRx σ n p ((b, i, j, pl, nv, vs, L, O, s, md) :: r)) (hi : i' < 20000) : VRx σ n p ((b, i', j, pl, nv, vs, L, [], s', md') :: r) := by
  obtain ⟨h1, h2, h3, h4, ⟨f1, f2, f3, f4, f5, f6⟩, g1, g2, g3, g4⟩ := h
  exact ⟨h1, h2, h3, h4, ⟨f1, f2, Nat.zero_le _, f4, hi, f6⟩, g1, g2, g3, fun k hk => absurd hk (Nat.not_lt_zero _)⟩
theorem VRx.bd {fs : List Frm} (h : VRx σ n p fs) : gcs fs ≤ 1440 ∧ ocs fs ≤ 9000 ∧ tsz 0 fs ≤ 15720 := by
  have b := FsR.bd fs h.2.2.2
  have := h.1.2.2.2
  omega
/-- another head -/
theorem VRx.head {f f' : Frm} (h : VRx σ n p (f :: r)) (e58 : aI σ' 58 n = aI σ 58 n) (e60 : aI σ' 60 p = aI σ 60 p) (e68 : aI σ' 68 p = nI (gcs (f' :: r))) (a : AgR σ σ' p r.length (gcs r) (ocs r)) (hf : FrR σ' p r.length (gcs r) (ocs r) f') : VRx σ' n p (f' :: r) := by
  obtain ⟨h1, h2, ⟨h3, h4⟩, h5, h6⟩ := h
  exact ⟨h1, e58.trans h2, ⟨e60.trans h3, e68⟩, h5.cg _ a, hf⟩
theorem ac_call {F : Int32 → Rm → Prop} {f : Frm} (h : VRx σ n p (f :: r)) (q : F (nI (60 * p + r.length)) σ) : AC X 92 0 MX13_call [vR 92, vI (nI n)] σ (aRI F) := by
  obtain ⟨⟨h1, h2, h3, h4⟩, h5, ⟨h6, h7⟩, -⟩ := h
  have h4 : r.length + 1 ≤ 60 := h4
  have h6 : aI σ 60 p = nI (r.length + 1) := h6
  refine AC_of_A rfl (Nat.le_of_ble_eq_true rfl) rfl (a_call_0 _ ?_)
  rw [vpn (by omega), cl_nI (by omega), h5, vpn (by omega), cl_nI (by omega), h6, litI 60, pk_mul, nI_add, litI 1, nI_sb (by omega)]
  exact ⟨by omega, by omega, h1, _, rfl, by rw [show 60 * p + (r.length + 1) - 1 = 60 * p + r.length by omega]; exact q⟩
theorem ac_push {F : Rm → Prop} (h : VR σ n p ((b, i, j, pl, nv, vs, L, O, s, md) :: r)) (ho : O.length < 150) (hi : i' < 20000) (q : ∀ σ', Ro p σ σ' → VR σ' n p ((b, i', j, pl, nv, vs, L, O ++ [x], s', md') :: r) → F σ') : AC X 92 0 MX13_push [vR 92, vI (nI n), vI x] σ (aRV F) := by
  have hx := h.vx
  have hbd := h.bd
  obtain ⟨⟨h1, h2, h3, h4⟩, h5, ⟨h6, h7, h8⟩, h9, ⟨f1, f2, f3, f4, f5, f6⟩, g1, g2, g3, g4⟩ := h
  have eo : ocs ((b, i, j, pl, nv, vs, L, O, s, md) :: r) = ocs r + O.length := rfl
  refine AC_of_A rfl (Nat.le_of_ble_eq_true rfl) rfl (a_push_0 _ _ ?_)
  rw [vpn (by omega), cl_nI (by omega), h5, vpn (by omega), cl_nI (by omega), h8, litI 10200, pk_mul, nI_add, vpn (by omega), cl_nI (by omega)]
  refine ⟨by omega, h1, by omega, ?_⟩
  rintro s4 rfl
  refine ⟨h1, h1, ?_⟩
  rintro s7 rfl
  rw [aI_ne (by decide), h8, nI_1]
  refine ⟨rfl, q _ ((Ro.w (by decide) (by decide) (by show 10200 * p ≤ _; omega) (by show _ < 10200 * (p + 1); omega)).trans (Ro.w (by decide) (by decide) (by show 1 * p ≤ p; omega) (by show p < 1 * (p + 1); omega))) (VRx.vr (hx.head ?_ ?_ ?_ ((AgR.w (fun _ _ => by omega) (fun z => by omega) (fun z => by omega) (fun z _ => by omega) (fun _ k hk => by omega)).trans (AgR.w (fun _ _ => by omega) (fun z => by omega) (fun z => by omega) (fun z _ => by omega) (fun z => by omega))) ⟨⟨f1, f2, ?_, f4, hi, f6⟩, ?_, fun k hk => ?_, ?_, fun k hk => ?_⟩) ?_)⟩
  · rw [aI_ne (by decide), aI_ne (by decide)]
  · rw [aI_ne (by decide), aI_ne (by decide)]
  · rw [aI_ne (by decide), aI_ne (by decide)]; exact h7
  · show (O ++ [x]).length ≤ 150
    rw [List.length_append]
    simp
    omega
  · rw [aI_ne (by decide), aI_ne (by decide), aI_ne (by decide), aI_ne (by decide), aI_ne (by decide), aI_ne (by decide), aI_ne (by decide), aI_ne (by decide), aI_ne (by decide), aI_ne (by decide)]
    exact g1
  · rw [aI_ne (by decide), aI_ne (by decide)]; exact g2 k hk
  · have e1 := ecI_le L
    have e2 := ccI_le L
    have f2 : L.length ≤ 24 := f2
    exact ItsR.cg (g0 := 0) _ _ _ _ g3 (by show 0 + ecI L ≤ 28; omega) (by show 0 + ccI L ≤ 25; omega) (fun k hk => by rw [aI_ne (by decide), aI_ne (by decide)]) (fun k hk => by rw [aI_ne (by decide), aI_ne (by decide)]) (fun k q a1 a2 a3 => by rw [aI_ne (by omega), aI_ne (by omega)])
  · have hk : k < (O ++ [x]).length := hk
    rw [List.length_append] at hk
    rw [aI_ne (by decide)]
    show _ = (O ++ [x]).getD k 0
    by_cases ck : k < O.length
    · rw [getD_app1 ck, aI_ni (by omega)]
      exact g4 k ck
    · have ek : k = O.length := by simp at hk; omega
      subst ek
      rw [getD_app2, show 10200 * p + ocs r + O.length = 10200 * p + (ocs r + O.length) by omega, ← eo, aI_eq]
  · rw [aI_eq]
    congr 1
    show ocs r + O.length + 1 = ocs r + (O ++ [x]).length
    rw [List.length_append]
    simp
    omega
theorem ac_pop {F : Int32 → Rm → Prop} (h : VR σ n p ((b, i, j, pl, nv, vs, L, O ++ [x], s, md) :: r)) (hi : i' < 20000) (q : ∀ σ', Ro p σ σ' → VR σ' n p ((b, i', j, pl, nv, vs, L, O, s', md') :: r) → F x σ') : AC X 92 0 MX13_pop [vR 92, vI (nI n)] σ (aRI F) := by
  have hx := h.vx
  have hbd := h.bd
  obtain ⟨⟨h1, h2, h3, h4⟩, h5, ⟨h6, h7, h8⟩, h9, ⟨f1, f2, f3, f4, f5, f6⟩, g1, g2, g3, g4⟩ := h
  have eo : ocs ((b, i, j, pl, nv, vs, L, O ++ [x], s, md) :: r) = ocs r + O.length + 1 := by
    show ocs r + (O ++ [x]).length = _
    rw [List.length_append]
    simp
    omega
  have f3 : (O ++ [x]).length ≤ 150 := f3
  rw [List.length_append] at f3
  refine AC_of_A rfl (Nat.le_of_ble_eq_true rfl) rfl (a_pop_0 _ ?_)
  rw [vpn (by omega), cl_nI (by omega), h5, vpn (by omega), cl_nI (by omega), h8, eo, litI 1, nI_sb (by omega), show ocs r + O.length + 1 - 1 = ocs r + O.length by omega]
  refine ⟨by omega, h1, h1, ?_⟩
  rintro s4 rfl
  rw [aI_eq, litI 10200, pk_mul, nI_add, vpn (by omega), cl_nI (by omega), aI_ne (by decide)]
  have ex := g4 O.length (by show O.length < (O ++ [x]).length; rw [List.length_append]; simp)
  have ex : aI σ 74 (10200 * p + ocs r + O.length) = (O ++ [x]).getD O.length 0 := ex
  rw [getD_app2, Nat.add_assoc] at ex
  rw [ex]
  refine ⟨h1, by omega, _, rfl, q _ (Ro.w (by decide) (by decide) (by show 1 * p ≤ p; omega) (by show p < 1 * (p + 1); omega)) (VRx.vr (hx.head ?_ ?_ ?_ (AgR.w (fun _ _ => by omega) (fun z => by omega) (fun z => by omega) (fun z _ => by omega) (fun z => by omega)) ⟨⟨f1, f2, ?_, f4, hi, f6⟩, ?_, fun k hk => ?_, ?_, fun k hk => ?_⟩) ?_)⟩
  · rw [aI_ne (by decide)]
  · rw [aI_ne (by decide)]
  · rw [aI_ne (by decide)]; exact h7
  · show O.length ≤ 150
    omega
  · rw [aI_ne (by decide), aI_ne (by decide), aI_ne (by decide), aI_ne (by decide), aI_ne (by decide)]
    exact g1
  · rw [aI_ne (by decide)]; exact g2 k hk
  · have e1 := ecI_le L
    have e2 := ccI_le L
    have f2 : L.length ≤ 24 := f2
    exact ItsR.cg (g0 := 0) _ _ _ _ g3 (by show 0 + ecI L ≤ 28; omega) (by show 0 + ccI L ≤ 25; omega) (fun k hk => by rw [aI_ne (by decide)]) (fun k hk => by rw [aI_ne (by decide)]) (fun k q a1 a2 a3 => by rw [aI_ne (by omega)])
  · have hk : k < O.length := hk
    rw [aI_ne (by decide)]
    have e := g4 k (by show k < (O ++ [x]).length; rw [List.length_append]; omega)
    have e : aI σ 74 (10200 * p + ocs r + k) = (O ++ [x]).getD k 0 := e
    rw [getD_app1 hk] at e
    exact e
  · rw [aI_eq]
    rfl
/-- items where other places are written -/
theorem ItsR.w {g0 d k q : Nat} {v : Int32} {gi : Nat} (hl : L.length ≤ 24) (h : ItsR σ p (60 * p + d) gi 0 0 L) (h66 : k = 66 → ∀ i, i < 28 → q ≠ 40 * (60 * p + d) + 12 + i) (h67 : k = 67 → ∀ i, i < ccI L → q ≠ 25 * (60 * p + d) + i) (h69 : 69 ≤ k → k ≤ 72 → ∀ i, i < gi + gcn L → q ≠ 1500 * p + i) : ItsR (wI σ k q v) p (60 * p + d) gi 0 0 L := by
  have key : ∀ (M : List Ite) (gi e cc : Nat), M.length + e ≤ 24 → M.length + cc ≤ 24 → (k = 66 → ∀ i, i < 28 → q ≠ 40 * (60 * p + d) + 12 + i) → (k = 67 → ∀ i, i < cc + ccI M → q ≠ 25 * (60 * p + d) + i) → (69 ≤ k → k ≤ 72 → ∀ i, i < gi + gcn M → q ≠ 1500 * p + i) → ItsR σ p (60 * p + d) gi e cc M → ItsR (wI σ k q v) p (60 * p + d) gi e cc M := by
    intro M
    induction M with
    | nil => intro gi e cc _ _ _ _ _ _; trivial
    | cons x r ih =>
      intro gi e cc l1 l2 a66 a67 a69 hi
      have e2 : ecI (x :: r) = ect x + ecI r := ecI_cons
      have e3 : ccI (x :: r) = cct x + ccI r := ccI_cons
      have e1 : gcn (x :: r) = gct x + gcn r := rfl
      have l : (x :: r).length = r.length + 1 := rfl
      have b1 : ect x ≤ 1 := by unfold ect; split <;> omega
      have b2 : cct x ≤ 1 := by unfold cct; split <;> omega
      refine ⟨⟨fun z => ?_, fun z => ?_⟩, ih _ _ _ (by omega) (by omega) a66 (fun y i hi => a67 y i (by omega)) (fun y1 y2 i hi => a69 y1 y2 i (by omega)) hi.2⟩
      · by_cases ek : (66 : Nat) = k
        · rw [← ek, aI_ni (fun w => a66 ek.symm e (by omega) w.symm)]
          exact hi.1.1 z
        · rw [aI_ne ek]; exact hi.1.1 z
      · have hg : gct x = 1 := if_neg z
        obtain ⟨y1, y2, y3, y4, y5, y6⟩ := hi.1.2 z
        have one : ∀ f, 69 ≤ f → f ≤ 72 → aI (wI σ k q v) f (1500 * p + gi) = aI σ f (1500 * p + gi) := fun f f1 f2 => by
          by_cases ek : f = k
          · rw [ek, aI_ni (fun w => a69 (by omega) (by omega) gi (by omega) w.symm)]
          · rw [aI_ne ek]
        rw [one 69 (by omega) (by omega), one 70 (by omega) (by omega), one 71 (by omega) (by omega), one 72 (by omega) (by omega)]
        refine ⟨y1, y2, fun w => ?_, y4, y5, y6⟩
        by_cases ek : (67 : Nat) = k
        · rw [← ek, aI_ni (fun w2 => a67 ek.symm cc (by have : cct x = 1 := if_pos ⟨z, w⟩; omega) w2.symm)]
          exact y3 w
        · rw [aI_ne ek]; exact y3 w
  exact key L gi 0 0 (by omega) (by omega) h66 (fun y i hi => h67 y i (by omega)) h69 h
/-- one write into the head's own places -/
theorem VRx.wr {f f' : Frm} {k q : Nat} {v : Int32} (h : VRx σ n p (f :: r)) (hk : (61 ≤ k ∧ k ≤ 65 ∧ q = 60 * p + r.length) ∨ (k = 66 ∧ 40 * (60 * p + r.length) ≤ q ∧ q < 40 * (60 * p + r.length) + 40) ∨ (k = 67 ∧ 25 * (60 * p + r.length) ≤ q ∧ q < 25 * (60 * p + r.length) + 25) ∨ (69 ≤ k ∧ k ≤ 72 ∧ 1500 * p + gcs r ≤ q ∧ q < 1500 * (p + 1))) (hg : gcn (frL f') = gcn (frL f)) (hf : FrR (wI σ k q v) p r.length (gcs r) (ocs r) f') : VRx (wI σ k q v) n p (f' :: r) ∧ Ro p σ (wI σ k q v) := by
  have hl : r.length + 1 ≤ 60 := h.1.2.2.2
  have h7 := h.2.2.1.2
  refine ⟨h.head (by rw [aI_ne (by omega)]) (by rw [aI_ne (by omega)]) ?_ (AgR.w (fun _ _ i hi => by omega) (fun z i hi => by omega) (fun z i hi => by omega) (fun z1 z2 i hi => by omega) (fun z => by omega)) hf, ?_⟩
  · rw [aI_ne (by omega), h7]
    show nI (gcs r + gcn (frL f)) = nI (gcs r + gcn (frL f'))
    rw [hg]
  · rcases hk with ⟨h1, h2, h3⟩ | ⟨h1, h2, h3⟩ | ⟨h1, h2, h3⟩ | ⟨h1, h2, h3, h4⟩
    · have e : pw k = 60 := by unfold pw; rw [if_neg (by omega), if_pos (by omega)]
      exact Ro.w (by omega) (by omega) (by rw [e]; omega) (by rw [e]; omega)
    · have e : pw k = 2400 := by unfold pw; rw [if_neg (by omega), if_neg (by omega), if_pos (by omega)]
      exact Ro.w (by omega) (by omega) (by rw [e]; omega) (by rw [e]; omega)
    · have e : pw k = 1500 := by unfold pw; rw [if_neg (by omega), if_neg (by omega), if_neg (by omega), if_pos (by omega)]
      exact Ro.w (by omega) (by omega) (by rw [e]; omega) (by rw [e]; omega)
    · have e : pw k = 1500 := by unfold pw; rw [if_neg (by omega), if_neg (by omega), if_neg (by omega), if_pos (by omega)]
      exact Ro.w (by omega) (by omega) (by rw [e]; omega) (by rw [e]; omega)
/-- the act of the innermost call is set -/
theorem VRx.act1 (h : VRx σ n p ((b, i, j, pl, nv, vs, L, O, s, md) :: r)) (hi : i' < 20000) (hj : j' < 12001) : VRx (wI σ 62 (60 * p + r.length) (nI j')) n p ((b, i', j', pl, nv, vs, L, O, s', md') :: r) ∧ Ro p σ (wI σ 62 (60 * p + r.length) (nI j')) := by
  obtain ⟨⟨f1, f2, f3, f4, f5, f6⟩, ⟨a1, a2, a3, a4, a5⟩, g2, g3, g4⟩ := h.2.2.2.2
  refine h.wr (Or.inl ⟨by omega, by omega, rfl⟩) rfl ⟨⟨f1, f2, f3, f4, hi, hj⟩, ⟨by rw [aI_ne (by decide)]; exact a1, aI_eq, by rw [aI_ne (by decide)]; exact a3, by rw [aI_ne (by decide)]; exact a4, by rw [aI_ne (by decide)]; exact a5⟩, fun k hk => by rw [aI_ne (by decide)]; exact g2 k hk, ItsR.w (g0 := 0) f2 g3 (by omega) (by omega) (by omega), fun k hk => by rw [aI_ne (by decide)]; exact g4 k hk⟩
theorem VRx.act (h : VRx σ n p ((b, i, j, pl, nv, vs, L, O, s, md) :: r)) (hi : i' < 20000) (hj : j' < 12000) : VRx (wI σ 62 (60 * p + r.length) (nI j')) n p ((b, i', j', pl, nv, vs, L, O, s', md') :: r) ∧ Ro p σ (wI σ 62 (60 * p + r.length) (nI j')) := h.act1 hi (Nat.lt_succ_of_lt hj)
theorem VRx.place (h : VRx σ n p ((b, i, j, pl, nv, vs, L, O, s, md) :: r)) (hi : i' < 20000) : VRx (wI σ 63 (60 * p + r.length) x) n p ((b, i', j, x, nv, vs, L, O, s', md') :: r) ∧ Ro p σ (wI σ 63 (60 * p + r.length) x) := by
  obtain ⟨⟨f1, f2, f3, f4, f5, f6⟩, ⟨a1, a2, a3, a4, a5⟩, g2, g3, g4⟩ := h.2.2.2.2
  refine h.wr (Or.inl ⟨by omega, by omega, rfl⟩) rfl ⟨⟨f1, f2, f3, f4, hi, f6⟩, ⟨by rw [aI_ne (by decide)]; exact a1, by rw [aI_ne (by decide)]; exact a2, aI_eq, by rw [aI_ne (by decide)]; exact a4, by rw [aI_ne (by decide)]; exact a5⟩, fun k hk => by rw [aI_ne (by decide)]; exact g2 k hk, ItsR.w (g0 := 0) f2 g3 (by omega) (by omega) (by omega), fun k hk => by rw [aI_ne (by decide)]; exact g4 k hk⟩
theorem VRx.var {v : Nat} (h : VRx σ n p ((b, i, j, pl, nv, vs, L, O, s, md) :: r)) (hi : i' < 20000) (hv : v < nv) : VRx (wI σ 66 (40 * (60 * p + r.length) + v) x) n p ((b, i', j, pl, nv, ud vs v x, L, O, s', md') :: r) ∧ Ro p σ (wI σ 66 (40 * (60 * p + r.length) + v) x) := by
  obtain ⟨⟨f1, f2, f3, f4, f5, f6⟩, ⟨a1, a2, a3, a4, a5⟩, g2, g3, g4⟩ := h.2.2.2.2
  have f1 : nv ≤ 12 := f1
  refine h.wr (Or.inr (Or.inl ⟨rfl, by omega, by omega⟩)) rfl ⟨⟨f1, f2, f3, f4, hi, f6⟩, ⟨by rw [aI_ne (by decide)]; exact a1, by rw [aI_ne (by decide)]; exact a2, by rw [aI_ne (by decide)]; exact a3, by rw [aI_ne (by decide)]; exact a4, by rw [aI_ne (by decide)]; exact a5⟩, fun k hk => ?_, ItsR.w (g0 := 0) f2 g3 (fun _ i hi => by omega) (by omega) (by omega), fun k hk => by rw [aI_ne (by decide)]; exact g4 k hk⟩
  show _ = ud vs v x k
  by_cases c : k = v
  · rw [c, aI_eq, ud_eq]
  · rw [aI_ni (by omega), ud_ne c]; exact g2 k hk
/-- the voice of an each is kept -/
theorem VRx.each (h : VRx σ n p ((b, i, j, pl, nv, vs, L, O, s, md) :: r)) (hi : i' < 20000) (hl : L.length < 24) : VRx (wI σ 66 (40 * (60 * p + r.length) + (12 + ecI L)) x) n p ((b, i', j, pl, nv, vs, L ++ [(0, 0, 0, 0, x)], O, s', md') :: r) ∧ Ro p σ (wI σ 66 (40 * (60 * p + r.length) + (12 + ecI L)) x) := by
  obtain ⟨⟨f1, f2, f3, f4, f5, f6⟩, ⟨a1, a2, a3, a4, a5⟩, g2, g3, g4⟩ := h.2.2.2.2
  have f1 : nv ≤ 12 := f1
  have el := ecI_le L
  have key : ∀ (M : List Ite) (gi e cc : Nat), e + ecI M ≤ ecI L → ItsR σ p (60 * p + r.length) gi e cc M → ItsR (wI σ 66 (40 * (60 * p + r.length) + (12 + ecI L)) x) p (60 * p + r.length) gi e cc M := by
    intro M
    induction M with
    | nil => intro gi e cc _ _; trivial
    | cons y r' ih =>
      intro gi e cc he hi
      have e2 : ecI (y :: r') = ect y + ecI r' := ecI_cons
      refine ⟨⟨fun z => ?_, fun z => ?_⟩, ih _ _ _ (by omega) hi.2⟩
      · have : ect y = 1 := if_pos z
        rw [aI_ni (by omega)]
        exact hi.1.1 z
      · rw [aI_ne (by decide), aI_ne (by decide), aI_ne (by decide), aI_ne (by decide), aI_ne (by decide)]
        exact hi.1.2 z
  refine h.wr (Or.inr (Or.inl ⟨rfl, by omega, by omega⟩)) ?_ ⟨⟨f1, ?_, f3, f4, hi, f6⟩, ⟨by rw [aI_ne (by decide)]; exact a1, by rw [aI_ne (by decide)]; exact a2, by rw [aI_ne (by decide)]; exact a3, by rw [aI_ne (by decide)]; exact a4, by rw [aI_ne (by decide)]; exact a5⟩, fun k hk => ?_, (ItsR_app _ _ _ _ _).mpr ⟨key L _ 0 0 (by omega) g3, ⟨fun _ => ?_, fun z => absurd rfl z⟩, trivial⟩, fun k hk => by rw [aI_ne (by decide)]; exact g4 k hk⟩
  · show gcn (L ++ [(0, 0, 0, 0, x)]) = gcn L
    rw [gcn_app]
    rfl
  · show (L ++ [((0, 0, 0, 0, x) : Ite)]).length ≤ 24
    rw [List.length_append]
    simp
    omega
  · have hk : k < nv := hk
    rw [aI_ni (by omega)]; exact g2 k hk
  · rw [show 40 * (60 * p + r.length) + 12 + (0 + ecI L) = 40 * (60 * p + r.length) + (12 + ecI L) by omega, aI_eq]
end ROPS
