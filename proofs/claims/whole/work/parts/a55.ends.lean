/-! a voice is over; a handing; a failure more -/
section ENDS
variable {X : Cx} {κ0 κ κ' : Km} {σ0 σ σ' : Rm} {b V al S T T' sp z LT HT LT' HT' F0 F0' v p n x x' q s : Nat} {st : Nat → Nat} {fr : Nat → List Frm} {pt : Nat → Nat} {fs : List Frm} {ch : List Nat} {y u : Int32} {H : Nat → Prop}
theorem cel3 : 1003 + 8 * n = 1002 + 8 * n + 1 := by omega
theorem kI_mv {a c g : Nat} (h : g ≠ c) : kI (mvR κ a c) g = kI κ g := by
  funext j
  show (if g = c then κ.1 a j else κ.1 g j) = κ.1 g j
  rw [if_neg h]
theorem kL_mv {a c g : Nat} (h : g ≠ c) : kL (mvR κ a c) g = kL κ g := by
  funext j
  show (if g = c then κ.2.1 a j else κ.2.1 g j) = κ.2.1 g j
  rw [if_neg h]
theorem kW_mv {a c g : Nat} : kW (mvR κ a c) g = if g = c then kW κ a else if g = a then 0 else kW κ g := rfl
theorem RG.mv {s : Nat} (hn : n ≤ 60) (hs : s < 12) (h0 : kW κ (1004 + 8 * s) = 0) : RG κ (mvR κ (1003 + 8 * n) (1004 + 8 * s)) := by
  have s1 := sumW_one (κ := κ) (κ' := mvR κ (1003 + 8 * n) (1004 + 8 * s)) (a := 1003) (j := n) 61 (by omega) (fun i hi hne => by rw [kW_mv, if_neg (by omega), if_neg (by omega)])
  have s2 := sumW_one (κ := κ) (κ' := mvR κ (1003 + 8 * n) (1004 + 8 * s)) (a := 1004) (j := s) 12 hs (fun i hi hne => by rw [kW_mv, if_neg (by omega), if_neg (by omega)])
  have e1 : kW (mvR κ (1003 + 8 * n) (1004 + 8 * s)) (1003 + 8 * n) = 0 := by rw [kW_mv, if_neg (by omega), if_pos rfl]
  have e2 : kW (mvR κ (1003 + 8 * n) (1004 + 8 * s)) (1004 + 8 * s) = kW κ (1003 + 8 * n) := by rw [kW_mv, if_pos rfl]
  have z : kZ (mvR κ (1003 + 8 * n) (1004 + 8 * s)) = kZ κ := rfl
  have t : kT (mvR κ (1003 + 8 * n) (1004 + 8 * s)) = kT κ := rfl
  have v : kV (mvR κ (1003 + 8 * n) (1004 + 8 * s)) = kV κ := rfl
  have b : kB (mvR κ (1003 + 8 * n) (1004 + 8 * s)) = kB κ := rfl
  have o : ∀ h, h < 92 → kW (mvR κ (1003 + 8 * n) (1004 + 8 * s)) h = kW κ h := fun h hh => by rw [kW_mv, if_neg (by omega), if_neg (by omega)]
  rw [e1] at s1
  rw [e2, h0] at s2
  unfold RG Pot
  rw [z, t, v, b, o 69 (by decide), o 70 (by decide), o 74 (by decide), o 75 (by decide), o 76 (by decide), o 81 (by decide), o 83 (by decide), o 85 (by decide)]
  omega
/-- the class, behind Stage.end -/
def enK (κ : Km) (n s : Nat) (y : Int32) : Km := if kW κ (1003 + 8 * n) = 0 then endV κ (1002 + 8 * n) y else cI (mvR (endV κ (1002 + 8 * n) y) (1003 + 8 * n) (1004 + 8 * s)) 79 8 (nI (s + 1))
/-- the reference, behind over -/
def enR (σ : Rm) (n al : Nat) (y : Int32) : Rm := if aI σ 58 n = -9 then wS (wI σ 49 n y) 48 (nI (al - 1)) else wI (wI (wS (wI σ 49 n y) 48 (nI (al - 1))) 59 (aI σ 58 n).toNatClampNeg 0) 58 n (-9)
theorem Cls.wid (h : Cls κ σ n fs q x) : (fs = [] → kW κ (1003 + 8 * n) = 0 ∧ aI σ 58 n = -9) ∧ (fs ≠ [] → kW κ (1003 + 8 * n) ≠ 0 ∧ 40 ≤ kW κ (1003 + 8 * n) ∧ kW κ (1003 + 8 * n) ≤ 40000 ∧ q < 12 ∧ aI σ 58 n = nI q) := by
  rcases h with ⟨h1, h2, h3', h4⟩ | ⟨h1, ⟨c, o, o1, o2, o3⟩, h3', h4⟩
  · exact ⟨fun _ => ⟨by rw [cel3]; exact h2, h3'⟩, fun z => absurd h1 z⟩
  · refine ⟨fun z => absurd z h1, fun _ => ?_⟩
    obtain ⟨w1, w2, w3⟩ := o3.2.2.1
    rw [← cel3] at w2 w3
    refine ⟨by omega, w2, w3, ?_⟩
    rcases h3' with z | z
    · exact ⟨z.1.1, z.2.1⟩
    · exact ⟨z.2.1.1, z.2.2.1⟩
theorem kc_end {F : Km → Prop} (h : Bn κ0 σ0 κ σ b V al S T sp z LT HT F0 st fr pt x) (hn : 1 ≤ n ∧ n ≤ V) (q : F (enK κ n sp y)) : KC' X 2 MX6_end [vR 79, vR (1002 + 8 * n), vI y] κ (kRV F) := by
  obtain ⟨s1, s2, s3, s4, s5, s6, s7, s8, s9, s10, s11, s12, s13, s14, s15⟩ := h.2.1
  obtain ⟨w1, w2⟩ := (h.2.2.2.2.2.2 n hn.1 hn.2).wid
  obtain ⟨r1, r2, r3, -⟩ := h.2.2.2.1
  have r2 : sp + cn (hasF fr) V ≤ 12 := r2
  unfold enK at q
  have big : kW κ (1003 + 8 * n) < 2147483648 := by
    by_cases c : fr n = []
    · rw [(w1 c).1]; omega
    · have := (w2 c).2.2.1; omega
  refine kc_Stage_end (s := sp) hn.1 (by omega) s6 big (fun w0 => ?_) (fun w0 => by rw [if_pos w0] at q; exact q) (fun w0 => by rw [if_neg w0] at q; exact q)
  have c : fr n ≠ [] := fun c => w0 (w1 c).1
  have e := cn_up (g := hasF fr) (g' := un (hasF fr) n 0) (n := n) (fun k hk => un_ne hk) V hn.1 hn.2
  rw [un_eq] at e
  have hf : hasF fr n = 1 := if_neg (fun z => c (List.length_eq_zero_iff.mp z))
  have : sp < 12 := by omega
  exact ⟨this, (r3 sp this).2 (Nat.le_refl _)⟩
theorem ac_end {F : Rm → Prop} (h : Bn κ0 σ0 κ σ b V al S T sp z LT HT F0 st fr pt x) (hn : 1 ≤ n ∧ n ≤ V) (hs : st n < 4) (q : F (enR σ n al y)) : AC X 92 0 MX13_over [vR 92, vI (nI n), vI y] σ (aRV F) := by
  obtain ⟨s1, s2, s3, s4, s5, s6, s7, s8, s9, s10, s11, s12, s13, s14, s15⟩ := h.2.1
  obtain ⟨w1, w2⟩ := (h.2.2.2.2.2.2 n hn.1 hn.2).wid
  have hA : 1 ≤ al := by
    rw [h.2.2.2.1.1]
    have e := cn_up (g := aliv st) (g' := un (aliv st) n 0) (n := n) (fun k hk => un_ne hk) V hn.1 hn.2
    rw [un_eq] at e
    have hf : aliv st n = 1 := if_pos hs
    omega
  unfold enR at q
  by_cases c : fr n = []
  · have e := (w1 c).2
    rw [if_pos e] at q
    exact ac_over9 (by omega) e s2.2 hA q
  · obtain ⟨-, -, -, p1, p2⟩ := w2 c
    rw [if_neg (by rw [p2]; exact neg9 (by omega)), p2, cl_nI (by omega)] at q
    exact ac_over (by omega) p1 p2 s2.2 hA q
/-- what Stage.end leaves alone -/
theorem enK_h {g : Nat} (h1 : g ≠ 79) (h2 : g ≠ 1002 + 8 * n) (h4 : g ≠ 1004 + 8 * s) : kI (enK κ n s y) g = kI κ g ∧ kL (enK κ n s y) g = kL κ g := by
  unfold enK
  split
  · unfold endV
    exact ⟨by rw [kI_ne h1, kI_ne h2, kI_ne h2], rfl⟩
  · unfold endV
    exact ⟨by rw [kI_ne h1, kI_mv h4, kI_ne h1, kI_ne h2, kI_ne h2], by show kL (mvR _ _ _) g = _; rw [kL_mv h4]; rfl⟩
theorem enK_79 {k : Nat} (h1 : k ≠ 8) (h2 : k ≠ 11) : kI (enK κ n s y) 79 k = kI κ 79 k := by
  unfold enK
  split
  · unfold endV
    rw [kI_nk h2, kI_ne (by omega), kI_ne (by omega)]
  · unfold endV
    rw [kI_nk h1, kI_mv (by omega), kI_nk h2, kI_ne (by omega), kI_ne (by omega)]
theorem enK_al : kI (enK κ n s y) 79 11 = kI κ 79 11 - 1 := by
  unfold enK
  split
  · unfold endV
    rw [kI_eq]
  · unfold endV
    rw [kI_nk (by decide), kI_mv (by omega), kI_eq]
theorem enK_v {k : Nat} (h1 : k ≠ 1) (h2 : k ≠ 8) : kI (enK κ n s y) (1002 + 8 * n) k = kI κ (1002 + 8 * n) k := by
  unfold enK
  split
  · unfold endV
    rw [kI_ne (by omega), kI_nk h2, kI_nk h1]
  · unfold endV
    rw [kI_ne (by omega), kI_mv (by omega), kI_ne (by omega), kI_nk h2, kI_nk h1]
theorem enK_v1 : kI (enK κ n s y) (1002 + 8 * n) 1 = y := by
  unfold enK
  split
  · unfold endV
    rw [kI_ne (by omega), kI_nk (by decide), kI_eq]
  · unfold endV
    rw [kI_ne (by omega), kI_mv (by omega), kI_ne (by omega), kI_nk (by decide), kI_eq]
theorem enK_v8 : kI (enK κ n s y) (1002 + 8 * n) 8 = 0 := by
  unfold enK
  split
  · unfold endV
    rw [kI_ne (by omega), kI_eq]
  · unfold endV
    rw [kI_ne (by omega), kI_mv (by omega), kI_ne (by omega), kI_eq]
theorem enR_k {k : Nat} (h1 : k ≠ 48) (h2 : k ≠ 49) (h3 : k ≠ 58) (h4 : k ≠ 59) : aI (enR σ n al y) k = aI σ k := by
  unfold enR
  split
  · rw [aI_ne h1, aI_ne h2]
  · rw [aI_ne h3, aI_ne h4, aI_ne h1, aI_ne h2]
theorem enR_l : aL (enR σ n al y) = aL σ := by
  unfold enR
  split <;> rfl
theorem enR_48 : sI (enR σ n al y) 48 = nI (al - 1) := by
  unfold enR
  split
  · rw [sI_eq]
  · rw [sI_ne (by decide), sI_ne (by decide), sI_eq]
theorem enR_49 {m : Nat} (h : m ≠ n) : aI (enR σ n al y) 49 m = aI σ 49 m := by
  unfold enR
  split
  · rw [aI_ne (by decide), aI_ni h]
  · rw [aI_ne (by decide), aI_ne (by decide), aI_ne (by decide), aI_ni h]
theorem enR_49e : aI (enR σ n al y) 49 n = y := by
  unfold enR
  split
  · rw [aI_ne (by decide), aI_eq]
  · rw [aI_ne (by decide), aI_ne (by decide), aI_ne (by decide), aI_eq]
theorem enR_58 {m : Nat} (h : m ≠ n) : aI (enR σ n al y) 58 m = aI σ 58 m := by
  unfold enR
  split
  · rw [aI_ne (by decide), aI_ne (by decide)]
  · rw [aI_ni h, aI_ne (by decide), aI_ne (by decide), aI_ne (by decide)]
theorem enR_58e : aI (enR σ n al y) 58 n = -9 := by
  unfold enR
  split
  · rename_i c
    rw [aI_ne (by decide), aI_ne (by decide)]
    exact c
  · rw [aI_eq]
end ENDS
