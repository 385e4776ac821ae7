/-! what stands next, for both -/
theorem bS_not {x : Int32} (h : bS x) : x ≠ 2 ∧ x ≠ 5 ∧ x ≠ 3 ∧ x ≠ 6 ∧ x ≠ 4 ∧ x ≠ 1 ∧ x ≠ 0 ∧ ∀ w, w < 23 → x ≠ nI (200 + w) := by
  have h2 : x = nI x.toNatClampNeg ∧ x.toNatClampNeg < 126 ∧ 6 < x.toNatClampNeg := by
    unfold bS at h
    rcases h with h | h | h | h | h | h | h | h | h | h | h | h | h | h <;> subst h <;> decide
  obtain ⟨e, e1, e2⟩ := h2
  generalize x.toNatClampNeg = y at *
  subst e
  exact ⟨nI_ne (b := 2) (by omega) (by omega) (by omega), nI_ne (b := 5) (by omega) (by omega) (by omega), nI_ne (b := 3) (by omega) (by omega) (by omega), nI_ne (b := 6) (by omega) (by omega) (by omega), nI_ne (b := 4) (by omega) (by omega) (by omega), nI_ne (b := 1) (by omega) (by omega) (by omega), nI_ne (b := 0) (by omega) (by omega) (by omega), fun w hw => nI_ne (by omega) (by omega) (by omega)⟩
theorem w_not {w : Nat} (h : w < 23) : nI (200 + w) ≠ 2 ∧ nI (200 + w) ≠ 5 ∧ nI (200 + w) ≠ 3 ∧ nI (200 + w) ≠ 6 ∧ nI (200 + w) ≠ 4 ∧ nI (200 + w) ≠ 1 ∧ nI (200 + w) ≠ 0 :=
  ⟨nI_ne (b := 2) (by omega) (by omega) (by omega), nI_ne (b := 5) (by omega) (by omega) (by omega), nI_ne (b := 3) (by omega) (by omega) (by omega), nI_ne (b := 6) (by omega) (by omega) (by omega), nI_ne (b := 4) (by omega) (by omega) (by omega), nI_ne (b := 1) (by omega) (by omega) (by omega), nI_ne (b := 0) (by omega) (by omega) (by omega)⟩
section TKK
variable {c s num : Int32} {v key : Int64} {len : Nat}
theorem Tkk.sign (h : Tkk c v s num key len) {x : Int32} (hx : bS x) : (s = 3 ∧ num = x) ↔ c = x := by
  have n := bS_not hx
  rcases h with ⟨a, b, -⟩ | ⟨a, b, -⟩ | ⟨w, a, b, d, -⟩ | ⟨y, -, a, b, -⟩ | ⟨a, b, -⟩ | ⟨a, b⟩ | ⟨a, b, d⟩ | ⟨a, b⟩ | ⟨a, b⟩
  · exact ⟨fun z => absurd (b.symm.trans z.1) (by decide), fun z => absurd (z.symm.trans a) n.1⟩
  · exact ⟨fun z => absurd (b.symm.trans z.1) (by decide), fun z => absurd (z.symm.trans a) n.2.1⟩
  · exact ⟨fun z => absurd (d.symm.trans z.1) (by decide), fun z => absurd (z.symm.trans b) (n.2.2.2.2.2.2.2 w a)⟩
  · exact ⟨fun z => absurd (b.symm.trans z.1) (by decide), fun z => absurd (z.symm.trans a) n.2.2.1⟩
  · exact ⟨fun z => absurd (b.symm.trans z.1) (by decide), fun z => absurd (z.symm.trans a) n.2.2.2.1⟩
  · exact ⟨fun z => absurd (b.symm.trans z.1) (by decide), fun z => absurd (z.symm.trans a) n.2.2.2.2.1⟩
  · exact ⟨fun z => d.symm.trans z.2, fun z => ⟨b, d.trans z⟩⟩
  · exact ⟨fun z => absurd (b.symm.trans z.1) (by decide), fun z => absurd (z.symm.trans a) n.2.2.2.2.2.1⟩
  · exact ⟨fun z => absurd (b.symm.trans z.1) (by decide), fun z => absurd (z.symm.trans a) n.2.2.2.2.2.2.1⟩
theorem Tkk.word (h : Tkk c v s num key len) {u : Nat} (hu : u < 23) : (s = 4 ∧ key = kr u) ↔ c = nI (200 + u) := by
  have n := w_not hu
  rcases h with ⟨a, b, -⟩ | ⟨a, b, -⟩ | ⟨w, a, b, d, e⟩ | ⟨y, -, a, b, -⟩ | ⟨a, b, -⟩ | ⟨a, b⟩ | ⟨a, b, d⟩ | ⟨a, b⟩ | ⟨a, b⟩
  · exact ⟨fun z => absurd (b.symm.trans z.1) (by decide), fun z => absurd (z.symm.trans a) n.1⟩
  · exact ⟨fun z => absurd (b.symm.trans z.1) (by decide), fun z => absurd (z.symm.trans a) n.2.1⟩
  · refine ⟨fun z => ?_, fun z => ⟨d, ?_⟩⟩
    · have := kr_inj ⟨w, a⟩ ⟨u, hu⟩ (e.symm.trans z.2)
      rw [b, show w = u from congrArg Fin.val this]
    · have e2 : 200 + w = 200 + u := (nI_eq (by omega) (by omega)).mp (b.symm.trans z)
      rw [e, show w = u by omega]
  · exact ⟨fun z => absurd (b.symm.trans z.1) (by decide), fun z => absurd (z.symm.trans a) n.2.2.1⟩
  · exact ⟨fun z => absurd (b.symm.trans z.1) (by decide), fun z => absurd (z.symm.trans a) n.2.2.2.1⟩
  · exact ⟨fun z => absurd (b.symm.trans z.1) (by decide), fun z => absurd (z.symm.trans a) n.2.2.2.2.1⟩
  · exact ⟨fun z => absurd (b.symm.trans z.1) (by decide), fun z => absurd z ((bS_not a).2.2.2.2.2.2.2 u hu)⟩
  · exact ⟨fun z => absurd (b.symm.trans z.1) (by decide), fun z => absurd (z.symm.trans a) n.2.2.2.2.2.1⟩
  · exact ⟨fun z => absurd (b.symm.trans z.1) (by decide), fun z => absurd (z.symm.trans a) n.2.2.2.2.2.2⟩
/-- a name, one too long, or none -/
theorem Tkk.name (h : Tkk c v s num key len) : (c = 2 ∧ s = 1 ∧ len ≤ 8 ∧ NmR v key) ∨ (c = 5 ∧ s = 1 ∧ 8 < len) ∨ (c ≠ 2 ∧ c ≠ 5 ∧ s ≠ 1) := by
  rcases h with h | h | ⟨w, a, b, d, e⟩ | ⟨y, -, a, b, -⟩ | ⟨a, b, -⟩ | ⟨a, b⟩ | ⟨a, b, d⟩ | ⟨a, b⟩ | ⟨a, b⟩
  · exact Or.inl h
  · exact Or.inr (Or.inl h)
  · exact Or.inr (Or.inr ⟨by rw [b]; exact (w_not a).1, by rw [b]; exact (w_not a).2.1, by rw [d]; decide⟩)
  · exact Or.inr (Or.inr ⟨by rw [a]; decide, by rw [a]; decide, by rw [b]; decide⟩)
  · exact Or.inr (Or.inr ⟨by rw [a]; decide, by rw [a]; decide, by rw [b]; decide⟩)
  · exact Or.inr (Or.inr ⟨by rw [a]; decide, by rw [a]; decide, by rw [b]; decide⟩)
  · exact Or.inr (Or.inr ⟨(bS_not a).1, (bS_not a).2.1, by rw [b]; decide⟩)
  · exact Or.inr (Or.inr ⟨by rw [a]; decide, by rw [a]; decide, by rw [b]; decide⟩)
  · exact Or.inr (Or.inr ⟨by rw [a]; decide, by rw [a]; decide, by rw [b]; decide⟩)
theorem Tkk.number (h : Tkk c v s num key len) : (∃ x, x < 1000000000 ∧ c = 3 ∧ s = 2 ∧ len ≤ 9 ∧ v = Int64.ofNat x ∧ num = nI x) ∨ (c = 6 ∧ s = 2 ∧ 9 < len) ∨ (c ≠ 3 ∧ c ≠ 6 ∧ s ≠ 2) := by
  rcases h with ⟨a, b, -⟩ | ⟨a, b, -⟩ | ⟨w, a, b, d, e⟩ | h | h | ⟨a, b⟩ | ⟨a, b, d⟩ | ⟨a, b⟩ | ⟨a, b⟩
  · exact Or.inr (Or.inr ⟨by rw [a]; decide, by rw [a]; decide, by rw [b]; decide⟩)
  · exact Or.inr (Or.inr ⟨by rw [a]; decide, by rw [a]; decide, by rw [b]; decide⟩)
  · exact Or.inr (Or.inr ⟨by rw [b]; exact (w_not a).2.2.1, by rw [b]; exact (w_not a).2.2.2.1, by rw [d]; decide⟩)
  · exact Or.inl h
  · exact Or.inr (Or.inl h)
  · exact Or.inr (Or.inr ⟨by rw [a]; decide, by rw [a]; decide, by rw [b]; decide⟩)
  · exact Or.inr (Or.inr ⟨(bS_not a).2.2.1, (bS_not a).2.2.2.1, by rw [b]; decide⟩)
  · exact Or.inr (Or.inr ⟨by rw [a]; decide, by rw [a]; decide, by rw [b]; decide⟩)
  · exact Or.inr (Or.inr ⟨by rw [a]; decide, by rw [a]; decide, by rw [b]; decide⟩)
theorem Tkk.same (h : Tkk c v s num key len) : s = 5 ↔ c = 4 := by
  rcases h with ⟨a, b, -⟩ | ⟨a, b, -⟩ | ⟨w, a, b, d, e⟩ | ⟨y, -, a, b, -⟩ | ⟨a, b, -⟩ | ⟨a, b⟩ | ⟨a, b, d⟩ | ⟨a, b⟩ | ⟨a, b⟩
  · rw [a, b]; decide
  · rw [a, b]; decide
  · rw [b, d]; exact ⟨fun z => absurd z (by decide), fun z => absurd z (w_not a).2.2.2.2.1⟩
  · rw [a, b]; decide
  · rw [a, b]; decide
  · rw [a, b]; decide
  · rw [b]; exact ⟨fun z => absurd z (by decide), fun z => absurd z (bS_not a).2.2.2.2.1⟩
  · rw [a, b]; decide
  · rw [a, b]; decide
theorem Tkk.ends (h : Tkk c v s num key len) : s = 6 ↔ c = 0 := by
  rcases h with ⟨a, b, -⟩ | ⟨a, b, -⟩ | ⟨w, a, b, d, e⟩ | ⟨y, -, a, b, -⟩ | ⟨a, b, -⟩ | ⟨a, b⟩ | ⟨a, b, d⟩ | ⟨a, b⟩ | ⟨a, b⟩
  · rw [a, b]; decide
  · rw [a, b]; decide
  · rw [b, d]; exact ⟨fun z => absurd z (by decide), fun z => absurd z (w_not a).2.2.2.2.2.2⟩
  · rw [a, b]; decide
  · rw [a, b]; decide
  · rw [a, b]; decide
  · rw [b]; exact ⟨fun z => absurd z (by decide), fun z => absurd z (bS_not a).2.2.2.2.2.2.1⟩
  · rw [a, b]; decide
  · rw [a, b]; decide
end TKK
/-- the token where both stand: its place f, its end t -/
theorem Ps.tok {κ : Km} {σ : Rm} {N b P : Nat} (h : Ps κ σ N b P) : ∃ f t : Nat, kI κ 72 8 = nI f ∧ aI σ 6 (pC κ) = nI f ∧ aI σ 7 (pC κ) = nI t ∧ pC κ ≤ f ∧ f ≤ t ∧ t ≤ 3000 ∧ Tkk (kI κ 72 7) (kL κ 76 (pC κ)) (aI σ 5 (pC κ)) (aI σ 8 (pC κ)) (aL σ 9 (pC κ)) (t - f) ∧ f = plT κ (pC κ) := by
  obtain ⟨hA, hB⟩ := h
  obtain ⟨b1, b2, b3, b4, b5, -⟩ := hB
  have hk : TkR κ σ (pC κ) := by
    by_cases c : pC κ < N
    · exact (hA.1.1 _ c).1
    · rw [show pC κ = N by omega]; exact hA.1.2.1
  obtain ⟨f, t, h1, h2, h3, h4, h5, h6, h7, h8⟩ := hk
  refine ⟨f, t, by rw [b3]; exact h1, h2, h3, h4, h5, h6, by rw [b2]; exact h8, ?_⟩
  unfold plT
  rw [h1, cl_nI (by omega)]
theorem Ps.lt {κ : Km} {σ : Rm} {N b P : Nat} (h : Ps κ σ N b P) (h0 : kI κ 72 7 ≠ 0) (h1 : kI κ 72 7 ≠ 1) : pC κ < N := by
  obtain ⟨hA, hB⟩ := h
  obtain ⟨b1, b2, b3, b4, b5, -⟩ := hB
  by_cases c : pC κ < N
  · exact c
  · have e : pC κ = N := by omega
    rw [b2, e] at h0 h1
    rcases hA.1.2.2.1 with z | z
    · exact absurd z h0
    · exact absurd z h1
theorem Ps.p3 {κ : Km} {σ : Rm} {N b P : Nat} (h : Ps κ σ N b P) : pC κ ≤ 3000 ∧ N ≤ 3000 := by
  have h1 := h.1.1.2.2.2.1
  have h2 := h.2.2.2.2.2.1
  omega
theorem Ps.TW {κ : Km} {σ : Rm} {N b P : Nat} (h : Ps κ σ N b P) : ∃ m, N < m ∧ m ≤ 3001 ∧ TW κ m := h.1.1.2.2.2.2.2
theorem kc_nextP {X : Cx} {κ : Km} {σ : Rm} {N b P : Nat} {F : Km → Prop} (h : Ps κ σ N b P) (hp : pC κ < N) (q : F (setC κ (pC κ + 1))) : KC' X 0 MX9_next [vR 72] κ (kRV F) := by
  obtain ⟨m, m1, m2, m3⟩ := h.TW
  exact kc_next m3 h.2.1 (by omega) q
theorem kc_refuse {X : Cx} {κ : Km} {F : Int32 → Km → Prop} {x : Int32} (q : F 0 (cI κ 77 5 x)) : KC' X 0 MX5_refuse [vR 77, vI x] κ (kRI F) :=
  KC_of_K rfl (Nat.le_of_ble_eq_true rfl) rfl (k_5_refuse_0 _ (by rintro κ1 rfl; exact ⟨_, rfl, q⟩))
theorem ac_failT {X : Cx} {b : Nat} {σ : Rm} {Q : Res → Rm → Prop} {F : Rm → Prop} {x : Int32} (q : Q (.inr (b + 1)) (wI σ 0 6 x)) : AC X b 0 MX13_fail [vR b, vI x] σ (aTV Q F) :=
  AC_of_A rfl (Nat.le_of_ble_eq_true rfl) rfl (a_fail_0 _ (by rintro s1 rfl; exact Or.inr ⟨_, rfl, q⟩))
section NEXT
variable {X : Cx} {κ : Km} {σ : Rm} {N b P : Nat}
theorem kc_take {F : Int32 → Km → Prop} {c : Int32} (h : Ps κ σ N b P) (h0 : c ≠ 0) (h1 : c ≠ 1) (q1 : kI κ 72 7 = c → F 1 (setC κ (pC κ + 1))) (q0 : kI κ 72 7 ≠ c → F 0 (cI κ 77 5 (kI κ 72 8))) : KC' X 1 MX5_take [vR 77, vI c] κ (kRI F) := by
  refine KC_of_K rfl (Nat.le_of_ble_eq_true rfl) rfl (k_5_take_0 _ ⟨fun e => ⟨0, by decide, kc_nextP h (h.lt (by rw [e]; exact h0) (by rw [e]; exact h1)) ⟨_, rfl, q1 e⟩⟩, fun e => ⟨0, by decide, kc_refuse ⟨Or.inl rfl, _, rfl, q0 e⟩⟩⟩)
theorem kc_takeOpening {F : Int32 → Km → Prop} {c : Int32} (h : Ps κ σ N b P) (h0 : c ≠ 0) (h1 : c ≠ 1) (q1 : kI κ 72 7 = c → oC κ < 24 → F 1 (setC (cI κ 77 4 (nI (oC κ + 1))) (pC κ + 1))) (q0 : ¬ (kI κ 72 7 = c ∧ oC κ < 24) → F 0 (cI κ 77 5 (kI κ 72 8))) : KC' X 1 MX5_takeOpening [vR 77, vI c] κ (kRI F) := by
  have ho := h.2.2.2.2.2.2.1
  have ho2 : oC κ ≤ 24 := h.2.2.2.2.2.2.2.2.1
  have bad : ¬ (kI κ 72 7 = c ∧ oC κ < 24) → K X 1 MX5_takeOpening 20 [(0, vR 77), (1, vI c)] [] κ (kRI F) := fun hc => k_5_takeOpening_20 _ ⟨0, by decide, kc_refuse ⟨Or.inl rfl, _, rfl, q0 hc⟩⟩
  refine KC_of_K rfl (Nat.le_of_ble_eq_true rfl) rfl (k_5_takeOpening_0 _ ⟨fun e => ?_, fun e => bad (fun z => e z.1)⟩)
  rw [ho, litI 24, lt_nI (by omega) (by omega), nI_1]
  refine ⟨fun c1 => ?_, fun c1 => bad (fun z => c1 z.2)⟩
  rintro κ3 rfl
  have hq := (h.opn (o := oC κ + 1) (by omega))
  have ep : pC (cI κ 77 4 (nI (oC κ + 1))) = pC κ := hq.2.2.1
  refine ⟨0, by decide, kc_nextP hq.1 (by rw [ep]; exact h.lt (by rw [e]; exact h0) (by rw [e]; exact h1)) ⟨_, rfl, ?_⟩⟩
  rw [ep]; exact q1 e c1
theorem kc_takeClosing {F : Int32 → Km → Prop} {c : Int32} (h : Ps κ σ N b P) (ho1 : 1 ≤ oC κ) (h0 : c ≠ 0) (h1 : c ≠ 1) (q1 : kI κ 72 7 = c → F 1 (setC (cI κ 77 4 (nI (oC κ - 1))) (pC κ + 1))) (q0 : kI κ 72 7 ≠ c → F 0 (cI κ 77 5 (kI κ 72 8))) : KC' X 1 MX5_takeClosing [vR 77, vI c] κ (kRI F) := by
  have ho := h.2.2.2.2.2.2.1
  have ho2 : oC κ ≤ 24 := h.2.2.2.2.2.2.2.2.1
  refine KC_of_K rfl (Nat.le_of_ble_eq_true rfl) rfl (k_5_takeClosing_0 _ ⟨fun e => ?_, fun e => ⟨0, by decide, kc_refuse ⟨Or.inl rfl, _, rfl, q0 e⟩⟩⟩)
  rw [ho, litI 1, nI_sb (by omega)]
  rintro κ3 rfl
  have hq := (h.opn (o := oC κ - 1) (by omega))
  have ep : pC (cI κ 77 4 (nI (oC κ - 1))) = pC κ := hq.2.2.1
  refine ⟨0, by decide, kc_nextP hq.1 (by rw [ep]; exact h.lt (by rw [e]; exact h0) (by rw [e]; exact h1)) ⟨_, rfl, ?_⟩⟩
  rw [ep]; exact q1 e
theorem kc_isName {F : Int32 → Km → Prop} (q1 : kI κ 72 7 = 2 → F 1 κ) (q5 : kI κ 72 7 = 5 → F 0 (cI κ 77 5 (kI κ 72 8 + 8))) (q0 : kI κ 72 7 ≠ 2 → kI κ 72 7 ≠ 5 → F 0 (cI κ 77 5 (kI κ 72 8))) : KC' X 1 MX5_isName [vR 77] κ (kRI F) :=
  KC_of_K rfl (Nat.le_of_ble_eq_true rfl) rfl (k_5_isName_0 ⟨fun e => ⟨0, by decide, kc_refuse ⟨Or.inl rfl, _, rfl, q5 e⟩⟩, fun e5 => ⟨fun e => k_5_isName_51 (k_5_isName_56 _ ⟨Or.inr rfl, _, rfl, q1 e⟩), fun e => ⟨0, by decide, kc_refuse ⟨fun _ => k_5_isName_56 _ ⟨Or.inl rfl, _, rfl, q0 e e5⟩, fun z => absurd rfl z⟩⟩⟩⟩)
theorem kc_isNumber {F : Int32 → Km → Prop} (q1 : kI κ 72 7 = 3 → F 1 κ) (q5 : kI κ 72 7 = 6 → F 0 (cI κ 77 5 (kI κ 72 8 + 9))) (q0 : kI κ 72 7 ≠ 3 → kI κ 72 7 ≠ 6 → F 0 (cI κ 77 5 (kI κ 72 8))) : KC' X 1 MX5_isNumber [vR 77] κ (kRI F) :=
  KC_of_K rfl (Nat.le_of_ble_eq_true rfl) rfl (k_5_isNumber_0 ⟨fun e => ⟨0, by decide, kc_refuse ⟨Or.inl rfl, _, rfl, q5 e⟩⟩, fun e5 => ⟨fun e => k_5_isNumber_52 (k_5_isNumber_57 _ ⟨Or.inr rfl, _, rfl, q1 e⟩), fun e => ⟨0, by decide, kc_refuse ⟨fun _ => k_5_isNumber_57 _ ⟨Or.inl rfl, _, rfl, q0 e e5⟩, fun z => absurd rfl z⟩⟩⟩⟩)
theorem kc_index {F : Int32 → Km → Prop} (h : Ps κ σ N b P) (q : F (nI (pC κ)) κ) : KC' X 0 MX9_index [vR 72] κ (kRI F) := KC_of_K rfl (Nat.le_of_ble_eq_true rfl) rfl (k_9_index_0 ⟨_, rfl, by rw [h.2.1]; exact q⟩)
theorem kc_valueOf {F : Int64 → Km → Prop} {m t : Nat} (h : TW κ m) (hm : m ≤ 3001) (ht : t < m) (q : F (kL κ 76 t) κ) : KC' X 0 MX9_valueOf [vR 72, vI (nI t)] κ (kRJ F) := by
  obtain ⟨w, h1, h2, h3, h4, h5, h6, h7⟩ := h
  refine KC_of_K rfl (Nat.le_of_ble_eq_true rfl) rfl (k_9_valueOf_0 _ ⟨fun z => absurd z (nI_pos (by omega)), fun _ => ?_⟩)
  rw [h1, lt_nI (by omega) (by omega), h7, vpn (by omega), cl_nI (by omega)]
  exact ⟨fun _ => ⟨by omega, k_9_valueOf_22 _ _ ⟨_, rfl, q⟩⟩, fun z => absurd ht z⟩
theorem kc_placeOf {F : Int32 → Km → Prop} {m t : Nat} (h : TW κ m) (hm : m ≤ 3001) (ht : t < m) (q : F (kI κ 75 t) κ) : KC' X 0 MX9_placeOf [vR 72, vI (nI t)] κ (kRI F) := by
  obtain ⟨w, h1, h2, h3, h4, h5, h6, h7⟩ := h
  refine KC_of_K rfl (Nat.le_of_ble_eq_true rfl) rfl (k_9_placeOf_0 _ ⟨fun z => absurd z (nI_pos (by omega)), fun _ => ?_⟩)
  rw [h1, lt_nI (by omega) (by omega), h6, vpn (by omega), cl_nI (by omega)]
  exact ⟨fun _ => ⟨by omega, k_9_placeOf_22 _ _ ⟨_, rfl, q⟩⟩, fun z => absurd ht z⟩
theorem kc_kindBehind {F : Int32 → Km → Prop} (h : Ps κ σ N b P) (hp : pC κ < N) (q : F (kI κ 74 (pC κ + 1)) κ) : KC' X 0 MX9_kindBehind [vR 72] κ (kRI F) := by
  obtain ⟨m, m1, m2, w, h1, h2, h3, h4, h5, h6, h7⟩ := h.TW
  refine KC_of_K rfl (Nat.le_of_ble_eq_true rfl) rfl (k_9_kindBehind_0 ?_)
  rw [h.2.1, h1, nI_1]
  refine ⟨fun z => absurd z (nI_pos (by omega)), fun _ => ?_⟩
  rw [lt_nI (by omega) (by omega), h5, vpn (by omega), cl_nI (by omega)]
  exact ⟨fun _ => ⟨by omega, k_9_kindBehind_35 _ ⟨_, rfl, q⟩⟩, fun z => absurd (by omega) z⟩
/-- the number where the class stands -/
theorem kc_numberHere {F : Int32 → Km → Prop} {x : Nat} (h : Ps κ σ N b P) (hx : x < 1000000000) (hv : kL κ 76 (pC κ) = Int64.ofNat x) (q : F (nI x) κ) : KC' X 1 MX5_numberHere [vR 77] κ (kRI F) := by
  obtain ⟨m, m1, m2, m3⟩ := h.TW
  have hp := h.2.2.2.2.2.1
  refine KC_of_K rfl (Nat.le_of_ble_eq_true rfl) rfl (k_5_numberHere_0 ⟨0, by decide, kc_index h ⟨0, by decide, kc_valueOf m3 m2 (by omega) ⟨_, rfl, ?_⟩⟩⟩)
  have e : (kL κ 76 (pC κ)).toInt32 = nI x := by rw [hv]; exact Int64.toInt32_ofNat' 
  rw [e]; exact q
/-! the reference -/
theorem ac_isSign {F : Int32 → Rm → Prop} {x : Int32} (h : Ps κ σ N b P) (hx : bS x) (q1 : kI κ 72 7 = x → F 1 σ) (q0 : kI κ 72 7 ≠ x → F 0 σ) : AC X 92 0 MX13_isSign [vR 92, vI x] σ (aRI F) := by
  obtain ⟨f, t, t1, t2, t3, t4, t5, t6, t7, t8⟩ := h.tok
  have hp := h.p3
  refine AC_of_A rfl (Nat.le_of_ble_eq_true rfl) rfl (a_isSign_0 _ ?_)
  rw [h.2.2.2.2.1, vpn (by omega), cl_nI (by omega)]
  refine ⟨by omega, fun c => ⟨by omega, fun c2 => a_isSign_31 _ _ ⟨Or.inr rfl, _, rfl, q1 ((t7.sign hx).mp ⟨c, c2⟩)⟩, fun c2 => a_isSign_30 _ (a_isSign_31 _ _ ⟨Or.inl rfl, _, rfl, q0 (fun z => c2 ((t7.sign hx).mpr z).2)⟩)⟩, fun c => a_isSign_30 _ (a_isSign_31 _ _ ⟨Or.inl rfl, _, rfl, q0 (fun z => c ((t7.sign hx).mpr z).1)⟩)⟩
theorem ac_isWord {F : Int32 → Rm → Prop} {w : Nat} (h : Ps κ σ N b P) (hw : w < 23) (q1 : kI κ 72 7 = nI (200 + w) → F 1 σ) (q0 : kI κ 72 7 ≠ nI (200 + w) → F 0 σ) : AC X 92 5 MX13_isWord [vR 92, vR (4 + w)] σ (aRI F) := by
  obtain ⟨f, t, t1, t2, t3, t4, t5, t6, t7, t8⟩ := h.tok
  have hp := h.p3
  refine AC_of_A rfl (Nat.le_of_ble_eq_true rfl) rfl (a_isWord_0 _ ?_)
  rw [h.2.2.2.2.1, vpn (by omega), cl_nI (by omega)]
  refine ⟨by omega, fun c => ⟨by omega, 4, by decide, ac_keyOf hw ?_⟩, fun c => a_isWord_35 _ (a_isWord_36 _ _ ⟨Or.inl rfl, _, rfl, q0 (fun z => c ((t7.word hw).mpr z).1)⟩)⟩
  rw [lg0]
  exact ⟨fun c2 => a_isWord_36 _ _ ⟨Or.inr rfl, _, rfl, q1 ((t7.word hw).mp ⟨c, c2⟩)⟩, fun c2 => a_isWord_35 _ (a_isWord_36 _ _ ⟨Or.inl rfl, _, rfl, q0 (fun z => c2 ((t7.word hw).mpr z).2)⟩)⟩
theorem ac_mustSign {Q : Res → Rm → Prop} {F : Rm → Prop} {x : Int32} (h : Ps κ σ N b P) (hx : bS x) (q1 : kI κ 72 7 = x → F (wS σ 10 (nI (pC κ + 1)))) (q0 : kI κ 72 7 ≠ x → Q (.inr 93) (wI σ 0 6 (kI κ 72 8))) : AC X 92 1 MX13_mustSign [vR 92, vI x] σ (aTV Q F) := by
  obtain ⟨f, t, t1, t2, t3, t4, t5, t6, t7, t8⟩ := h.tok
  have hp := h.p3
  refine AC_of_A rfl (Nat.le_of_ble_eq_true rfl) rfl (a_mustSign_0 _ ⟨0, by decide, ac_isSign h hx (fun c => ⟨fun z => absurd z (by decide), fun _ => a_mustSign_21 _ ?_⟩) (fun c => ⟨fun _ => ?_, fun z => absurd rfl z⟩)⟩)
  · rintro s1 rfl
    rw [h.2.2.2.2.1, nI_1]
    exact Or.inl ⟨rfl, q1 c⟩
  · rw [h.2.2.2.2.1, vpn (by omega), cl_nI (by omega), t2, ← t1]
    exact ⟨by omega, 0, by decide, ac_failT (Or.inr ⟨_, rfl, q0 c⟩)⟩
theorem ac_mustWord {Q : Res → Rm → Prop} {F : Rm → Prop} {w : Nat} (h : Ps κ σ N b P) (hw : w < 23) (q1 : kI κ 72 7 = nI (200 + w) → F (wS σ 10 (nI (pC κ + 1)))) (q0 : kI κ 72 7 ≠ nI (200 + w) → Q (.inr 93) (wI σ 0 6 (kI κ 72 8))) : AC X 92 6 MX13_mustWord [vR 92, vR (4 + w)] σ (aTV Q F) := by
  obtain ⟨f, t, t1, t2, t3, t4, t5, t6, t7, t8⟩ := h.tok
  have hp := h.p3
  refine AC_of_A rfl (Nat.le_of_ble_eq_true rfl) rfl (a_mustWord_0 _ ⟨5, by decide, ac_isWord h hw (fun c => ⟨fun z => absurd z (by decide), fun _ => a_mustWord_21 _ ?_⟩) (fun c => ⟨fun _ => ?_, fun z => absurd rfl z⟩)⟩)
  · rintro s1 rfl
    rw [h.2.2.2.2.1, nI_1]
    exact Or.inl ⟨rfl, q1 c⟩
  · rw [h.2.2.2.2.1, vpn (by omega), cl_nI (by omega), t2, ← t1]
    exact ⟨by omega, 0, by decide, ac_failT (Or.inr ⟨_, rfl, q0 c⟩)⟩
theorem ac_mustName {Q : Res → Rm → Prop} {F : Int32 → Rm → Prop} (h : Ps κ σ N b P) (q1 : kI κ 72 7 = 2 → F (nI (pC κ)) (wS σ 10 (nI (pC κ + 1)))) (q5 : kI κ 72 7 = 5 → Q (.inr 93) (wI σ 0 6 (kI κ 72 8 + 8))) (q0 : kI κ 72 7 ≠ 2 → kI κ 72 7 ≠ 5 → Q (.inr 93) (wI σ 0 6 (kI κ 72 8))) : AC X 92 1 MX13_mustName [vR 92] σ (aTI Q F) := by
  obtain ⟨f, t, t1, t2, t3, t4, t5, t6, t7, t8⟩ := h.tok
  have hp := h.p3
  refine AC_of_A rfl (Nat.le_of_ble_eq_true rfl) rfl (a_mustName_0 ?_)
  rw [h.2.2.2.2.1, vpn (by omega), cl_nI (by omega)]
  have nx : kI κ 72 7 = 2 → A X 92 1 MX13_mustName 66 [(0, vR 92)] [] σ (aTI Q F) := fun c => a_mustName_66 (by
    rintro s1 rfl
    rw [sI_eq, h.2.2.2.2.1, nI_1, litI 1, nI_sb (by omega)]
    exact Or.inl ⟨_, rfl, q1 c⟩)
  rcases t7.name with ⟨c, c1, c2, -⟩ | ⟨c, c1, c2⟩ | ⟨c, c1, c2⟩
  · refine ⟨by omega, fun _ => a_mustName_26 ?_, fun z => absurd c1 z⟩
    rw [h.2.2.2.2.1, vpn (by omega), cl_nI (by omega), t3, t2, nI_sb (by omega), litI 8, le_nI (by omega) (by omega)]
    exact ⟨by omega, by omega, fun _ => nx c, fun z => absurd c2 z⟩
  · refine ⟨by omega, fun _ => a_mustName_26 ?_, fun z => absurd c1 z⟩
    rw [h.2.2.2.2.1, vpn (by omega), cl_nI (by omega), t3, t2, nI_sb (by omega), litI 8, le_nI (by omega) (by omega), ← litI 8, ← t1]
    exact ⟨by omega, by omega, fun z => absurd z (by omega), fun _ => ⟨by omega, 0, by decide, ac_failT (Or.inr ⟨_, rfl, q5 c⟩)⟩⟩
  · rw [t2, ← t1]
    exact ⟨by omega, fun z => absurd z c2, fun _ => ⟨by omega, 0, by decide, ac_failT (Or.inr ⟨_, rfl, q0 c c1⟩)⟩⟩
theorem ac_mustNumber {Q : Res → Rm → Prop} {F : Int32 → Rm → Prop} (h : Ps κ σ N b P) (q1 : ∀ x, x < 1000000000 → kI κ 72 7 = 3 → kL κ 76 (pC κ) = Int64.ofNat x → F (nI x) (wS σ 10 (nI (pC κ + 1)))) (q5 : kI κ 72 7 = 6 → Q (.inr 93) (wI σ 0 6 (kI κ 72 8 + 9))) (q0 : kI κ 72 7 ≠ 3 → kI κ 72 7 ≠ 6 → Q (.inr 93) (wI σ 0 6 (kI κ 72 8))) : AC X 92 1 MX13_mustNumber [vR 92] σ (aTI Q F) := by
  obtain ⟨f, t, t1, t2, t3, t4, t5, t6, t7, t8⟩ := h.tok
  have hp := h.p3
  refine AC_of_A rfl (Nat.le_of_ble_eq_true rfl) rfl (a_mustNumber_0 ?_)
  rw [h.2.2.2.2.1, vpn (by omega), cl_nI (by omega)]
  rcases t7.number with ⟨x, hx, c, c1, c2, c3, c4⟩ | ⟨c, c1, c2⟩ | ⟨c, c1, c2⟩
  · refine ⟨by omega, fun _ => a_mustNumber_26 ?_, fun z => absurd c1 z⟩
    rw [h.2.2.2.2.1, vpn (by omega), cl_nI (by omega), t3, t2, nI_sb (by omega), litI 9, le_nI (by omega) (by omega)]
    refine ⟨by omega, by omega, fun _ => a_mustNumber_66 ?_, fun z => absurd c2 z⟩
    rintro s1 rfl
    rw [sI_eq, h.2.2.2.2.1, nI_1, litI 1, nI_sb (by omega), vpn (by omega), cl_nI (by omega), aI_ne (by decide)]
    refine ⟨by omega, Or.inl ⟨_, rfl, ?_⟩⟩
    rw [show pC κ + 1 - 1 = pC κ by omega, c4]
    exact q1 x hx c c3
  · refine ⟨by omega, fun _ => a_mustNumber_26 ?_, fun z => absurd c1 z⟩
    rw [h.2.2.2.2.1, vpn (by omega), cl_nI (by omega), t3, t2, nI_sb (by omega), litI 9, le_nI (by omega) (by omega), ← litI 9, ← t1]
    exact ⟨by omega, by omega, fun z => absurd z (by omega), fun _ => ⟨by omega, 0, by decide, ac_failT (Or.inr ⟨_, rfl, q5 c⟩)⟩⟩
  · rw [t2, ← t1]
    exact ⟨by omega, fun z => absurd z c2, fun _ => ⟨by omega, 0, by decide, ac_failT (Or.inr ⟨_, rfl, q0 c c1⟩)⟩⟩
theorem ac_opens {Q : Res → Rm → Prop} {F : Rm → Prop} (h : Ps κ σ N b P) (q1 : oC κ < 24 → F (wS (wS σ 12 (nI (oC κ + 1))) 10 (nI (pC κ + 1)))) (q0 : ¬ oC κ < 24 → Q (.inr 93) (wI σ 0 6 (kI κ 72 8))) : AC X 92 1 MX13_opens [vR 92] σ (aTV Q F) := by
  obtain ⟨f, t, t1, t2, t3, t4, t5, t6, t7, t8⟩ := h.tok
  have hp := h.p3
  have ho := h.2.2.2.2.2.2.2.1
  have ho2 : oC κ ≤ 24 := h.2.2.2.2.2.2.2.2.1
  refine AC_of_A rfl (Nat.le_of_ble_eq_true rfl) rfl (a_opens_0 ?_)
  rw [ho, litI 24, eq_nI (by omega) (by omega), h.2.2.2.2.1, vpn (by omega), cl_nI (by omega), t2, ← t1]
  refine ⟨fun c => ⟨by omega, 0, by decide, ac_failT (Or.inr ⟨_, rfl, q0 (by omega)⟩)⟩, fun c => a_opens_22 ?_⟩
  rintro s1 rfl s2 rfl
  rw [ho, nI_1, sI_ne (by decide), h.2.2.2.2.1, nI_1]
  exact Or.inl ⟨rfl, q1 (by omega)⟩
theorem ac_closes {Q : Res → Rm → Prop} {F : Rm → Prop} {x : Int32} (h : Ps κ σ N b P) (ho1 : 1 ≤ oC κ) (hx : bS x) (q1 : kI κ 72 7 = x → F (wS (wS σ 10 (nI (pC κ + 1))) 12 (nI (oC κ - 1)))) (q0 : kI κ 72 7 ≠ x → Q (.inr 93) (wI σ 0 6 (kI κ 72 8))) : AC X 92 2 MX13_closes [vR 92, vI x] σ (aTV Q F) := by
  have ho := h.2.2.2.2.2.2.2.1
  have ho2 : oC κ ≤ 24 := h.2.2.2.2.2.2.2.2.1
  refine AC_of_A rfl (Nat.le_of_ble_eq_true rfl) rfl (a_closes_0 _ ⟨1, by decide, ac_mustSign h hx (fun c => ?_) (fun c => Or.inr ⟨_, rfl, q0 c⟩)⟩)
  rintro s5 rfl
  rw [sI_ne (by decide), ho, litI 1, nI_sb (by omega)]
  exact Or.inl ⟨rfl, q1 c⟩
end NEXT
