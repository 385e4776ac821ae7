/-! THE MAIN INDUCTION: a voice that runs comes to the desk, alike in both -/
section MAIN
variable {X : Cx} {d e : Nat} {κ0 κ : Km} {σ0 σ : Rm} {b V al S LT HT sp F0 v x : Nat} {st : Nat → Nat} {fr : Nat → List Frm} {pt : Nat → Nat} {ch : List Nat} {w : Nat → Nat} {f : Frm} {r : List Frm}
variable {bd i j nv s md : Nat} {pl : Int32} {vs : Nat → Int32} {L : List Ite} {O : List Int32} {W : Pt → Prop} {n : Nat} {M : List Itm}
theorem map_last {L0 : List Itm} {q : Itm} (h : L.map itm = L0 ++ [q]) : ∃ L1 x, L = L1 ++ [x] ∧ L1.map itm = L0 ∧ itm x = q := by
  rcases List.eq_nil_or_concat L with rfl | ⟨L1, x, e⟩
  · have := congrArg List.length h
    rw [List.length_append] at this
    exact absurd this (show ¬ (0 = L0.length + 1) by omega)
  · rw [List.concat_eq_append] at e
    subst e
    rw [List.map_append] at h
    exact ⟨L1, x, rfl, List.append_inj_left' h rfl, (List.cons.inj (List.append_inj_right' h rfl)).1⟩
theorem itm_each {x : Ite} (h : itm x = (0, 0, 0, 0)) : x.1 = 0 := by
  by_cases c : x.1 = 0
  · exact c
  · have e : itm x = (1, x.2.1, x.2.2.1, min x.2.2.2.1 2) := if_neg c
    rw [e] at h
    have := congrArg Prod.fst h
    exact absurd this (show ¬ ((1 : Nat) = 0) by decide)
theorem itm_guard {x : Ite} {t g ph : Nat} (h : itm x = (1, t, g, ph)) : x.1 ≠ 0 ∧ x.2.1 = t ∧ x.2.2.1 = g ∧ min x.2.2.2.1 2 = ph := by
  by_cases c : x.1 = 0
  · have e : itm x = (0, 0, 0, 0) := if_pos c
    rw [e] at h
    have := congrArg Prod.fst h
    exact absurd this (show ¬ ((0 : Nat) = 1) by decide)
  · have e : itm x = (1, x.2.1, x.2.2.1, min x.2.2.2.1 2) := if_neg c
    rw [e] at h
    have h2 := congrArg Prod.snd h
    have h3 := congrArg Prod.snd h2
    exact ⟨c, congrArg Prod.fst h2, congrArg Prod.fst h3, congrArg Prod.snd h3⟩
theorem len_snoc {y : Int32} : (O ++ [y]).length = O.length + 1 := by rw [List.length_append]; rfl
theorem snoc1 (h : 1 ≤ O.length) : ∃ O' y, O = O' ++ [y] := by
  rcases List.eq_nil_or_concat O with rfl | ⟨O', y, e⟩
  · exact absurd h (show ¬ (1 ≤ 0) by decide)
  · rw [List.concat_eq_append] at e
    exact ⟨O', y, e⟩
theorem snoc2 (h : 2 ≤ O.length) : ∃ O' y z, O = O' ++ [y] ++ [z] := by
  obtain ⟨O1, z, rfl⟩ := snoc1 (O := O) (by omega)
  rw [len_snoc] at h
  obtain ⟨O', y, rfl⟩ := snoc1 (O := O1) (by omega)
  exact ⟨O', y, z, rfl⟩
theorem one1 (h : O.length = 1) : ∃ y, O = [] ++ [y] := by
  obtain ⟨O1, z, rfl⟩ := snoc1 (O := O) (by omega)
  rw [len_snoc] at h
  have : O1 = [] := List.length_eq_zero_iff.mp (by omega)
  exact ⟨z, by rw [this]⟩
/-- an each at its round -/
def ClE (κ : Km) (σ : Rm) (W : Pt → Prop) (b i j : Nat) (L : List Itm) : Prop := aI σ 13 j = 32 ∧ ∃ L0, L = L0 ++ [(0, 0, 0, 0)] ∧ aI σ 15 j = nI (12 + ecn L0) ∧ (∃ v, v < nvB σ b ∧ aI σ 14 j = nI v ∧ kI κ 69 (i + 1) = 3 ∧ kI κ 70 (i + 1) = nI v) ∧ W (b, i + 2, j + 1, L, 0, 0) ∧ ∃ i2 j2, kI κ 70 i = nI i2 ∧ aI σ 16 j = nI j2 ∧ i < i2 ∧ W (b, i2, j2, L0, 0, 0)
theorem cl_each (h : Cl κ σ W bd i j M n s) (e : kI κ 69 i = 30) (hn : n = 0) : ClE κ σ W bd i j M := by
  rcases h with ⟨-, q, -⟩ | ⟨-, q, -⟩ | ⟨-, q, -⟩ | ⟨-, q, -⟩ | ⟨-, q, -⟩ | ⟨-, q, -⟩ | ⟨-, q, -⟩ | ⟨-, -, q, -⟩ | ⟨-, -, ⟨k, k1, q, -⟩, -⟩ | ⟨-, -, q, -⟩ | ⟨-, q, -⟩ | ⟨-, -, q, -⟩ | ⟨-, q, -⟩ | ⟨-, -, q, -⟩ | ⟨-, q, -⟩ | ⟨-, q, -⟩ | ⟨-, z, -⟩ | ⟨-, -, -, q⟩ | ⟨-, -, q, -⟩ | ⟨-, q, -⟩ | ⟨-, q, -⟩ | ⟨-, -, q, -⟩ | ⟨-, -, q, -⟩ | ⟨-, -, -, q, -⟩
  · exact absurd (q.symm.trans e) (by decide)
  · exact absurd (q.symm.trans e) (by decide)
  · exact absurd (q.symm.trans e) (by decide)
  · exact absurd (q.symm.trans e) (by decide)
  · exact absurd (q.symm.trans e) (by decide)
  · exact absurd (q.symm.trans e) (by decide)
  · exact absurd (q.symm.trans e) (by decide)
  · rcases q with ⟨q, -⟩ | ⟨q, -⟩ | ⟨q, -⟩ | ⟨q, -⟩
    · exact absurd (q.symm.trans e) (by decide)
    · exact absurd (q.symm.trans e) (by decide)
    · exact absurd (q.symm.trans e) (by decide)
    · exact absurd (q.symm.trans e) (by decide)
  · have := q.symm.trans e
    rw [litI 30, eq_nI (by omega) (by omega)] at this
    omega
  · rcases q with ⟨q, -⟩ | ⟨q, -⟩ | ⟨q, -⟩
    · exact absurd (q.symm.trans e) (by decide)
    · exact absurd (q.symm.trans e) (by decide)
    · exact absurd (q.symm.trans e) (by decide)
  · exact absurd (q.symm.trans e) (by decide)
  · rcases q with ⟨q, -⟩ | ⟨q, -⟩
    · exact absurd (q.symm.trans e) (by decide)
    · exact absurd (q.symm.trans e) (by decide)
  · exact absurd (q.symm.trans e) (by decide)
  · exact absurd (q.symm.trans e) (by decide)
  · exact absurd (q.symm.trans e) (by decide)
  · exact absurd (q.symm.trans e) (by decide)
  · omega
  · exact q
  · exact absurd (q.symm.trans e) (by decide)
  · exact absurd (q.symm.trans e) (by decide)
  · exact absurd (q.symm.trans e) (by decide)
  · exact absurd (q.symm.trans e) (by decide)
  · exact absurd (q.symm.trans e) (by decide)
  · exact absurd (q.symm.trans e) (by decide)
theorem lc_round (h : Rn κ0 σ0 κ σ b V al S LT HT sp F0 st fr pt ch w v (bd, i, j, pl, nv, vs, L, [], s, md) r) (all : AllOK X d (e + 1) κ0 σ0 b (pot V S st fr)) (allx : AllX X d (e + 1) κ0 σ0 b (pot V S st fr)) (hx : x + pot V S st fr ≤ 199000000) (hd : 11 ≤ d) (he : 65 ≤ e) (hs : s = 1) (hj : j + 1 < 12000) (e69 : kI κ0 69 i = 30) (cl : ClE κ0 σ0 (Good2 κ0 σ0 (fun _ => False)) bd i j (L.map itm)) : RunOK X d (e + 1) κ0 σ0 κ σ b x (HT + 2 * pot V S st fr) := by
  obtain ⟨e13, L0, eL, e15, ⟨u, u1, u2, u3, u4⟩, g1, i2, j2, e70, e16, hi2, g2⟩ := cl
  obtain ⟨L1, q, rfl, e1, e2⟩ := map_last eL
  obtain ⟨q0, q1, q2, q3, a⟩ := q
  have q00 : q0 = 0 := itm_each e2
  subst q00
  subst e1
  obtain ⟨fr', h', hp⟩ := h.nrm
  rw [← hp] at all allx hx ⊢
  have eM : (L1 ++ [((0, 0, 0, 0, a) : Ite)]).map itm = (L1 ++ [((0, q1, q2, q3, a) : Ite)]).map itm := by
    rw [List.map_append, List.map_append]
    rfl
  rw [← eM] at g1
  exact lc_each h' all allx hx hd he hs e69 e13 e15 hj u1 u2 u3 u4 g1 e70 e16 hi2 g2
theorem rn_cases (h : Rn κ0 σ0 κ σ b V al S LT HT sp F0 st fr pt ch w v f r) (all : AllOK X d (e + 2) κ0 σ0 b (pot V S st fr)) (allx : AllX X d (e + 2) κ0 σ0 b (pot V S st fr)) (hx : x + pot V S st fr ≤ 199000000) (hd : 11 ≤ d) (he : 70 ≤ e) : RunOK X d (e + 2) κ0 σ0 κ σ b x (HT + 2 * pot V S st fr) := by
  obtain ⟨bd, i, j, pl, nv, vs, L, O, s, md⟩ := f
  obtain ⟨d1, ⟨o1, o2, o3, o4, fm⟩, d3⟩ := h.2.2.2.1
  have d1 : md = 0 := d1
  subst d1
  have g : Good2 κ0 σ0 (fun _ => False) (bd, i, j, L.map itm, O.length, s) := by
    rcases fm with ⟨-, g⟩ | ⟨z, -⟩ | ⟨z, -⟩ | ⟨z, -⟩
    · exact g
    · exact absurd z (show ¬ ((0 : Nat) = 1) by decide)
    · exact absurd z (show ¬ ((0 : Nat) = 2) by decide)
    · exact absurd z (show ¬ ((0 : Nat) = 3) by decide)
  obtain ⟨l1, l2, l3, l4, l5, l6, hl, cl⟩ := g.loc
  have l4 : j + 1 < 12000 := l4
  have hl : HL κ0 σ0 (Good2 κ0 σ0 (fun _ => False)) bd (L.map itm) := hl
  have cl : Cl κ0 σ0 (Good2 κ0 σ0 (fun _ => False)) bd i j (L.map itm) O.length s := cl
  have hS : S ≤ 6000 := h.1.1.2.1.2.2.2.2.2.2.2.2.2.2.2.1
  have hr := h.num.2.2.2.2.2.2.1
  have e18 : sI σ0 18 = nI b ∧ b ≤ 12 := ⟨h.f88.2.2.2.1.2.1, h.f88.2.2.2.1.2.2.2.1⟩
  have hcb : ∀ c k a, BdK σ0 c k a → c < b := fun c k a bk => by
    have h1 := bk.1
    have h2 := bk.2.1
    rw [e18.1, lt_nI (by omega) (by omega)] at h2
    exact h2
  rcases cl with ⟨hs, e69, e13, e14, g1⟩ | ⟨hs, e69, e70, f69, e13, e15, ⟨c, c1, c2, bk⟩, g1⟩ | ⟨hs, e69, e13, e15, hn, ⟨c, c1, c2, bk⟩, g1⟩ | ⟨hs, e69, e13, ⟨u, u1, u2, u3⟩, g1⟩ | ⟨hs, e69, e13, hn, ⟨u, u1, u2, u3⟩, g1⟩ | ⟨hs, e69, e13, hn, g1⟩ | ⟨hs, e69, e13, g1⟩ | ⟨hs, hn, q, g1⟩ | ⟨hs, hn, ⟨k, hk, e69, e13⟩, g1⟩ | ⟨hs, hn, q, g1⟩ | ⟨hs, e69, e13, c, a, c1, c2, bk, e15, ha, g1⟩ | ⟨hs, hn, q, g1⟩ | ⟨hn, e69, e13, i2, j2, e70, e14, hi2, g1⟩ | ⟨hs, hn, e69, e13, g1, i2, j2, e70, e14, hi2, g2⟩ | ⟨hn, e69, e13, e14, g1⟩ | ⟨hn, e69, e13, e14, f69, hi1, f13, i2, j2, f70, f14, g1⟩ | ⟨hs, hn, e69, e13, e14, g1⟩ | ⟨hs, hn, e69, cE⟩ | ⟨hs, hn, e69, e13, t, h0, e14, e70, hi, ht, g1⟩ | ⟨hn, e69, e13, L0, t, h0, ph, ie, eL, hph, e14, e70, hie, q⟩ | ⟨hn, e69, e13, L0, t, h0, jb, eL, e14, e28, g1⟩ | ⟨hs, hn, e69, e13⟩ | ⟨hs, hn, e69, e13, ⟨k, hk, e70, e14⟩, e15⟩ | ⟨hs, hn, eL, e69, e70, f69, hi1, e13, e14, f13⟩
  · exact lc_const (e := e + 1) h all hx (by omega) (by omega) hs e69 e13 e14 g1
  · exact lc_new0 (e := e + 1) h all allx hx (by omega) (by omega) hs e69 e70 f69 c1 e13 c2 e15 bk l4 g1
  · obtain ⟨O', y, rfl⟩ := snoc1 hn
    rw [len_snoc] at g1
    exact lc_new1 (e := e + 1) h all allx hx (by omega) (by omega) hs e69 c1 e13 c2 e15 bk l4 g1
  · exact lc_load (e := e + 1) h all hx (by omega) (by omega) hs e69 e13 u1 u2 u3 g1
  · obtain ⟨y, rfl⟩ := one1 hn
    exact lc_store (e := e + 1) h all hx (by omega) (by omega) e69 e13 u1 u2 u3 g1
  · obtain ⟨y, rfl⟩ := one1 hn
    exact lc_pop (e := e + 1) h all hx (by omega) (by omega) e69 e13 g1
  · exact lc_me (e := e + 1) h all hx (by omega) (by omega) hs e69 e13 g1
  · obtain ⟨O', y, rfl⟩ := snoc1 hn
    rw [len_snoc] at g1
    rcases q with ⟨e69, e13⟩ | ⟨e69, e13⟩ | ⟨e69, e13⟩ | ⟨e69, e13⟩
    · exact lc_neg (e := e + 1) h all hx (by omega) (by omega) hs e69 e13 g1
    · exact lc_not (e := e + 1) h all hx (by omega) (by omega) hs e69 e13 g1
    · exact lc_state (e := e + 1) h all hx (by omega) (by omega) hs e69 e13 g1
    · exact lc_yield (e := e + 1) h all allx hx (by omega) (by omega) hs e69 e13 g1
  · obtain ⟨O', y, z, rfl⟩ := snoc2 hn
    rw [len_snoc, len_snoc, Nat.add_sub_cancel] at g1
    by_cases c : (k = 3 ∨ k = 4) ∧ z = 0
    · obtain ⟨c1, rfl⟩ := c
      exact lc_nought (e := e + 1) h allx hx (by omega) (by omega) hs c1 e69 e13 l4
    · exact lc_duo (e := e + 1) h all hx (by omega) (by omega) hs hk e69 e13 c g1
  · obtain ⟨O', y, z, rfl⟩ := snoc2 hn
    rw [len_snoc, len_snoc, Nat.add_sub_cancel] at g1
    rcases q with ⟨e69, e13⟩ | ⟨e69, e13⟩ | ⟨e69, e13, k, k1, k2, k3⟩
    · exact lc_resume (e := e + 1) h all allx hx (by omega) (by omega) hs e69 e13 l4 g1
    · exact lc_hand (e := e + 1) h all allx hx (by omega) (by omega) hs e69 e13 l4 g1
    · exact lc_inject (e := e + 1) h allx hx (by omega) (by omega) hs e69 e13 k1 k2 k3 l4 g1
  · by_cases cS : S < 6000
    · by_cases cr : r.length + 1 < 60
      · have eO := List.take_append_drop (O.length - a) O
        have e1 : (O.take (O.length - a)).length = O.length - a := by rw [List.length_take]; omega
        have e2 : (O.drop (O.length - a)).length = a := by rw [List.length_drop]; omega
        rw [← e1] at g1
        rw [← e2] at bk e15
        rw [← eO] at h
        exact lc_call1 (e := e + 1) h all hx (by omega) (by omega) cS hs cr e69 e13 c1 c2 bk e15 l4 g1
      · exact lc_call0 (e := e + 1) h allx hx (by omega) (by omega) cS hs (by omega) e69 e13 c1 c2 (hcb _ _ _ bk) e15 l4
    · exact lc_spentC (e := e + 1) h (by omega) hx (by omega) (by omega) l4 e69 c1 (hcb _ _ _ bk) e13
  · obtain ⟨y, rfl⟩ := one1 hn
    rcases q with ⟨e69, e13⟩ | ⟨e69, e13⟩
    · exact lc_tell (e := e + 1) h all hx (by omega) (by omega) e69 e13 g1
    · exact lc_close (e := e + 1) h all allx hx (by omega) (by omega) hs e69 e13 l4 g1
  · have eO : O = [] := List.length_eq_zero_iff.mp hn
    subst eO
    exact lc_jump (e := e + 1) h all hx (by omega) (by omega) e69 e13 l4 e70 e14 hi2 g1
  · obtain ⟨y, rfl⟩ := one1 hn
    exact lc_unless (e := e + 1) h all hx (by omega) (by omega) e69 e13 e70 e14 hi2 g1 g2
  · by_cases cS : S < 6000
    · rw [← hn] at g1
      exact lc_step (e := e + 1) h all hx (by omega) (by omega) cS e69 e13 e14 g1
    · exact lc_spent (e := e + 1) h (by omega) hx (by omega) (by omega) l4 e69 e13
  · by_cases cS : S < 6000
    · rw [← hn] at g1
      exact lc_back (e := e + 1) h all hx (by omega) (by omega) cS l4 e69 e13 e14 f69 hi1 f13 f70 f14 g1
    · exact lc_spent (e := e + 1) h (by omega) hx (by omega) (by omega) l4 e69 e13
  · obtain ⟨a, rfl⟩ := one1 hn
    obtain ⟨σ1, fr', h', hp, adv⟩ := lc_keep (X := X) (e := e + 1) h (by omega) hs e13 e14 l4 g1
    obtain ⟨-, -, -, k4, -, -, -, kc⟩ := g1.loc
    have k4 : j + 1 + 1 < 12000 := k4
    have ei : (L ++ [((0, 0, 0, 0, a) : Ite)]).map itm = L.map itm ++ [(0, 0, 0, 0)] := by rw [List.map_append]; rfl
    have kc : Cl κ0 σ0 (Good2 κ0 σ0 (fun _ => False)) bd i (j + 1) (L.map itm ++ [(0, 0, 0, 0)]) 0 1 := kc
    have cE := cl_each kc e69 rfl
    rw [← ei] at cE
    rw [← hp] at all allx hx ⊢
    exact (lc_round (e := e + 1) h' all allx hx (by omega) (by omega) rfl k4 e69 cE).adv adv
  · have eO : O = [] := List.length_eq_zero_iff.mp hn
    subst eO
    exact lc_round (e := e + 1) h all allx hx (by omega) (by omega) hs l4 e69 cE
  · have eO : O = [] := List.length_eq_zero_iff.mp hn
    subst eO
    exact lc_try (e := e + 1) h all hx (by omega) (by omega) hs e69 e13 e14 e70 g1
  · have eO : O = [] := List.length_eq_zero_iff.mp hn
    subst eO
    obtain ⟨L1, q0, rfl, e1, e2⟩ := map_last eL
    obtain ⟨q0, q1, q2, q3, u⟩ := q0
    obtain ⟨z0, z1, z2, z3⟩ := itm_guard e2
    have hit := o4 (q0, q1, q2, q3, u) (List.mem_append_right _ (List.mem_cons_self ..))
    have z1 : q1 = t := z1
    have z2 : q2 = h0 := z2
    have z3 : min q3 2 = ph := z3
    have ht := (hl L0 t h0 ph [] eL).1
    rcases hit with y | ⟨y1, -⟩
    · exact absurd y z0
    have y1 : q0 = 1 := y1
    have e3 : q3 = ph := by omega
    subst y1 z1 z2 e3 e1
    rcases q with ⟨f69, jf, e27, g1⟩ | ⟨f69, e27, jb, e28, g1⟩
    · exact lc_partf (e := e + 1) h all hx (by omega) (by omega) l4 hph e69 e13 e14 e70 hie ht f69 e27 g1
    · exact lc_partn (e := e + 1) h all hx (by omega) (by omega) l4 hph e69 e13 e14 e70 hie ht f69 e27 e28 g1
  · have eO : O = [] := List.length_eq_zero_iff.mp hn
    subst eO
    obtain ⟨L1, q0, rfl, e1, e2⟩ := map_last eL
    obtain ⟨q0, q1, q2, q3, u⟩ := q0
    obtain ⟨z0, z1, z2, z3⟩ := itm_guard e2
    have hit := o4 (q0, q1, q2, q3, u) (List.mem_append_right _ (List.mem_cons_self ..))
    have z1 : q1 = t := z1
    have z2 : q2 = h0 := z2
    have z3 : min q3 2 = 2 := z3
    have ht := (hl L0 t h0 2 [] eL).1
    rcases hit with y | ⟨y1, y2, -⟩
    · exact absurd y z0
    have y1 : q0 = 1 := y1
    have y2 : q3 ≤ 4 := y2
    subst y1 z1 z2 e1
    have h3 : q3 = 2 ∨ q3 = 3 ∨ q3 = 4 := by omega
    rcases h3 with rfl | rfl | rfl
    · exact lc_end2 (e := e) h all hx (by omega) (by omega) l4 e69 e13 e14 ht e28 g1
    · exact lc_end3 (e := e) h allx hx (by omega) (by omega) l4 e69 e13 e14 ht e28 g1
    · exact lc_end4 (e := e) h all hx (by omega) (by omega) l4 e69 e13 e14 ht e28 g1
  · obtain ⟨y, rfl⟩ := one1 hn
    exact lc_return (e := e + 1) h all hx (by omega) (by omega) e69 e13 l4
  · obtain ⟨y, rfl⟩ := one1 hn
    exact lc_throw (e := e + 1) h allx hx (by omega) (by omega) hs e69 e13 hk e70 e14 e15 l4
  · have eO : O = [] := List.length_eq_zero_iff.mp hn
    subst eO
    have eL0 : L = [] := by
      have := congrArg List.length eL
      rw [List.length_map] at this
      exact List.length_eq_zero_iff.mp this
    subst eL0
    exact lc_endbody (e := e + 1) h all hx (by omega) (by omega) e69 e70 f69 hi1 e13 e14 f13 l4
theorem rn_ok (hd : 11 ≤ d) (he : 70 ≤ e) : ∀ P, AllOK X d (e + 2) κ0 σ0 b P := by
  intro P
  induction P with
  | zero => intro κ σ V al S LT HT sp F0 st fr pt ch w v f r x _ hp; omega
  | succ P ih =>
    intro κ σ V al S LT HT sp F0 st fr pt ch w v f r x h hp hx
    have all : AllOK X d (e + 2) κ0 σ0 b (pot V S st fr) := ih.le (by omega)
    exact rn_cases h all (allx_ok (by omega) _ all) hx hd he
end MAIN
