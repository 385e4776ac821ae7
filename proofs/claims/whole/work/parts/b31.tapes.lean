/-! the tape of both: feed, drop -/
section TAPES
variable {X : Cx} {d e : Nat} {κ0 κ κ1 κ2 κ' : Km} {σ0 σ σ1 σ2 σ' : Rm} {b V al S T sp z LT HT F0 n k s p o j i x t g : Nat} {st : Nat → Nat} {fr : Nat → List Frm} {pt : Nat → Nat} {w m : Nat → Nat} {y hi rd x0 : Int32} {l : Int64}
/-- the tape is another: the story goes on from here -/
theorem Desk.tape (dk : Desk κ0 σ0 κ σ b V al S LT HT sp F0 z st fr pt w) (e2 : κ'.2 = κ.2) (eh : ∀ g, g ≠ 65 → g ≠ 66 → kI κ' g = kI κ g) (el : aL σ' = aL σ) (es : ∀ k, k ≠ 1 → k ≠ 2 → aI σ' k = aI σ k) : Desk κ' σ' κ' σ' b V al S LT HT sp F0 z st fr pt w := by
  obtain ⟨a, c, m⟩ := dk.bn (x := 0)
  obtain ⟨-, b5, acc, col⟩ := dk
  obtain ⟨⟨⟨k1, k2, k3⟩, sta, rg⟩, a4, a5, a7, a8, a9, a10⟩ := a
  have ew : kW κ' = kW κ := by show κ'.2.2.1 = κ.2.2.1; rw [e2]
  have eB : kB κ' = kB κ := by show κ'.2.2.2.2.1 = κ.2.2.2.2.1; rw [e2]
  have eV : kV κ' = kV κ := by show κ'.2.2.2.2.2.1 = κ.2.2.2.2.2.1; rw [e2]
  have e0 : ∀ h, h = 67 ∨ h = 68 ∨ h = 69 ∨ h = 70 ∨ (1000 ≤ h ∧ h % 8 = 0) → kI κ' h = kI κ0 h := fun h hh => by
    rw [eh h (by omega) (by omega), (k1 h (by unfold hCd; omega)).1]
  have ea0 : ∀ k, 3 ≤ k → k ≤ 45 → aI σ' k = aI σ0 k := fun k h1 h2 => by rw [es k (by omega) (by omega), (k3 k (by omega) (by omega)).1]
  have sta' : Sta b κ' σ' := sta.same e0 ⟨by rw [ew, (k1 69 (by unfold hCd; omega)).2.2], by rw [ew, (k1 70 (by unfold hCd; omega)).2.2]⟩ (eB.trans k2.1) ea0
  have ce : CdE κ0 σ0 κ' σ' := ⟨e0 69 (by omega), e0 70 (by omega), by rw [e0 68 (by omega)], fun k hk => ea0 k (by omega) (by omega)⟩
  have arz : ArZ σ' := k2.2.2.2.2.1.cg (fun k hk => es k (by omega) (by omega))
  refine Desk.of ⟨⟨⟨fun _ _ => ⟨rfl, rfl, rfl⟩, ⟨rfl, Mkd.refl arz⟩, fun _ _ _ => ⟨rfl, rfl⟩⟩, sta', RG.refl⟩, a4.cg (fun k _ => by rw [eh 79 (by decide) (by decide)]) eV (fun k hk => congrFun (es k (by omega) (by omega)) 0), fun n n1 n2 => (a5 n n1 n2).cg (fun k hk => by rw [eh _ (by omega) (by omega)]) (fun k h1 h2 => by rw [es k (by omega) (by omega)]) (es 19 (by decide) (by decide)), a7.cg2 ew (es 59 (by decide) (by decide)), a8.cg (fun g hg => ⟨eh g (by omega) (by omega), by rw [ew]⟩) (by rw [eh 79 (by decide) (by decide)]) (fun k h1 h2 => es k (by omega) (by omega)), a9.fr (by rw [eh 84 (by decide) (by decide)]) (eh 85 (by decide) (by decide)) (by rw [ew]) (fun k h1 h2 => es k (by omega) (by omega)), fun n n1 n2 => (a10 n n1 n2).cg (fun k hk => by rw [eh _ (by omega) (by omega)]) (eh _ (by omega) (by omega)) (by rw [ew]) (by rw [eV]; exact Nat.le_refl _) (fun k h1 h2 => es k (by omega) (by omega))⟩ (c.cg (es 54 (by decide) (by decide)) (es 56 (by decide) (by decide)) (es 57 (by decide) (by decide))) (fun n n1 n2 => Md.cong ce (m n n1 n2) (congrFun (es 56 (by decide) (by decide)) n)) (by rw [eh 79 (by decide) (by decide)]; exact b5) acc (col.cg (eh 84 (by decide) (by decide)) (fun h h1 h2 => ⟨eh h (by omega) (by omega), by rw [ew]⟩) (fun k h1 h2 => es k (by omega) (by omega)))
theorem Pe.tape (h : Pe κ σ rd) (tp : Tp κ' n) (t2 : sI σ' 2 = nI n) (tb : ∀ i, i < n → aI σ' 1 i = kI κ' 66 i) (e2 : κ'.2 = κ.2) (eh : ∀ g, g ≠ 65 → g ≠ 66 → kI κ' g = kI κ g) (es : ∀ k, k ≠ 1 → k ≠ 2 → aI σ' k = aI σ k) : Pe κ' σ' rd := by
  obtain ⟨-, ⟨h1, h2, h3, h4⟩, ⟨h5, κ1, h6, h7, h8⟩, h9, h10⟩ := h
  have ew : kW κ' = kW κ := by show κ'.2.2.1 = κ.2.2.1; rw [e2]
  have eL : kL κ' = kL κ := by show κ'.2.1 = κ.2.1; rw [e2]
  have eB : kB κ' = kB κ := by show κ'.2.2.2.2.1 = κ.2.2.2.2.1; rw [e2]
  have eV : kV κ' = kV κ := by show κ'.2.2.2.2.2.1 = κ.2.2.2.2.2.1; rw [e2]
  have eT : kT κ' = kT κ := by show κ'.2.2.2.2.2.2.1 = κ.2.2.2.2.2.2.1; rw [e2]
  have eZ : kZ κ' = kZ κ := by show κ'.2.2.2.2.2.2.2 = κ.2.2.2.2.2.2.2; rw [e2]
  refine ⟨⟨n, tp, t2, tb⟩, ⟨h1.fr ⟨by rw [ew], by rw [ew], by rw [ew]⟩, ?_, ?_, h4.fr (fun k hk => es k (by omega) (by omega))⟩, ⟨by rw [ew]; exact h5, κ1, h6.trans (RG.same ew eV eB eT eZ), h7, h8⟩, by rw [eh 64 (by decide) (by decide)]; exact h9, (congrFun (es 46 (by decide) (by decide)) 0).trans h10⟩
  · unfold Ky at *
    rw [eL, ew]; exact h2
  · unfold ClW at *
    rw [ew, eB]
    exact h3
theorem Rr.tape (h : Rr k κ σ) (tp : Tp κ' n) (t2 : sI σ' 2 = nI n) (tb : ∀ i, i < n → aI σ' 1 i = kI κ' 66 i) (e2 : κ'.2 = κ.2) (eh : ∀ g, g ≠ 65 → g ≠ 66 → kI κ' g = kI κ g) (el : aL σ' = aL σ) (es : ∀ k, k ≠ 1 → k ≠ 2 → aI σ' k = aI σ k) : Rr (k + 1) κ' σ' := by
  have ew : kW κ' = kW κ := by show κ'.2.2.1 = κ.2.2.1; rw [e2]
  have eV : kV κ' = kV κ := by show κ'.2.2.2.2.2.1 = κ.2.2.2.2.2.1; rw [e2]
  rcases h with ⟨p, sp, sc⟩ | ⟨κ0, σ0, b, V, al, S, LT, HT, sp, F0, z, st, fr, pt, w, p, d, hb⟩
  · exact Or.inl ⟨p.tape tp t2 tb e2 eh es, sp, sc.cg (fun k => by rw [eh 79 (by decide) (by decide)]) eV (fun n => eh _ (by omega) (by omega)) (fun g _ => by rw [ew])⟩
  · exact Or.inr ⟨κ', σ', b, V, al, S, LT, HT, sp, F0, z, st, fr, pt, w, (d.pe p).tape tp t2 tb e2 eh es, d.tape e2 eh el es, by omega⟩
theorem Rr.tp (h : Rr k κ σ) : ∃ n, Tp κ n ∧ sI σ 2 = nI n ∧ ∀ i, i < n → aI σ 1 i = kI κ 66 i := by
  rcases h.cases with ⟨p, -⟩ | ⟨κ0, σ0, b, V, al, S, LT, HT, sp, F0, z, st, fr, pt, w, p0, p, -⟩
  · exact p.1
  · exact p.1
/-- the class's tape with k bytes of l more, from n on -/
def fdK (κ : Km) (n : Nat) (l : Int64) : Nat → Km
  | 0 => κ
  | k + 1 => cI (cI (fdK κ n l k) 66 (n + k) (byC l k)) 65 1 (nI (n + k + 1))
theorem fdK_h (h1 : g ≠ 65) (h2 : g ≠ 66) : ∀ k, kI (fdK κ n l k) g = kI κ g := by
  intro k
  induction k with
  | zero => rfl
  | succ k ih => show kI (cI (cI (fdK κ n l k) 66 (n + k) (byC l k)) 65 1 (nI (n + k + 1))) g = _; rw [kI_ne h1, kI_ne h2, ih]
theorem fdK_2 : ∀ k, (fdK κ n l k).2 = κ.2 := by
  intro k
  induction k with
  | zero => rfl
  | succ k ih => exact ih
theorem fdK_65 (h : kI κ 65 1 = nI n) : ∀ k, kI (fdK κ n l k) 65 1 = nI (n + k) := by
  intro k
  cases k with
  | zero => exact h
  | succ k => exact kI_eq
theorem byC_i8 {k : Nat} : i8 (byC l k) := by
  unfold i8 byC
  simp
theorem fdK_i8 (h : ∀ i, i8 (kI κ 66 i)) : ∀ k i, i8 (kI (fdK κ n l k) 66 i) := by
  intro k
  induction k with
  | zero => exact h
  | succ k ih =>
    intro i
    show i8 (kI (cI (cI (fdK κ n l k) 66 (n + k) (byC l k)) 65 1 (nI (n + k + 1))) 66 i)
    rw [kI_ne (by decide)]
    by_cases c : i = n + k
    · rw [c, kI_eq]; exact byC_i8
    · rw [kI_nk c]; exact ih i
theorem fdB_k {k' : Nat} (h : k' ≠ 1) : ∀ k, aI (fdB σ n l k) k' = aI σ k' := by
  intro k
  induction k with
  | zero => rfl
  | succ k ih => show aI (wI (fdB σ n l k) 1 (n + k) (byR l k)) k' = _; rw [aI_ne h, ih]
theorem fdB_l : ∀ k, aL (fdB σ n l k) = aL σ := by
  intro k
  induction k with
  | zero => rfl
  | succ k ih => exact ih
theorem fd_both (h : ∀ i, i < n → aI σ 1 i = kI κ 66 i) : ∀ k, k ≤ 8 → ∀ i, i < n + k → aI (fdB σ n l k) 1 i = kI (fdK κ n l k) 66 i := by
  intro k
  induction k with
  | zero => intro _; exact h
  | succ k ih =>
    intro hk i hi
    show aI (wI (fdB σ n l k) 1 (n + k) (byR l k)) 1 i = kI (cI (cI (fdK κ n l k) 66 (n + k) (byC l k)) 65 1 (nI (n + k + 1))) 66 i
    rw [kI_ne (by decide)]
    by_cases c : i = n + k
    · rw [c, aI_eq, kI_eq, by_eq l k (by omega)]
    · rw [aI_ni c, kI_nk c]; exact ih (by omega) i (by omega)
theorem kc_feedloop {w : Nat} {Q : Res → Km → Prop} (hw : w ≤ 8) (hn : n + w ≤ 3000) (h65 : kI κ 65 1 = nI n) (h66 : kW κ 66 = 3000) (q : Q (.inl (some (vI (nI (n + w))))) (fdK κ n l w)) : ∀ m k : Nat, k + m = w → K X 10 MX11_feed 30 [(0, vR 64), (1, vL l), (3, vI (nI w)), (4, vI (nI k))] [] (fdK κ n l k) Q := by
  intro m
  induction m with
  | zero =>
    intro k hk
    have e : k = w := hk
    subst e
    refine k_11_feed_30 _ _ _ ⟨fun _ => ⟨0, by omega, KC_of_K rfl (Nat.le_of_ble_eq_true rfl) rfl (k_8_size_0 ⟨_, rfl, ?_⟩)⟩, fun z => absurd (Int32.le_refl _) z⟩
    rw [fdK_65 h65]
    exact q
  | succ m ih =>
    intro k hk
    refine k_11_feed_30 _ _ _ ⟨fun z => ?_, fun _ => ⟨0, by omega, KC_of_K rfl (Nat.le_of_ble_eq_true rfl) rfl (k_8_add_0 _ ⟨fun z => ?_, fun _ => ⟨?_, ?_⟩⟩)⟩⟩
    · rw [le_nI (by omega) (by omega)] at z; omega
    · rw [fdK_65 h65, show ((3000 : Int32)) = nI 3000 from rfl, le_nI (by omega) (by omega)] at z; omega
    · rw [fdK_65 h65, show kW (fdK κ n l k) 66 = 3000 by rw [← h66]; show (fdK κ n l k).2.2.1 66 = κ.2.2.1 66; rw [fdK_2], vpn (by omega)]
      omega
    · rintro κ3 rfl κ4 rfl
      refine k_8_add_31 _ ⟨rfl, ?_⟩
      rw [kI_ne (h' := 65) (h := 66) (by decide), fdK_65 h65, cl_nI (by omega), nI_1, nI_1]
      have e8 : ((((l.toUInt64 >>> ((8 * nI k : Int32).toInt64.toUInt64 &&& Int64.toUInt64 63)).toInt64).toInt32.toInt8.toInt32).toInt8.toInt32) = byC l k := by unfold byC; simp
      rw [e8]
      exact ih (k + 1) (by omega)
theorem feed_ok (h : Rr k κ σ) : P2I X MX11_feed MX13_feed [vL l, vI x0] κ σ (Rr (k + 1)) := by
  refine ⟨10, 1, by decide, by decide, ?_⟩
  have hR := h.up (Nat.le_succ k)
  obtain ⟨n, tp, t2, tb⟩ := h.tp
  obtain ⟨t1, t3, t4, t5⟩ := id tp
  have bad : (x0 < 1 ∨ 8 < x0) → AC X 92 1 MX13_feed [vR 92, vL l, vI x0] σ (aRI fun y' σ' => (-1 : Int32) = y' ∧ Rr (k + 1) κ σ') := fun hz => ac_feed t2 t4 (fun _ => ⟨_, rfl, rfl, hR⟩) (fun w w1 w2 e _ => by
    rw [e, litI 1, lt_nI (by omega) (by omega), show ((8 : Int32)) = nI 8 from rfl, lt_nI (by omega) (by omega)] at hz
    omega) (fun w w1 w2 e _ => by
    rw [e, litI 1, lt_nI (by omega) (by omega), show ((8 : Int32)) = nI 8 from rfl, lt_nI (by omega) (by omega)] at hz
    omega)
  refine KC_of_K rfl (Nat.le_of_ble_eq_true rfl) rfl (k_11_feed_0 _ _ ⟨fun c => k_11_feed_11 _ _ ⟨_, rfl, bad (Or.inl c)⟩, fun c => ⟨fun c2 => ?_, fun c2 => k_11_feed_11 _ _ ⟨_, rfl, bad (Or.inr (Int32.not_le.mp c2))⟩⟩⟩)
  obtain ⟨w, hw, rfl⟩ := nI_of (fun z => c (Int32.lt_trans z (by decide)))
  rw [litI 1, lt_nI hw (by omega)] at c
  rw [show ((8 : Int32)) = nI 8 from rfl, le_nI hw (by omega)] at c2
  refine ⟨0, by omega, KC_of_K rfl (Nat.le_of_ble_eq_true rfl) rfl (k_8_hasRoom_0 _ ?_)⟩
  rw [t1, nI_add, show ((3000 : Int32)) = nI 3000 from rfl, lt_nI (by omega) (by omega)]
  refine ⟨fun c3 => k_8_hasRoom_17 _ _ ⟨Or.inl rfl, _, rfl, fun _ => ⟨_, rfl, ?_⟩, fun z => absurd rfl z⟩, fun c3 => k_8_hasRoom_17 _ _ ⟨Or.inr rfl, _, rfl, fun z => absurd z (by decide), fun _ => ?_⟩⟩
  · refine ac_feed t2 t4 (fun hz => ?_) (fun _ _ _ _ _ => ⟨_, rfl, rfl, hR⟩) (fun w' w1 w2 e h3 => ?_)
    · rw [litI 1, lt_nI (by omega) (by omega), show ((8 : Int32)) = nI 8 from rfl, lt_nI (by omega) (by omega)] at hz
      omega
    · have := (nI_eq (by omega) (by omega)).mp e
      omega
  · refine kc_feedloop (κ := κ) (n := n) c2 (by omega) t1 t3 ⟨_, rfl, ?_⟩ w 0 (by omega)
    refine ac_feed t2 t4 (fun hz => ?_) (fun w' w1 w2 e h3 => ?_) (fun w' w1 w2 e h3 => ?_)
    · rw [litI 1, lt_nI (by omega) (by omega), show ((8 : Int32)) = nI 8 from rfl, lt_nI (by omega) (by omega)] at hz
      omega
    · have := (nI_eq (by omega) (by omega)).mp e
      omega
    · have ew := (nI_eq (by omega) (by omega)).mp e
      subst ew
      refine ⟨_, rfl, rfl, h.tape (n := n + w) ⟨fdK_65 t1 w, ?_, h3, fdK_i8 t5 w⟩ sI_eq (fun i hi => ?_) (fdK_2 w) (fun g g1 g2 => fdK_h g1 g2 w) (fdB_l w) (fun k' k1 k2 => ?_)⟩
      · show (fdK κ n l w).2.2.1 66 = 3000
        rw [fdK_2]; exact t3
      · rw [aI_ne (by decide)]; exact fd_both tb w c2 i hi
      · rw [aI_ne k2, fdB_k k1]
theorem drop_ok (h : Rr k κ σ) : P2I X MX11_drop MX13_drop [] κ σ (Rr (k + 1)) := by
  refine ⟨10, 0, by decide, by decide, ?_⟩
  obtain ⟨n, tp, t2, tb⟩ := h.tp
  obtain ⟨t1, t3, t4, t5⟩ := id tp
  refine KC_of_K rfl (Nat.le_of_ble_eq_true rfl) rfl (k_11_drop_0 ⟨0, by omega, KC_of_K rfl (Nat.le_of_ble_eq_true rfl) rfl (k_8_size_0 ⟨_, rfl, 0, by omega, KC_of_K rfl (Nat.le_of_ble_eq_true rfl) rfl (k_8_clear_0 ?_)⟩)⟩)
  rintro κ1 rfl
  refine ⟨rfl, _, rfl, ac_drop ⟨t1.trans t2.symm, ?_⟩⟩
  exact h.tape (n := 0) ⟨kI_eq, t3, by omega, fun i => by rw [kI_ne (by decide)]; exact t5 i⟩ sI_eq (fun i hi => absurd hi (Nat.not_lt_zero _)) rfl (fun g g1 g2 => kI_ne g1) rfl (fun k' k1 k2 => aI_ne k2)
end TAPES
