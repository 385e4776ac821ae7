/-! the linker whole -/
section LINKS
variable {X : Cx} {N m b i : Nat} {κa κ : Km}
/-- what is wrong with the acts of body i before p -/
def FlaB (N b : Nat) (κa : Km) (i p : Nat) (z : Nat) : Prop := ∃ k, bdS κa i ≤ k ∧ k < p ∧ Fla N b κa i k z
/-- what is wrong with body i -/
def FlaA (N b : Nat) (κa : Km) (i : Nat) (z : Nat) : Prop := z = fN (kI κa (1000 + 8 * i) 8) ∨ FlaB N b κa i (bdE κa i) z
theorem acts_loop {S : Nat → Prop} {F : Km → Prop} (ho : LkO b κa) (hi : i < b) (hb : LkB N m κa i) (cd : CdW κa m) (tp : TkP N κa) (ls : LkS b κa) (q : ∀ κ2, LkP N b κa i (bdE κa i) κ2 → Wn κ2 (fun z => S z ∨ FlaB N b κa i (bdE κa i) z) → F κ2) : ∀ (r p : Nat) (κ : Km), bdE κa i = p + r → bdS κa i ≤ p → LkP N b κa i p κ → Wn κ (fun z => S z ∨ FlaB N b κa i p z) → K X 3 MX3_linkActs 25 [(0, vR 78), (1, vR (1000 + 8 * i)), (2, vI (nI p))] [] κ (kRV F) := by
  intro r
  induction r with
  | zero =>
    intro p κ hp hs lp wn
    obtain ⟨b1, b2, ⟨b3, b4, b5⟩, ⟨b6, b7, b8, b9⟩, b10, b11⟩ := hb
    have hm := cd.2.1
    refine k_3_linkActs_25 _ _ ⟨isH_body (by rw [lp.1.w.2.2.1]; exact b1), ?_⟩
    rw [lp.1.1 (1000 + 8 * i) (by omega) (by omega), b7, le_nI (by omega) (by omega)]
    refine ⟨fun _ => ⟨rfl, ?_⟩, fun z => absurd (by omega) z⟩
    have e : p = bdE κa i := by omega
    rw [e] at lp wn
    exact q κ lp wn
  | succ r ih =>
    intro p κ hp hs lp wn
    have hb' := hb
    obtain ⟨b1, b2, ⟨b3, b4, b5⟩, ⟨b6, b7, b8, b9⟩, b10, b11⟩ := hb
    have hm := cd.2.1
    have hB : i < kB κ := by rw [lp.1.w.2.2.1]; exact b1
    have step : ∀ κ2 z3, LkP N b κa i (p + 1) κ2 → Wn κ2 (fun z => (S z ∨ FlaB N b κa i p z) ∨ Fla N b κa i p z) → K X 3 MX3_linkActs 89 [(0, vR 78), (1, vR (1000 + 8 * i)), (2, vI (nI p)), (3, vI z3)] [] κ2 (kRV F) := fun κ2 z3 lp2 wn2 => k_3_linkActs_89 _ _ _ (by
      rw [nI_1]
      refine ih (p + 1) κ2 (by omega) (by omega) lp2 (wn2.same rfl (fun z => ⟨fun g => ?_, fun g => ?_⟩))
      · rcases g with g | ⟨k, k1, k2, k3⟩
        · exact Or.inl (Or.inl g)
        · by_cases c : k = p
          · subst c; exact Or.inr k3
          · exact Or.inl (Or.inr ⟨k, k1, by omega, k3⟩)
      · rcases g with (g | ⟨k, k1, k2, k3⟩) | g
        · exact Or.inl g
        · exact Or.inr ⟨k, k1, by omega, k3⟩
        · exact Or.inr ⟨p, hs, by omega, g⟩)
    refine k_3_linkActs_25 _ _ ⟨isH_body hB, ?_⟩
    rw [lp.1.1 (1000 + 8 * i) (by omega) (by omega), b7, le_nI (by omega) (by omega)]
    refine ⟨fun z => absurd z (by omega), fun _ => ⟨0, by omega, kc_actC (lp.1.cd cd) (by omega) ?_⟩⟩
    rw [lp.1.1 69 (by decide) (by decide)]
    have var : kI κa 69 p = 2 ∨ kI κa 69 p = 3 → K X 3 MX3_linkActs 52 [(0, vR 78), (1, vR (1000 + 8 * i)), (2, vI (nI p)), (3, vI (kI κa 69 p))] [] κ (kRV F) := fun ha => k_3_linkActs_52 _ _ _ ⟨isH_body hB, 2, by omega, kc_linkVariable ho hi hb' cd tp lp wn hs (by omega) ha (fun κ2 l2 w2 => step κ2 _ l2 w2)⟩
    refine ⟨fun c => var (Or.inl c), fun c2 => ⟨fun c => var (Or.inr c), fun c3 => ⟨fun c => k_3_linkActs_73 _ _ _ ⟨fun z => absurd (c.symm.trans z) (by decide), fun _ => k_3_linkActs_86 _ _ _ _ _ ⟨isH_body hB, 2, by omega, kc_linkBody (s := 0) ho hi hb' cd tp ls lp wn hs (by omega) (Or.inr ⟨c, rfl⟩) (fun κ2 l2 w2 => step κ2 _ l2 w2)⟩⟩, fun c24 => ⟨fun c => k_3_linkActs_73 _ _ _ ⟨fun _ => k_3_linkActs_86 _ _ _ _ _ ⟨isH_body hB, 2, by omega, kc_linkBody (s := 1) ho hi hb' cd tp ls lp wn hs (by omega) (Or.inl ⟨c, rfl⟩) (fun κ2 l2 w2 => step κ2 _ l2 w2)⟩, fun z => absurd c z⟩, fun c23 => step κ _ (lp.put ho hi hs (by omega) LkF.refl (fun _ _ => rfl) ⟨fun z => absurd z (by rintro (z | z); exact c2 z; exact c3 z), fun z => absurd z (by rintro (z | z); exact c23 z; exact c24 z), fun _ _ _ _ => (lp.2.1 p hs (by omega)).1 (Nat.le_refl _)⟩) (wn.same rfl (fun z => ⟨fun g => g.elim id (fun g => ?_), Or.inl⟩))⟩⟩⟩⟩
    rcases g with ⟨g, -⟩ | ⟨g, -⟩
    · exact absurd g c2
    · exact absurd g (by rintro (z | z); exact c23 z; exact c24 z)
theorem kc_linkActs {S : Nat → Prop} {F : Km → Prop} (ho : LkO b κa) (hi : i < b) (hb : LkB N m κa i) (cd : CdW κa m) (tp : TkP N κa) (ls : LkS b κa) (lp : LkP N b κa i (bdS κa i) κ) (wn : Wn κ S) (q : ∀ κ2, LkP N b κa i (bdE κa i) κ2 → Wn κ2 (fun z => S z ∨ FlaA N b κa i z) → F κ2) : KC' X 3 MX3_linkActs [vR 78, vR (1000 + 8 * i)] κ (kRV F) := by
  have hb' := hb
  obtain ⟨b1, b2, ⟨b3, b4, b5⟩, ⟨b6, b7, b8, b9⟩, b10, b11⟩ := hb
  have hB : i < kB κ := by rw [lp.1.w.2.2.1]; exact b1
  have eb : kI κ (1000 + 8 * i) = kI κa (1000 + 8 * i) := lp.1.1 _ (by omega) (by omega)
  have none : ∀ z, ¬ FlaB N b κa i (bdS κa i) z := fun z ⟨k, k1, k2, _⟩ => by omega
  have go : ∀ κ2, LkP N b κa i (bdS κa i) κ2 → Wn κ2 (fun z => S z ∨ z = fN (kI κa (1000 + 8 * i) 8)) → kI κ2 (1000 + 8 * i) = kI κa (1000 + 8 * i) → i < kB κ2 → K X 3 MX3_linkActs 20 [(0, vR 78), (1, vR (1000 + 8 * i))] [] κ2 (kRV F) := fun κ2 lp2 wn2 e2 hB2 => k_3_linkActs_20 _ ⟨isH_body hB2, by
    rw [e2, b6]
    exact acts_loop (S := fun z => S z ∨ z = fN (kI κa (1000 + 8 * i) 8)) ho hi hb' cd tp ls (fun κ3 lp3 wn3 => q κ3 lp3 (wn3.same rfl (fun z => ⟨fun g => g.elim (fun g => Or.inl (Or.inl g)) (fun g => g.elim (fun g => Or.inl (Or.inr g)) Or.inr), fun g => g.elim (fun g => g.elim Or.inl (fun g => Or.inr (Or.inl g))) (fun g => Or.inr (Or.inr g))⟩))) (bdE κa i - bdS κa i) (bdS κa i) κ2 (by omega) (Nat.le_refl _) lp2 (wn2.same rfl (fun z => ⟨fun g => g.elim id (fun g => absurd g (none z)), Or.inl⟩))⟩
  refine KC_of_K rfl (Nat.le_of_ble_eq_true rfl) rfl (k_3_linkActs_0 _ ⟨isH_body hB, ?_⟩)
  rw [eb]
  rcases b10 with c | ⟨f, f1, f2⟩
  · refine ⟨fun _ => go κ lp ⟨wn.1, ?_⟩ eb hB, fun z => absurd c z⟩
    refine wn.2.cong (fun p hp => ⟨Or.inl, fun g => g.elim id (fun g => ?_)⟩)
    rw [c, fN_neg] at g
    omega
  · rw [f2]
    refine ⟨fun z => absurd z (neg9 (by omega)), fun _ => ⟨0, by omega, kc_note (go _ ⟨lp.1.trans lkF_nt, ?_, ?_, ?_⟩ (wn.note f1 (fun z => ?_)) ((lkF_nt.1 _ (by omega) (by omega)).trans eb) (by rw [(lkF_nt (κ := κ) (f := f)).w.2.2.1]; exact hB))⟩⟩
    · rw [nt_70]; exact lp.2.1
    · rw [nt_70]; exact lp.2.2.1
    · rw [nt_70]; exact lp.2.2.2
    · rw [f2, fN_nI (by omega)]
theorem link_loop {S : Nat → Prop} {F : Int32 → Km → Prop} (ho : LkO b κa) (hb : ∀ i, i < b → LkB N m κa i) (cd : CdW κa m) (tp : TkP N κa) (ls : LkS b κa) (q : ∀ κ2, LkF κa κ2 → (∀ i k, i < b → bdS κa i ≤ k → k < bdE κa i → Lkd N b κa i k (kI κ2 70 k)) → Wn κ2 (fun z => S z ∨ ∃ i, i < b ∧ FlaA N b κa i z) → F (kI κ2 67 3) κ2) : ∀ (r i : Nat) (κ : Km), i + r = b → LkF κa κ → (∀ j k, j < i → bdS κa j ≤ k → k < bdE κa j → Lkd N b κa j k (kI κ 70 k)) → (∀ j k, i ≤ j → j < b → bdS κa j ≤ k → k < bdE κa j → kI κ 70 k = kI κa 70 k) → Wn κ (fun z => S z ∨ ∃ j, j < i ∧ FlaA N b κa j z) → K X 4 MX3_link 2 [(0, vR 78), (1, vI (nI i))] [] κ (kRI F) := by
  intro r
  induction r with
  | zero =>
    intro i κ hi lf h1 h2 wn
    have e : i = b := by omega
    subst e
    refine k_3_link_2 _ ⟨0, by omega, kc_ssize ?_⟩
    rw [lf.2.1 2 (by decide), ls.1, le_nI (by have := ls.2.1; omega) (by have := ls.2.1; omega)]
    exact ⟨fun _ => ⟨0, by omega, kc_wrongName ⟨_, rfl, q κ lf (fun j k hj => h1 j k hj) wn⟩⟩, fun z => absurd (Nat.le_refl _) z⟩
  | succ r ih =>
    intro i κ hi lf h1 h2 wn
    obtain ⟨l1, l2, l3, l4⟩ := ls
    have n67 : kI κ 67 2 = nI b := (lf.2.1 2 (by decide)).trans l1
    have hB : b ≤ kB κ := by rw [lf.w.2.2.1]; exact l3
    refine k_3_link_2 _ ⟨0, by omega, kc_ssize ?_⟩
    rw [n67, le_nI (by omega) (by omega)]
    refine ⟨fun z => absurd z (by omega), fun _ => ⟨0, by omega, kc_sat n67 l2 (by omega) hB ⟨Or.inr (isH_body (by omega)).1, fun z => absurd z (by omega), fun _ => ⟨isH_body (by omega), 3, by omega, kc_linkActs ho (by omega) (hb i (by omega)) cd tp ⟨l1, l2, l3, l4⟩ ⟨lf, fun k g1 g2 => ⟨fun _ => h2 i k (Nat.le_refl _) (by omega) g1 g2, fun z => absurd z (by omega)⟩, h1, fun j k g1 g2 g3 g4 => h2 j k (by omega) g2 g3 g4⟩ wn (fun κ2 lp2 wn2 => k_3_link_31 _ _ ?_)⟩⟩⟩⟩
    rw [nI_1]
    refine ih (i + 1) κ2 (by omega) lp2.1 (fun j k g1 g2 g3 => ?_) (fun j k g1 g2 g3 g4 => lp2.2.2.2 j k (by omega) g2 g3 g4) (wn2.same rfl (fun z => ⟨fun g => ?_, fun g => ?_⟩))
    · by_cases c : j = i
      · subst c; exact (lp2.2.1 k g2 g3).2 g3
      · exact lp2.2.2.1 j k (by omega) g2 g3
    · rcases g with g | ⟨j, j1, j2⟩
      · exact Or.inl (Or.inl g)
      · by_cases c : j = i
        · subst c; exact Or.inr j2
        · exact Or.inl (Or.inr ⟨j, by omega, j2⟩)
    · rcases g with (g | ⟨j, j1, j2⟩) | g
      · exact Or.inl g
      · exact Or.inr ⟨j, by omega, j2⟩
      · exact Or.inr ⟨i, by omega, g⟩
theorem kc_link {S : Nat → Prop} {F : Int32 → Km → Prop} (ho : LkO b κa) (hb : ∀ i, i < b → LkB N m κa i) (cd : CdW κa m) (tp : TkP N κa) (ls : LkS b κa) (wn : Wn κa S) (q : ∀ κ2, LkF κa κ2 → (∀ i k, i < b → bdS κa i ≤ k → k < bdE κa i → Lkd N b κa i k (kI κ2 70 k)) → Wn κ2 (fun z => S z ∨ ∃ i, i < b ∧ FlaA N b κa i z) → F (kI κ2 67 3) κ2) : KC' X 4 MX3_link [vR 78] κa (kRI F) :=
  KC_of_K rfl (Nat.le_of_ble_eq_true rfl) rfl (k_3_link_0 (link_loop ho hb cd tp ls q b 0 κa (by omega) LkF.refl (fun j k z => absurd z (Nat.not_lt_zero _)) (fun _ _ _ _ _ _ => rfl) (wn.same rfl (fun z => ⟨fun g => g.elim id (fun ⟨j, z, _⟩ => absurd z (Nat.not_lt_zero _)), Or.inl⟩))))
end LINKS
