/-! sweep: the reference's marking; the loop of both -/
section SWEEP
variable {X : Cx} {d e : Nat} {κ0 κ κ1 κ2 κ' : Km} {σ0 σ σ1 σ2 σ' : Rm} {b V al S T sp z LT HT F0 n k s p o j i x t : Nat} {st : Nat → Nat} {fr : Nat → List Frm} {pt : Nat → Nat} {w m m1 m2 : Nat → Nat} {y hi : Int32}
def c1 (m : Nat → Nat) (V : Nat) : Nat := cn (fun x => if m x = 0 then 0 else 1) V
theorem c1_le : c1 m V ≤ V := cn_le (fun k => by split <;> omega) V
/-- all are marked -/
theorem c1_all (h : V ≤ c1 m V) : ∀ x, 1 ≤ x → x ≤ V → m x ≠ 0 := fun x x1 x2 hx => by
  have e := cn_up (g := fun x => if m x = 0 then 0 else 1) (g' := fun y => if y = x then 1 else if m y = 0 then 0 else 1) (n := x) (fun k hk => if_neg hk) V x1 x2
  have e1 : (if m x = 0 then 0 else 1) = 0 := if_pos hx
  rw [e1, if_pos rfl] at e
  have e3 := cn_le (g := fun y => if y = x then 1 else if m y = 0 then 0 else 1) (fun k => by split <;> first | omega | (split <;> omega)) V
  have h : V ≤ cn (fun x => if m x = 0 then 0 else 1) V := h
  omega
theorem c1_mono (h : ∀ x, 1 ≤ x → x ≤ V → m x ≠ 0 → m2 x ≠ 0) : c1 m V ≤ c1 m2 V := cn_mono V (fun x x1 x2 => by
  show (if m x = 0 then 0 else 1) ≤ (if m2 x = 0 then 0 else 1)
  by_cases c : m x = 0
  · rw [if_pos c]; exact Nat.zero_le _
  · rw [if_neg c, if_neg (h x x1 x2 c)]; exact Nat.le_refl _)
theorem c1_more (h : ∀ x, 1 ≤ x → x ≤ V → m x ≠ 0 → m2 x ≠ 0) (hn : 1 ≤ n ∧ n ≤ V) (h0 : m n = 0) (h2 : m2 n ≠ 0) : c1 m V + 1 ≤ c1 m2 V := by
  have e := cn_up (g := fun x => if m x = 0 then 0 else 1) (g' := fun y => if y = n then 1 else if m y = 0 then 0 else 1) (n := n) (fun k hk => if_neg hk) V hn.1 hn.2
  have e1 : (if m n = 0 then 0 else 1) = 0 := if_pos h0
  rw [e1, if_pos rfl] at e
  have e3 : cn (fun y => if y = n then 1 else if m y = 0 then 0 else 1) V ≤ c1 m2 V := cn_mono V (fun x x1 x2 => by
    show (if x = n then 1 else if m x = 0 then 0 else 1) ≤ (if m2 x = 0 then 0 else 1)
    by_cases c : x = n
    · rw [if_pos c, c, if_neg h2]; exact Nat.le_refl _
    · rw [if_neg c]
      by_cases c2 : m x = 0
      · rw [if_pos c2]; exact Nat.zero_le _
      · rw [if_neg c2, if_neg (h x x1 x2 c2)]; exact Nat.le_refl _)
  show cn (fun x => if m x = 0 then 0 else 1) V + 1 ≤ c1 m2 V
  omega
/-- the reference's marks while it looks -/
def RIr (σ : Rm) (V : Nat) (st : Nat → Nat) (fr : Nat → List Frm) (pt : Nat → Nat) (m : Nat → Nat) : Prop := Roo V (Rtt σ) m ∧ Leas V (Rtt σ) (Ovv st) (Mn σ st fr pt) m
theorem RIr.step (h : RIr σ V st fr pt m) (hn : 1 ≤ n ∧ n ≤ V) (h1 : m n ≠ 0) (hs : st n < 4) (tc : Tcr V (Mn σ st fr pt n) m m2) : RIr σ V st fr pt m2 := by
  obtain ⟨r, l⟩ := h
  refine ⟨fun x x1 x2 hr => tc.ne x1 x2 (r x x1 x2 hr), fun P p1 p2 x x1 x2 hx => ?_⟩
  rcases tc x x1 x2 with e | ⟨e2, e3⟩
  · rw [e] at hx; exact l P p1 p2 x x1 x2 hx
  · exact p2 n x hn.1 hn.2 x1 x2 (l P p1 p2 n hn.1 hn.2 h1) (fun z => by have z : 4 ≤ st n := z; omega) e3
/-- what the reference's marks say -/
def MrE (σ2 σ : Rm) (V : Nat) (st : Nat → Nat) (fr : Nat → List Frm) (pt : Nat → Nat) : Prop := ∃ m mr, RIr σ V st fr pt m ∧ Clo V (Ovv st) (Mn σ st fr pt) m ∧ Mr σ2 V mr ∧ ∀ x, 1 ≤ x → x ≤ V → (mr x = 0 ↔ m x = 0 ∧ st x < 4)
theorem Desk.rfound {Q : Res → Rm → Prop} (dk : Desk κ0 σ0 κ σ b V al S LT HT sp F0 z st fr pt w) (q : ∀ σ2, Rk σ σ2 → MrE σ2 σ V st fr pt → A X 92 80 MX13_sweep 150 [(0, vR 92), (1, vI (nI V)), (2, vI 0), (3, vI 1)] [] σ2 Q) : A X 92 80 MX13_sweep 12 [(0, vR 92), (1, vI 1)] [] σ Q := by
  have hV60 : V ≤ 60 := dk.stg.2.2.2.2.2.2.2.1
  have h47 := dk.stg.1.2
  have h47' : ∀ σ2, Rk σ σ2 → sI σ2 47 = nI V := fun σ2 kk => (kk.si (by decide)).trans h47
  -- the last loop: those that are over count as reached
  have last : ∀ m, RIr σ V st fr pt m → Clo V (Ovv st) (Mn σ st fr pt) m → ∀ r i σ2 m2, i + r = V + 1 → 1 ≤ i → Rk σ σ2 → Mr σ2 V m2 → (∀ x, 1 ≤ x → x ≤ V → (x < i → (m2 x = 0 ↔ m x = 0 ∧ st x < 4)) ∧ (i ≤ x → m2 x = m x)) → A X 92 80 MX13_sweep 109 [(0, vR 92), (1, vI (nI V)), (2, vI 0), (3, vI (nI i))] [] σ2 Q := by
    intro m ri cl r
    induction r with
    | zero =>
      intro i σ2 m2 hi i1 kk mk hm
      have ei : i = V + 1 := hi
      subst ei
      refine a_sweep_109 _ _ _ ?_
      rw [lt_nI (by omega) (by omega)]
      exact ⟨fun _ => q σ2 kk ⟨m, m2, ri, cl, mk, fun x x1 x2 => (hm x x1 x2).1 (by omega)⟩, fun z => absurd (by omega) z⟩
    | succ r ih =>
      intro i σ2 m2 hi i1 kk mk hm
      have hn : 1 ≤ i ∧ i ≤ V := ⟨i1, by omega⟩
      obtain ⟨-, v0, v1, v49, v6, v4⟩ := dk.vst i hn.1 hn.2
      have ei := (hm i hn.1 hn.2).2 (Nat.le_refl _)
      obtain ⟨mk1, mk2⟩ := mk i hn.1 hn.2
      have fin : ∀ t, t ≤ 1 → (t = 0 ↔ m i = 0 ∧ st i < 4) → ∀ t2 : Int32, t2 = nI t → A X 92 80 MX13_sweep 141 [(0, vR 92), (1, vI (nI V)), (2, vI 0), (3, vI (nI i))] [vI t2, vI (nI i), vR (92 + 72)] σ2 Q := fun t ht he t2 ht2 => by
        refine a_sweep_141 _ _ _ _ _ ?_
        rw [vpn (by omega), cl_nI (by omega), nI_1, ht2]
        refine ⟨by omega, ?_, ?_⟩
        · have h2 : t = 0 ∨ t = 1 := by omega
          rcases h2 with rfl | rfl
          · exact Or.inl rfl
          · exact Or.inr rfl
        · rintro s3 rfl
          refine ih (i + 1) _ (un m2 i t) (by omega) (by omega) kk.set (mk.set ht) (fun x x1 x2 => ⟨fun hx => ?_, fun hx => ?_⟩)
          · by_cases cx : x = i
            · rw [cx, un_eq]; exact he
            · rw [un_ne cx]; exact (hm x x1 x2).1 (by omega)
          · rw [un_ne (by omega)]; exact (hm x x1 x2).2 (by omega)
      refine a_sweep_109 _ _ _ ?_
      rw [lt_nI (by omega) (by omega), vpn (by omega), cl_nI (by omega), mk1, litI 0, eq_nI (by omega) (by omega)]
      refine ⟨fun z => by omega, fun _ => ⟨by omega, fun m0 => ⟨0, by omega, ac_isOver (by omega) (by rw [kk.2 49 (by decide)]; exact v49) v6 (fun c4 => ⟨fun z => absurd z (by decide), fun _ => a_sweep_136 _ _ _ _ (fin 1 (by omega) ⟨fun z => absurd z (by decide), fun z => by omega⟩ _ rfl)⟩) (fun c4 => ⟨fun _ => fin 0 (by omega) ⟨fun _ => ⟨by omega, by omega⟩, fun _ => rfl⟩ _ rfl, fun z => absurd rfl z⟩)⟩, fun m0 => a_sweep_136 _ _ _ _ (fin 1 (by omega) ⟨fun z => absurd z (by decide), fun z => by omega⟩ _ rfl)⟩⟩
  -- the rounds
  have rounds : ∀ r t σ2 m, t + r = V → Rk σ σ2 → Mr σ2 V m → RIr σ V st fr pt m → (Clo V (Ovv st) (Mn σ st fr pt) m ∨ t ≤ c1 m V) → A X 92 80 MX13_sweep 48 [(0, vR 92), (1, vI (nI t))] [] σ2 Q := by
    intro r
    induction r with
    | zero =>
      intro t σ2 m ht kk mk ri hh
      have et : t = V := ht
      subst et
      have cl : Clo t (Ovv st) (Mn σ st fr pt) m := hh.elim id (fun h x y _ _ y1 y2 _ _ _ => c1_all h y y1 y2)
      refine a_sweep_48 _ ?_
      rw [h47' σ2 kk, le_nI (by omega) (by omega)]
      exact ⟨fun _ => last m ri cl t 1 σ2 m (by omega) (Nat.le_refl _) kk mk (fun x x1 x2 => ⟨fun hx => by omega, fun _ => rfl⟩), fun z => absurd (Nat.le_refl _) z⟩
    | succ r ih =>
      intro t σ2 m ht kk mk ri hh
      refine a_sweep_48 _ ?_
      rw [h47' σ2 kk, le_nI (by omega) (by omega)]
      refine ⟨fun z => by omega, fun _ => ?_⟩
      have inner : ∀ r' i σ2 m, i + r' = V + 1 → 1 ≤ i → Rk σ σ2 → Mr σ2 V m → RIr σ V st fr pt m → (Clo V (Ovv st) (Mn σ st fr pt) m ∨ (t ≤ c1 m V ∧ ∀ x y, 1 ≤ x → x < i → x ≤ V → 1 ≤ y → y ≤ V → m x ≠ 0 → ¬ Ovv st x → Mn σ st fr pt x y → m y ≠ 0) ∨ t + 1 ≤ c1 m V) → A X 92 80 MX13_sweep 58 [(0, vR 92), (1, vI (nI t)), (2, vI (nI i))] [] σ2 Q := by
        intro r'
        induction r' with
        | zero =>
          intro i σ2 m hi i1 kk mk ri hh
          have ei : i = V + 1 := hi
          subst ei
          refine a_sweep_58 _ _ ?_
          rw [h47' σ2 kk, lt_nI (by omega) (by omega), nI_1]
          refine ⟨fun _ => ih (t + 1) σ2 m (by omega) kk mk ri ?_, fun z => absurd (by omega) z⟩
          rcases hh with h | ⟨-, h⟩ | h
          · exact Or.inl h
          · exact Or.inl (fun x y x1 x2 y1 y2 hx ho hm => h x y x1 (by omega) x2 y1 y2 hx ho hm)
          · exact Or.inr h
        | succ r' ihi =>
          intro i σ2 m hi i1 kk mk ri hh
          have hn : 1 ≤ i ∧ i ≤ V := ⟨i1, by omega⟩
          obtain ⟨-, v0, v1, v49, v6, v4⟩ := dk.vst i hn.1 hn.2
          obtain ⟨mk1, mk2⟩ := mk i hn.1 hn.2
          have skip : (m i = 0 ∨ 4 ≤ st i) → A X 92 80 MX13_sweep 88 [(0, vR 92), (1, vI (nI t)), (2, vI (nI i))] [] σ2 Q := fun hz => by
            refine a_sweep_88 _ _ ?_
            rw [nI_1]
            refine ihi (i + 1) σ2 m (by omega) (by omega) kk mk ri (hh.imp id (fun h => h.imp (fun h => ⟨h.1, fun x y x1 xi x2 y1 y2 hx ho hm => ?_⟩) id))
            by_cases cx : x = i
            · rw [cx] at hx ho
              rcases hz with z | z
              · exact absurd z hx
              · exact absurd z ho
            · exact h.2 x y x1 (by omega) x2 y1 y2 hx ho hm
          refine a_sweep_58 _ _ ?_
          rw [h47' σ2 kk, lt_nI (by omega) (by omega), vpn (by omega), cl_nI (by omega), mk1, litI 0, eq_nI (by omega) (by omega)]
          refine ⟨fun z => by omega, fun _ => ⟨by omega, fun m0 => skip (Or.inl m0), fun m0 => ⟨0, by omega, ac_isOver (by omega) (by rw [kk.2 49 (by decide)]; exact v49) v6 (fun c4 => ⟨fun z => absurd z (by decide), fun _ => skip (Or.inr c4)⟩) (fun c4 => ⟨fun _ => ⟨3, by omega, ?_⟩, fun z => absurd rfl z⟩)⟩⟩⟩
          refine dk.rlook hn (by omega) kk mk (fun σ3 m3 kk3 mk3 tc nz => a_sweep_88 _ _ ?_)
          rw [nI_1]
          have up : ∀ x, 1 ≤ x → x ≤ V → m x ≠ 0 → m3 x ≠ 0 := fun x x1 x2 hx => tc.ne x1 x2 hx
          refine ihi (i + 1) σ3 m3 (by omega) (by omega) kk3 mk3 (ri.step hn m0 (by omega) tc) ?_
          have hno : ¬ Ovv st i := fun z => by have z : 4 ≤ st i := z; omega
          by_cases cn' : ∃ x, (1 ≤ x ∧ x ≤ V) ∧ m x = 0 ∧ m3 x ≠ 0
          · obtain ⟨x, hx, h0, h3⟩ := cn'
            have more := c1_more up hx h0 h3
            rcases hh with h | ⟨h, -⟩ | h
            · exfalso
              rcases tc x hx.1 hx.2 with e | ⟨-, e⟩
              · exact h3 (e.trans h0)
              · exact h i x hn.1 hn.2 hx.1 hx.2 m0 hno e h0
            · exact Or.inr (Or.inr (by omega))
            · exact Or.inr (Or.inr (by omega))
          · have same : ∀ x, 1 ≤ x → x ≤ V → m3 x ≠ 0 → m x ≠ 0 := fun x x1 x2 h3 h0 => cn' ⟨x, ⟨x1, x2⟩, h0, h3⟩
            have mono := c1_mono up
            rcases hh with h | ⟨h1, h2⟩ | h
            · exact Or.inl (fun x y x1 x2 y1 y2 hx ho hm => up y y1 y2 (h x y x1 x2 y1 y2 (same x x1 x2 hx) ho hm))
            · refine Or.inr (Or.inl ⟨by omega, fun x y x1 xi x2 y1 y2 hx ho hm => ?_⟩)
              by_cases cx : x = i
              · subst cx; exact nz y y1 y2 hm
              · exact up y y1 y2 (h2 x y x1 (by omega) x2 y1 y2 (same x x1 x2 hx) ho hm)
            · exact Or.inr (Or.inr (by omega))
      refine inner V 1 σ2 m (by omega) (Nat.le_refl _) kk mk ri (hh.imp id (fun h => Or.inl ⟨h, fun x y x1 xi => by omega⟩))
  -- those that the desk made
  have roots : ∀ r i σ2 (m : Nat → Nat), i + r = V + 1 → 1 ≤ i → Rk σ σ2 → (∀ x, 1 ≤ x → x < i → aI σ2 98 x = nI (m x) ∧ m x ≤ 1 ∧ (m x ≠ 0 ↔ Rtt σ x)) → A X 92 80 MX13_sweep 12 [(0, vR 92), (1, vI (nI i))] [] σ2 Q := by
    intro r
    induction r with
    | zero =>
      intro i σ2 m hi i1 kk hm
      have ei : i = V + 1 := hi
      subst ei
      refine a_sweep_12 _ ?_
      rw [h47' σ2 kk, lt_nI (by omega) (by omega)]
      refine ⟨fun _ => rounds V 0 σ2 m (by omega) kk (fun x x1 x2 => ⟨(hm x x1 (by omega)).1, (hm x x1 (by omega)).2.1⟩) ⟨fun x x1 x2 hr => (hm x x1 (by omega)).2.2.mpr hr, fun P p1 _ x x1 x2 hx => p1 x x1 x2 ((hm x x1 (by omega)).2.2.mp hx)⟩ (Or.inr (Nat.zero_le _)), fun z => absurd (by omega) z⟩
    | succ r ih =>
      intro i σ2 m hi i1 kk hm
      have fin : ∀ t, t ≤ 1 → (t ≠ 0 ↔ Rtt σ i) → ∀ t2 : Int32, t2 = nI t → A X 92 80 MX13_sweep 39 [(0, vR 92), (1, vI (nI i))] [vI t2, vI (nI i), vR (92 + 72)] σ2 Q := fun t ht he t2 ht2 => by
        refine a_sweep_39 _ _ _ ?_
        rw [vpn (by omega), cl_nI (by omega), nI_1, ht2]
        refine ⟨by omega, ?_, ?_⟩
        · have h2 : t = 0 ∨ t = 1 := by omega
          rcases h2 with rfl | rfl
          · exact Or.inl rfl
          · exact Or.inr rfl
        · rintro s3 rfl
          refine ih (i + 1) _ (un m i t) (by omega) (by omega) kk.set (fun x x1 x2 => ?_)
          by_cases cx : x = i
          · rw [cx, un_eq]; exact ⟨aI_eq, ht, he⟩
          · rw [un_ne cx, aI_ni cx]; exact hm x x1 (by omega)
      refine a_sweep_12 _ ?_
      rw [h47' σ2 kk, lt_nI (by omega) (by omega), vpn (by omega), cl_nI (by omega), kk.2 55 (by decide)]
      exact ⟨fun z => by omega, fun _ => ⟨by omega, fun c => fin 1 (by omega) ⟨fun _ => c, fun _ => by decide⟩ _ rfl, fun c => fin 0 (by omega) ⟨fun z => absurd rfl z, fun z => absurd z c⟩ _ rfl⟩⟩
  exact roots V 1 σ (fun _ => 0) (by omega) (Nat.le_refl _) Rk.refl (fun x x1 x2 => by omega)
end SWEEP
