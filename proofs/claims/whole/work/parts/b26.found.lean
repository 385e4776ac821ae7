/-! findReached -/
section FOUND
variable {X : Cx} {d e : Nat} {κ0 κ κ1 κ2 κ' : Km} {σ0 σ σ1 σ' : Rm} {b V al S T sp z LT HT F0 n k s p o j i x t : Nat} {st : Nat → Nat} {fr : Nat → List Frm} {pt : Nat → Nat} {w m m1 m2 : Nat → Nat} {y hi : Int32} {M : Nat → Prop} {R ov P : Nat → Prop} {MM : Nat → Nat → Prop}
/-- made by the desk -/
def Rtt (σ : Rm) (x : Nat) : Prop := aI σ 55 x = 0
def Ovv (st : Nat → Nat) (x : Nat) : Prop := 4 ≤ st x
def c2 (m : Nat → Nat) (V : Nat) : Nat := cn (fun x => if m x = 2 then 1 else 0) V
theorem c2_le : c2 m V ≤ V := cn_le (fun k => by split <;> omega) V
/-- the class's marks while it looks -/
def BI (σ : Rm) (V : Nat) (st : Nat → Nat) (fr : Nat → List Frm) (pt : Nat → Nat) (m : Nat → Nat) : Prop := Roo V (Rtt σ) m ∧ (∀ x y, 1 ≤ x → x ≤ V → 1 ≤ y → y ≤ V → m x = 2 → Mn σ st fr pt x y → m y ≠ 0) ∧ Leas V (Rtt σ) (Ovv st) (Mn σ st fr pt) m
def Dnn (V : Nat) (st m : Nat → Nat) : Prop := ∀ x, 1 ≤ x → x ≤ V → m x = 1 → 4 ≤ st x
theorem BI.step (h : BI σ V st fr pt m) (hn : 1 ≤ n ∧ n ≤ V) (h1 : m n = 1) (hs : st n < 4) (tc : Tch V (Mn σ st fr pt n) (un m n 2) m2) (nz : ∀ x, 1 ≤ x → x ≤ V → Mn σ st fr pt n x → m2 x ≠ 0) : BI σ V st fr pt m2 ∧ c2 m2 V = c2 m V + 1 := by
  obtain ⟨r, c, l⟩ := h
  have up : ∀ x, 1 ≤ x → x ≤ V → m x ≠ 0 → m2 x ≠ 0 := fun x x1 x2 hx => tc.ne x1 x2 (by
    by_cases cx : x = n
    · rw [cx, un_eq]; decide
    · rw [un_ne cx]; exact hx)
  have two : ∀ x, 1 ≤ x → x ≤ V → (m2 x = 2 ↔ un m n 2 x = 2) := fun x x1 x2 => by
    rcases tc x x1 x2 with e | ⟨e1, e2, -⟩
    · rw [e]
    · rw [e1, e2]; exact ⟨fun z => absurd z (by decide), fun z => absurd z (by decide)⟩
  refine ⟨⟨fun x x1 x2 hr => up x x1 x2 (r x x1 x2 hr), fun x y x1 x2 y1 y2 hx hm => ?_, fun P p1 p2 x x1 x2 hx => ?_⟩, ?_⟩
  · have hx2 := (two x x1 x2).mp hx
    by_cases cx : x = n
    · subst cx; exact nz y y1 y2 hm
    · rw [un_ne cx] at hx2
      exact up y y1 y2 (c x y x1 x2 y1 y2 hx2 hm)
  · have pn : P n := l P p1 p2 n hn.1 hn.2 (by rw [h1]; decide)
    rcases tc x x1 x2 with e | ⟨e1, e2, e3⟩
    · by_cases cx : x = n
      · rw [cx]; exact pn
      · rw [e, un_ne cx] at hx
        exact l P p1 p2 x x1 x2 hx
    · exact p2 n x hn.1 hn.2 x1 x2 pn (fun z => by have z : 4 ≤ st n := z; omega) e3
  · have e1 : c2 m2 V = c2 (un m n 2) V := cn_cg V (fun x x1 x2 => by
      by_cases cx : un m n 2 x = 2
      · rw [if_pos cx, if_pos ((two x x1 x2).mpr cx)]
      · rw [if_neg cx, if_neg (fun z => cx ((two x x1 x2).mp z))])
    have e2 := cn_up (g := fun x => if m x = 2 then 1 else 0) (g' := fun x => if un m n 2 x = 2 then 1 else 0) (n := n) (fun k hk => by rw [un_ne hk]) V hn.1 hn.2
    have e3 : (if m n = 2 then 1 else 0) = 0 := if_neg (by rw [h1]; decide)
    have e4 : (if un m n 2 n = 2 then 1 else 0) = 1 := if_pos un_eq
    rw [e3, e4] at e2
    rw [e1]
    exact e2
/-- the class's search -/
theorem Desk.found {F : Int32 → Km → Prop} (dk : Desk κ0 σ0 κ σ b V al S LT HT sp F0 z st fr pt w) (q : ∀ κ2 m2, Kk κ κ2 → Mk κ2 V m2 → BI σ V st fr pt m2 → Dnn V st m2 → F (nI V) κ2) : KC' X 4 MX6_findReached [vR 79] κ (kRI F) := by
  have hV60 : V ≤ 60 := dk.stg.2.2.2.2.2.2.2.1
  have hkV : V ≤ kV κ := dk.stg.2.2.2.2.2.2.2.2.1
  have h10 := dk.stg.1.1
  have h10' : ∀ κ2, Kk κ κ2 → kI κ2 79 10 = nI V := fun κ2 kk => by rw [kk.2.1 79 (by decide)]; exact h10
  have hH : ∀ κ2 n, Kk κ κ2 → 1 ≤ n → n ≤ V → isH κ2 (1002 + 8 * n) 10 := fun κ2 n k2 n1 n2 => isH_voice n1 (by rw [k2.kv]; omega)
  have mk4 : ∀ n, 1 ≤ n → n ≤ V → kI κ (1002 + 8 * n) 4 = aI σ 55 n := fun n n1 n2 => by
    obtain ⟨-, -, -, -, ⟨mk, -, e1, e2⟩, -⟩ := (dk.bn (x := 0)).1.2.2.1 n n1 n2
    rw [e1, e2]
  -- the rounds
  have rounds : ∀ r t x1 m κ2, t + r = 61 → Kk κ κ2 → Mk κ2 V m → BI σ V st fr pt m → ((x1 = 0 ∧ Dnn V st m) ∨ (x1 = 1 ∧ t ≤ c2 m V)) → K X 4 MX6_findReached 46 [(0, vR 79), (1, vI x1), (2, vI (nI t))] [] κ2 (kRI F) := by
    intro r
    induction r with
    | zero =>
      intro t x1 m κ2 ht kk mk bi hh
      have et : t = 61 := ht
      subst et
      rcases hh with ⟨rfl, dn⟩ | ⟨-, c⟩
      · refine k_6_findReached_46 _ _ ⟨fun _ => k_6_findReached_123 _ _ ⟨_, rfl, ?_⟩, fun z => absurd (by decide) z⟩
        rw [h10' κ2 kk]
        exact q κ2 m kk mk bi dn
      · have := c2_le (m := m) (V := V)
        omega
    | succ r ih =>
      intro t x1 m κ2 ht kk mk bi hh
      refine k_6_findReached_46 _ _ ?_
      rw [show ((60 : Int32)) = nI 60 from rfl, lt_nI (by omega) (by omega)]
      refine ⟨fun z => by omega, fun _ => ?_⟩
      rcases hh with ⟨rfl, dn⟩ | ⟨rfl, c⟩
      · refine ⟨fun _ => k_6_findReached_123 _ _ ⟨_, rfl, ?_⟩, fun z => absurd rfl z⟩
        rw [h10' κ2 kk]
        exact q κ2 m kk mk bi dn
      · refine ⟨fun z => absurd z (by decide), fun _ => ?_⟩
        have inner : ∀ r' i x1 m κ2, i + r' = V + 1 → 1 ≤ i → Kk κ κ2 → Mk κ2 V m → BI σ V st fr pt m → ((x1 = 0 ∧ (∀ x, 1 ≤ x → x < i → m x = 1 → 4 ≤ st x) ∧ t ≤ c2 m V) ∨ (x1 = 1 ∧ t + 1 ≤ c2 m V)) → K X 4 MX6_findReached 60 [(0, vR 79), (1, vI x1), (2, vI (nI t)), (3, vI (nI i))] [] κ2 (kRI F) := by
          intro r'
          induction r' with
          | zero =>
            intro i x1 m κ2 hi i1 kk mk bi hh
            have ei : i = V + 1 := hi
            subst ei
            refine k_6_findReached_60 _ _ _ ?_
            rw [h10' κ2 kk, lt_nI (by omega) (by omega), nI_1]
            refine ⟨fun _ => ih (t + 1) x1 m κ2 (by omega) kk mk bi (hh.imp (fun h => ⟨h.1, fun x x1 x2 => h.2.1 x x1 (by omega)⟩) id), fun z => absurd (by omega) z⟩
          | succ r' ihi =>
            intro i x1 m κ2 hi i1 kk mk bi hh
            have hn : 1 ≤ i ∧ i ≤ V := ⟨i1, by omega⟩
            obtain ⟨-, v0, v1, v49, v6, v4⟩ := dk.vst i hn.1 hn.2
            obtain ⟨mk1, mk2⟩ := mk i hn.1 hn.2
            have hHi := hH κ2 i kk hn.1 hn.2
            refine k_6_findReached_60 _ _ _ ?_
            rw [h10' κ2 kk, lt_nI (by omega) (by omega)]
            refine ⟨fun z => by omega, fun _ => ⟨0, by omega, kc_vfind (h10' κ2 kk) hV60 (by rw [kk.kv]; exact hkV) (fun n n1 n2 e => ?_) (fun hz => (vno_no hV60 hz i hn.1 hn.2 rfl).elim)⟩⟩
            have en : i = n := (nI_eq (by omega) (by omega)).mp e
            subst en
            refine ⟨Or.inr hHi.1, fun z => absurd z (by omega), fun _ => ⟨hHi, ?_⟩⟩
            rw [mk1, show ((1 : Int32)) = nI 1 from rfl, eq_nI (by omega) (by omega)]
            refine ⟨fun m1 => ⟨0, by omega, kc_isOver hHi (by rw [kk.2.2 i 1 (by decide)]; exact v1) v6 (fun c4 => ⟨fun z => absurd z (by decide), fun _ => k_6_findReached_111 _ _ _ _ ?_⟩) (fun c4 => ⟨fun _ => ?_, fun z => absurd rfl z⟩)⟩, fun m1 => k_6_findReached_111 _ _ _ _ ?_⟩
            · rw [show ((1 : Int32)) = nI 1 from rfl, nI_add]
              refine ihi (i + 1) x1 m κ2 (by omega) (by omega) kk mk bi (hh.imp (fun h => ⟨h.1, fun x x1 x2 hx => ?_, h.2.2⟩) id)
              by_cases cx : x = i
              · rw [cx]; exact c4
              · exact h.2.1 x x1 (by omega) hx
            · rintro κ19 rfl
              refine ⟨3, by omega, dk.look (m := un m i 2) hn (by omega) kk.set (mk.set (t := 2) (by omega)) (fun κ3 m3 kk3 mk3 tc nz => k_6_findReached_111 _ _ _ _ ?_)⟩
              obtain ⟨bi3, c3⟩ := bi.step hn m1 (by omega) tc nz
              rw [show ((1 : Int32)) = nI 1 from rfl, nI_add]
              refine ihi (i + 1) 1 m3 κ3 (by omega) (by omega) kk3 mk3 bi3 (Or.inr ⟨rfl, ?_⟩)
              rcases hh with h | h
              · have := h.2.2; omega
              · have := h.2; omega
            · rw [show ((1 : Int32)) = nI 1 from rfl, nI_add]
              refine ihi (i + 1) x1 m κ2 (by omega) (by omega) kk mk bi (hh.imp (fun h => ⟨h.1, fun x x1 x2 hx => ?_, h.2.2⟩) id)
              by_cases cx : x = i
              · rw [cx] at hx; exact absurd hx m1
              · exact h.2.1 x x1 (by omega) hx
        exact inner V 1 0 m κ2 (by omega) (Nat.le_refl _) kk mk bi (Or.inl ⟨rfl, fun x x1 x2 => by omega, c⟩)
  -- those that the desk made
  have roots : ∀ r i κ2, i + r = V + 1 → 1 ≤ i → Kk κ κ2 → (∀ x, 1 ≤ x → x < i → kI κ2 (1002 + 8 * x) 10 = nI (if aI σ 55 x = 0 then 1 else 0)) → K X 4 MX6_findReached 2 [(0, vR 79), (1, vI (nI i))] [] κ2 (kRI F) := by
    intro r
    induction r with
    | zero =>
      intro i κ2 hi i1 kk hm
      have ei : i = V + 1 := hi
      subst ei
      refine k_6_findReached_2 _ ?_
      rw [h10' κ2 kk, lt_nI (by omega) (by omega)]
      refine ⟨fun _ => rounds 61 0 1 (fun x => if aI σ 55 x = 0 then 1 else 0) κ2 rfl kk (fun x x1 x2 => ⟨hm x x1 (by omega), by
        show (if aI σ 55 x = 0 then 1 else 0) ≤ 2
        split <;> omega⟩) ⟨fun x _ _ hr => ?_, fun x y _ _ _ _ hx => ?_, fun P p1 p2 x x1 x2 hx => ?_⟩ (Or.inr ⟨rfl, Nat.zero_le _⟩), fun z => absurd (by omega) z⟩
      · have hr : aI σ 55 x = 0 := hr
        show (if aI σ 55 x = 0 then 1 else 0) ≠ 0
        rw [if_pos hr]; decide
      · have hx : (if aI σ 55 x = 0 then 1 else 0) = 2 := hx
        by_cases c : aI σ 55 x = 0
        · rw [if_pos c] at hx; exact absurd hx (by decide)
        · rw [if_neg c] at hx; exact absurd hx (by decide)
      · have hx : (if aI σ 55 x = 0 then 1 else 0) ≠ 0 := hx
        by_cases c : aI σ 55 x = 0
        · exact p1 x x1 x2 c
        · rw [if_neg c] at hx; exact absurd rfl hx
    | succ r ih =>
      intro i κ2 hi i1 kk hm
      have hn : 1 ≤ i ∧ i ≤ V := ⟨i1, by omega⟩
      have hHi := hH κ2 i kk hn.1 hn.2
      refine k_6_findReached_2 _ ?_
      rw [h10' κ2 kk, lt_nI (by omega) (by omega)]
      refine ⟨fun z => by omega, fun _ => ⟨0, by omega, kc_vfind (h10' κ2 kk) hV60 (by rw [kk.kv]; exact hkV) (fun n n1 n2 e => ?_) (fun hz => (vno_no hV60 hz i hn.1 hn.2 rfl).elim)⟩⟩
      have en : i = n := (nI_eq (by omega) (by omega)).mp e
      subst en
      have fin : ∀ t1 : Int32, t1 = nI (if aI σ 55 i = 0 then 1 else 0) → K X 4 MX6_findReached 33 [(0, vR 79), (1, vI (nI i)), (2, vR (1002 + 8 * i))] [vI t1, vR (1002 + 8 * i)] κ2 (kRI F) := fun t1 ht => by
        refine k_6_findReached_33 _ _ _ _ ⟨hHi, ?_⟩
        rintro κ3 rfl
        refine k_6_findReached_36 _ _ ?_
        rw [nI_1]
        refine ih (i + 1) _ (by omega) (by omega) kk.set (fun x x1 x2 => ?_)
        by_cases cx : x = i
        · rw [cx, kI_eq]; exact ht
        · rw [kI_o (Or.inl (by omega))]; exact hm x x1 (by omega)
      refine ⟨Or.inr hHi.1, fun z => absurd z (by omega), fun _ => ⟨hHi, ?_⟩⟩
      rw [kk.2.2 i 4 (by decide), mk4 i hn.1 hn.2]
      exact ⟨fun c => fin 1 (by rw [if_pos c]; rfl), fun c => fin 0 (by rw [if_neg c]; rfl)⟩
  exact KC_of_K rfl (Nat.le_of_ble_eq_true rfl) rfl (k_6_findReached_0 (roots V 1 κ (by omega) (Nat.le_refl _) Kk.refl (fun x x1 x2 => by omega)))
end FOUND
