/-! misuse: the ring -/
section RINGS
variable {X : Cx} {d e er : Nat} {κ0 κ κa κb κc κ1 κ' : Km} {σ0 σ σa σc σ1 σ' : Rm} {b V al S T sp z LT HT F0 v p n x q g k op sc : Nat} {st : Nat → Nat} {fr fr' : Nat → List Frm} {pt : Nat → Nat} {fs r rr : List Frm} {ch cr l : List Nat} {w rz : Nat → Nat} {f f1 f' : Frm} {y u : Int32} {C : Km → Prop} {D P : Rm → Prop} {G : Rm → Prop}
/-- a way along the resumers, up to a -/
def Pth (σ : Rm) (a : Nat) : List Nat → Prop
  | [] => False
  | x :: r => (r = [] ∧ x = a) ∨ (r ≠ [] ∧ x ≠ a ∧ aI σ 54 x = nI (r.headD 0) ∧ Pth σ a r)
theorem Pth.ne {a : Nat} (h : Pth σ a l) : l ≠ [] := fun z => by rw [z] at h; exact h
theorem lnk_pth {a : Nat} : ∀ ch, Lnk σ ch → a ∈ ch → ∃ l, Pth σ a l ∧ l.headD 0 = ch.headD 0 ∧ l.length ≤ ch.length ∧ ∀ x, x ∈ l → x ∈ ch := by
  intro ch
  induction ch with
  | nil => intro _ h; exact absurd h List.not_mem_nil
  | cons x r ih =>
    intro h1 h2
    by_cases c : x = a
    · exact ⟨[x], Or.inl ⟨rfl, c⟩, rfl, Nat.succ_le_succ (Nat.zero_le _), fun y hy => by
        rw [List.mem_singleton.mp hy]
        exact List.mem_cons_self ..⟩
    · have h3 : a ∈ r := (List.mem_cons.mp h2).resolve_left (fun z => c z.symm)
      obtain ⟨l, l1, l2, l3, l4⟩ := ih h1.2 h3
      refine ⟨x :: l, Or.inr ⟨l1.ne, c, ?_, l1⟩, rfl, Nat.succ_le_succ l3, fun y hy => ?_⟩
      · rw [l2]; exact h1.1
      · rcases List.mem_cons.mp hy with e | hy
        · rw [e]; exact List.mem_cons_self ..
        · exact List.mem_cons_of_mem _ (l4 y hy)
/-- the class's ring, the reference's -/
def RgC (κ κ' : Km) (l : List Nat) : Prop := κ'.2 = κ.2 ∧ (∀ g, g ≠ 79 → g ≠ 91 → kI κ' g = kI κ g) ∧ (∀ k, k ≠ 9 → kI κ' 79 k = kI κ 79 k) ∧ kI κ' 79 9 = nI l.length ∧ ∀ k, k < l.length → kI κ' 91 k = nI (l.getD k 0)
def RgR (σ σ' : Rm) (l : List Nat) : Prop := AF (fun k => k = 86 ∨ k = 87) σ σ' ∧ sI σ' 87 = nI l.length ∧ ∀ k, k < l.length → aI σ' 86 k = nI (l.getD k 0)
theorem ring_loopK {F : Km → Prop} {a : Nat} (hd : 1 ≤ d) (hV : V ≤ 60) (ha : 1 ≤ a ∧ a ≤ V) (hv : 1 ≤ v ∧ v ≤ V) : ∀ (l : List Nat) (i : Nat) (κ : Km), Pth σ a l → i + l.length ≤ 12 → (∀ x, x ∈ l → (1 ≤ x ∧ x ≤ V) ∧ kI κ (1002 + 8 * x) 5 = aI σ 54 x ∧ kI κ (1002 + 8 * x) 0 = nI x) → kW κ 91 = 12 → kI κ 79 10 = nI V → V ≤ kV κ →
    (∀ κ', κ'.2 = κ.2 → (∀ g, g ≠ 79 → g ≠ 91 → kI κ' g = kI κ g) → (∀ k, k ≠ 9 → kI κ' 79 k = kI κ 79 k) → kI κ' 79 9 = nI (i + l.length) → (∀ k, k < i → kI κ' 91 k = kI κ 91 k) → (∀ k, k < l.length → kI κ' 91 (i + k) = nI (l.getD k 0)) → F κ') → K X d MX6_misuse 36 [(0, vR 79), (1, vR (1002 + 8 * v)), (2, vR (1002 + 8 * a)), (3, vR (1002 + 8 * (l.headD 0))), (4, vI (nI i))] [] κ (kRV F) := by
  intro l
  induction l with
  | nil => intro i κ h; exact absurd h id
  | cons x r ih =>
    intro i κ hp hl hx hw h10 hkV q
    have hl : i + (r.length + 1) ≤ 12 := hl
    obtain ⟨x1, x2, x3⟩ := hx x (List.mem_cons_self ..)
    have hH : ∀ n, 1 ≤ n ∧ n ≤ V → isH κ (1002 + 8 * n) 10 := fun n hn => isH_voice hn.1 (by omega)
    refine k_6_misuse_36 _ _ _ _ ?_
    rw [litI 12, le_nI (by omega) (by omega)]
    refine ⟨fun z => absurd z (by omega), fun _ => ⟨Or.inr (hH x x1).1, fun z => absurd z (by show ¬ (1002 + 8 * x = 0); omega), fun _ => ⟨hH x x1, by rw [hw, vpn (by omega)]; omega, ?_⟩⟩⟩
    show ∀ κ6 : Km, κ6 = cI κ 91 (nI i).toNatClampNeg (kI κ (1002 + 8 * x) 0) → _
    rw [x3, cl_nI (by omega), nI_1]
    rintro κ6 rfl κ7 rfl
    have eh : ∀ g, g ≠ 79 → g ≠ 91 → kI (cI (cI κ 91 i (nI x)) 79 9 (nI (i + 1))) g = kI κ g := fun g h1 h2 => by rw [kI_ne h1, kI_ne h2]
    have e79 : ∀ k, k ≠ 9 → kI (cI (cI κ 91 i (nI x)) 79 9 (nI (i + 1))) 79 k = kI κ 79 k := fun k hk => by rw [kI_nk hk, kI_ne (by decide)]
    have e91 : ∀ k, k ≠ i → kI (cI (cI κ 91 i (nI x)) 79 9 (nI (i + 1))) 91 k = kI κ 91 k := fun k hk => by rw [kI_ne (by decide), kI_nk hk]
    have e91' : kI (cI (cI κ 91 i (nI x)) 79 9 (nI (i + 1))) 91 i = nI x := by rw [kI_ne (by decide), kI_eq]
    have hH7 : ∀ n, 1 ≤ n ∧ n ≤ V → isH (cI (cI κ 91 i (nI x)) 79 9 (nI (i + 1))) (1002 + 8 * n) 10 := fun n hn => isH_voice hn.1 (show n ≤ kV κ by omega)
    refine ⟨Or.inr (hH7 a ha).1, ?_⟩
    rcases hp with ⟨rfl, rfl⟩ | ⟨hr, hxa, h54, hp⟩
    · -- the last
      refine ⟨fun _ => k_6_misuse_83 _ _ _ _ _ ?_, fun z => absurd rfl z⟩
      rw [nI_1]
      have fin : kRV F (.inl none) (cI (cI κ 91 i (nI x)) 79 9 (nI (i + 1))) := ⟨rfl, q _ rfl eh e79 kI_eq (fun k hk => e91 k (by omega)) (fun k hk => by
        have hk : k < 1 := hk
        have e : k = 0 := by omega
        subst e
        exact e91')⟩
      refine k_6_misuse_36 _ _ _ _ ⟨fun _ => k_6_misuse_90 _ _ _ _ fin, fun _ => ⟨Or.inl rfl, fun _ => k_6_misuse_90 _ _ _ _ fin, fun z => absurd rfl z⟩⟩
    · -- on to its resumer
      refine ⟨fun z => absurd (show 1002 + 8 * x = 1002 + 8 * a from z) (by omega), fun _ => ⟨hH7 v hv, hH7 a ha, 0, by omega, ?_⟩⟩
      show KC' X 0 MX6_find [vR 79, vI (kI (cI (cI κ 91 i (nI x)) 79 9 (nI (i + 1))) (1002 + 8 * x) 5)] _ _
      rw [eh _ (by omega) (by omega), x2, h54]
      cases r with
      | nil => exact absurd rfl hr
      | cons x' r' =>
        obtain ⟨y1, y2, y3⟩ := hx x' (List.mem_cons_of_mem _ (List.mem_cons_self ..))
        refine kc_vfind (V := V) (by rw [e79 10 (by decide)]; exact h10) hV hkV (fun n n1 n2 e => ?_) (fun z => ?_)
        · have e : x' = n := by
            have e : nI x' = nI n := e
            rw [eq_nI (by omega) (by omega)] at e; exact e
          subst e
          refine k_6_misuse_83 _ _ _ _ _ ?_
          rw [nI_1]
          refine ih (i + 1) _ hp (by have : (x' :: r').length = r'.length + 1 := rfl; omega) (fun z hz => ?_) hw (by rw [e79 10 (by decide)]; exact h10) hkV (fun κ' c1 c2 c3 c4 c5 c6 => q κ' (c1.trans rfl) (fun g h1 h2 => (c2 g h1 h2).trans (eh g h1 h2)) (fun k hk => (c3 k hk).trans (e79 k hk)) (by rw [c4]; congr 1; show i + 1 + (r'.length + 1) = i + (r'.length + 1 + 1); omega) (fun k hk => (c5 k (by omega)).trans (e91 k (by omega))) (fun k hk => ?_))
          · obtain ⟨w1, w2, w3⟩ := hx z (List.mem_cons_of_mem _ hz)
            rw [eh _ (by omega) (by omega)]
            exact ⟨w1, w2, w3⟩
          · cases k with
            | zero => rw [Nat.add_zero, c5 i (by omega)]; exact e91'
            | succ k =>
              have := c6 k (Nat.lt_of_succ_lt_succ hk)
              rw [show i + (k + 1) = i + 1 + k by omega]
              exact this
        · have z : nI x' < 1 ∨ nI V < nI x' := z
          rw [litI 1, lt_nI (by omega) (by omega), lt_nI (by omega) (by omega)] at z
          omega
theorem Pth.cg {a : Nat} : ∀ l, Pth σ a l → (∀ x, x ∈ l → aI σ' 54 x = aI σ 54 x) → Pth σ' a l := by
  intro l
  induction l with
  | nil => intro h _; exact h
  | cons x r ih =>
    intro h e
    refine h.imp id (fun ⟨h1, h2, h3, h4⟩ => ⟨h1, h2, (e x (List.mem_cons_self ..)).trans h3, ih h4 (fun y hy => e y (List.mem_cons_of_mem _ hy))⟩)
theorem ring_loopR {F : Rm → Prop} {a : Nat} (hV : V ≤ 60) (ha : a ≤ V) : ∀ (l : List Nat) (i : Nat) (σ : Rm), Pth σ a l → i + l.length ≤ 60 → (∀ x, x ∈ l → 1 ≤ x ∧ x ≤ V) → sI σ 87 = nI i →
    (∀ σ', AF (fun k => k = 86 ∨ k = 87) σ σ' → sI σ' 87 = nI (i + l.length) → (∀ k, k < i → aI σ' 86 k = aI σ 86 k) → (∀ k, k < l.length → aI σ' 86 (i + k) = nI (l.getD k 0)) → F σ') → A X 92 d MX13_ringOf 36 [(0, vR 92), (1, vI (nI v)), (2, vI (nI a)), (3, vI (nI (l.headD 0)))] [] σ (aRV F) := by
  intro l
  induction l with
  | nil => intro i σ h; exact absurd h id
  | cons x r ih =>
    intro i σ hp hl hx h87 q
    have hl : i + (r.length + 1) ≤ 60 := hl
    have x1 := hx x (List.mem_cons_self ..)
    refine a_ringOf_36 _ _ _ ?_
    show (nI x ≤ 0 → _) ∧ (¬ nI x ≤ 0 → _)
    rw [h87, litI 0, litI 64, le_nI (by omega) (by omega), le_nI (by omega) (by omega), cl_nI (show i < 2147483648 by omega)]
    refine ⟨fun z => absurd z (by omega), fun _ => ⟨fun z => absurd z (by omega), fun _ => ⟨by rw [vpn (by omega)]; omega, ?_⟩⟩⟩
    rintro s4 rfl s5 rfl
    have e87 : sI (wI σ 86 i (nI x)) 87 = nI i := by rw [sI_ne (by decide)]; exact h87
    show (nI x = nI a → A X 92 d MX13_ringOf 84 [(0, vR 92), (1, vI (nI v)), (2, vI (nI a)), (3, vI (nI x))] [vI (nI 0)] (wS (wI σ 86 i (nI x)) 87 (sI (wI σ 86 i (nI x)) 87 + 1)) (aRV F)) ∧ (¬ nI x = nI a → vp_in (nI x) 61 ∧ A X 92 d MX13_ringOf 84 [(0, vR 92), (1, vI (nI v)), (2, vI (nI a)), (3, vI (nI x))] [vI (aI (wS (wI σ 86 i (nI x)) 87 (sI (wI σ 86 i (nI x)) 87 + 1)) 54 (nI x).toNatClampNeg)] (wS (wI σ 86 i (nI x)) 87 (sI (wI σ 86 i (nI x)) 87 + 1)) (aRV F))
    rw [e87, nI_1, cl_nI (by omega)]
    have af : AF (fun k => k = 86 ∨ k = 87) σ (wS (wI σ 86 i (nI x)) 87 (nI (i + 1))) := fun k hk => ⟨by rw [aI_ne (by omega), aI_ne (by omega)], rfl⟩
    have e86 : ∀ k, k ≠ i → aI (wS (wI σ 86 i (nI x)) 87 (nI (i + 1))) 86 k = aI σ 86 k := fun k hk => by rw [aI_ne (by decide), aI_ni hk]
    have e86' : aI (wS (wI σ 86 i (nI x)) 87 (nI (i + 1))) 86 i = nI x := by rw [aI_ne (by decide), aI_eq]
    rcases hp with ⟨rfl, rfl⟩ | ⟨hr, hxa, h54, hp⟩
    · refine ⟨fun _ => a_ringOf_84 _ _ _ _ (a_ringOf_36 _ _ _ ⟨fun _ => a_ringOf_88 _ _ _ ⟨rfl, q _ af sI_eq (fun k hk => e86 k (by omega)) (fun k hk => ?_)⟩, fun z => absurd (by decide) z⟩), fun z => absurd rfl z⟩
      have hk : k < 1 := hk
      have e : k = 0 := by omega
      subst e
      exact e86'
    · refine ⟨fun z => absurd ((nI_eq (by omega) (by omega)).mp z) hxa, fun _ => ⟨by rw [vpn (by omega)]; omega, ?_⟩⟩
      rw [show aI (wS (wI σ 86 i (nI x)) 87 (nI (i + 1))) 54 x = aI σ 54 x by rw [aI_ne (by decide), aI_ne (by decide)], h54]
      refine a_ringOf_84 _ _ _ _ ?_
      refine ih (i + 1) _ (hp.cg _ (fun z hz => by rw [aI_ne (by decide), aI_ne (by decide)])) (by omega) (fun z hz => hx z (List.mem_cons_of_mem _ hz)) sI_eq (fun σ' c1 c2 c3 c4 => q σ' (fun k hk => ⟨(c1 k hk).1.trans (af k hk).1, (c1 k hk).2.trans (af k hk).2⟩) (by rw [c2]; congr 1; show i + 1 + r.length = i + (r.length + 1); omega) (fun k hk => (c3 k (by omega)).trans (e86 k (by omega))) (fun k hk => ?_))
      cases k with
      | zero => rw [Nat.add_zero, c3 i (by omega)]; exact e86'
      | succ k =>
        have := c4 k (Nat.lt_of_succ_lt_succ hk)
        rw [show i + (k + 1) = i + 1 + k by omega]
        exact this
end RINGS
