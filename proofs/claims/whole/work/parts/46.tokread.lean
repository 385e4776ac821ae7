/-! the class reads its tape -/
def Tp (κ : Km) (n : Nat) : Prop := kI κ 65 1 = nI n ∧ kW κ 66 = 3000 ∧ n ≤ 3000 ∧ ∀ i, i8 (kI κ 66 i)
theorem Tp.kf {κ κ' : Km} {n : Nat} (h : Tp κ n) (f : KF hT κ κ') : Tp κ' n := by
  obtain ⟨f1, f2, f3⟩ := f
  have g := f1 65 (by decide)
  have g2 := f1 66 (by decide)
  unfold Tp
  rw [g.1, g2.1, g2.2.2]
  exact h
theorem lt1_64 {x : Int32} (h8 : i8 x) (h : bL x) : (((x - 97) + 1) : Int32).toInt64 = Int64.ofNat (lt1 x) ∧ 1 ≤ lt1 x ∧ lt1 x ≤ 26 :=
  i8_all (P := fun x => bL x → (((x - 97) + 1) : Int32).toInt64 = Int64.ofNat (lt1 x) ∧ 1 ≤ lt1 x ∧ lt1 x ≤ 26) (by unfold lt1; decide) h8 h
theorem of64_mul (a b c : Nat) : Int64.ofNat a * Int64.ofNat b + Int64.ofNat c = Int64.ofNat (a * b + c) := by
  rw [Int64.ofNat_add, Int64.ofNat_mul]
theorem pk_next {b : Nat} {s : Nat → Nat} {k : Nat} (h : k < 8) : pkN b s (k + 1) = b * pkN b s k + s k := by
  show (if k < 8 then _ else _) = _
  rw [if_pos h]
theorem pk_stop {b : Nat} {s : Nat → Nat} {k : Nat} (h : 8 ≤ k) : pkN b s (k + 1) = pkN b s k := by
  show (if k < 8 then _ else _) = _
  rw [if_neg (by omega)]
/-- the letters of the tape from a place on -/
abbrev ls (κ : Km) (p : Nat) : Nat → Nat := fun i => lt1 (kI κ 66 (p + i))
/-- a run of letters, or figures: from p up to e -/
def Run (P : Int32 → Prop) (κ : Km) (n p e : Nat) : Prop := p < e ∧ e ≤ n ∧ (∀ k, p ≤ k → k < e → P (kI κ 66 k)) ∧ (e < n → ¬ P (kI κ 66 e))
theorem rn_loop {X : Cx} {d : Nat} {κ : Km} {Q : Res → Km → Prop} {n p : Nat} (hd : 1 ≤ d) (ht : Tp κ n)
    (q : ∀ e, p ≤ e → e ≤ n → (∀ k, p ≤ k → k < e → bL (kI κ 66 k)) → (e < n → ¬ bL (kI κ 66 e)) → K X d MX9_readName 68 [(0, vR 72), (1, vI (nI p)), (2, vI (nI e)), (3, vL (Int64.ofNat (pkN 32 (ls κ p) (e - p))))] [] κ Q) :
    ∀ (m e : Nat), e + m = n → p ≤ e → (∀ k, p ≤ k → k < e → bL (kI κ 66 k)) → K X d MX9_readName 4 [(0, vR 72), (1, vI (nI p)), (2, vI (nI e)), (3, vL (Int64.ofNat (pkN 32 (ls κ p) (e - p))))] [] κ Q := by
  obtain ⟨t1, t2, t3, t4⟩ := ht
  intro m
  induction m with
  | zero =>
    intro e he hp hl
    refine k_9_readName_4 _ _ _ ⟨0, hd, kc_size ?_⟩
    rw [t1, le_nI (by omega) (by omega)]
    exact ⟨fun _ => q e hp (by omega) hl (by omega), fun z => absurd (by omega) z⟩
  | succ m ih =>
    intro e he hp hl
    refine k_9_readName_4 _ _ _ ⟨0, hd, kc_size ?_⟩
    rw [t1, le_nI (by omega) (by omega)]
    refine ⟨fun z => absurd z (by omega), fun _ => ⟨0, hd, kc_at t1 t2 t3 (by omega) ?_⟩⟩
    rw [if_pos (by omega)]
    refine ⟨0, hd, kc_isLetter (fun c => ⟨fun z => absurd z (by decide), fun _ => ?_⟩) (fun c => ⟨fun _ => q e hp (by omega) hl (fun _ z => c ((i8_L (t4 e)).1.mpr z)), fun z => absurd rfl z⟩)⟩
    have hb : bL (kI κ 66 e) := (i8_L (t4 e)).1.mp c
    rw [litI 8, nI_sb hp, le_nI (by omega) (by omega)]
    have st : ∀ k, p ≤ k → k < e + 1 → bL (kI κ 66 k) := fun k h1 h2 => by
      by_cases ce : k = e
      · rw [ce]; exact hb
      · exact hl k h1 (by omega)
    refine ⟨fun c8 => k_9_readName_61 _ _ _ _ ?_, fun c8 => ⟨0, hd, kc_at t1 t2 t3 (by omega) ?_⟩⟩
    · rw [nI_1, ← pk_stop (k := e - p) (by omega), show e - p + 1 = e + 1 - p by omega]
      exact ih (e + 1) (by omega) (by omega) st
    · rw [if_pos (by omega), (i8_L (t4 e)).2 hb, (lt1_64 (t4 e) hb).1]
      refine k_9_readName_61 _ _ _ _ ?_
      have e1 : Int64.ofNat (pkN 32 (ls κ p) (e - p)) * 32 + Int64.ofNat (lt1 (kI κ 66 e)) = Int64.ofNat (pkN 32 (ls κ p) (e + 1 - p)) := by
        rw [show e + 1 - p = (e - p) + 1 by omega, pk_next (by omega), Nat.mul_comm 32, ← of64_mul]
        show _ = _ * _ + Int64.ofNat (lt1 (kI κ 66 (p + (e - p))))
        rw [show p + (e - p) = e by omega]
        rfl
      rw [nI_1, e1]
      exact ih (e + 1) (by omega) (by omega) st
/-- which key a name is: 2 none, 200 + w the w-th -/
def kyK (κ : Km) (v : Int64) (c : Int32) : Prop := (c = 2 ∧ ∀ w, w < 23 → ¬ kL κ 73 w = v) ∨ ∃ w, w < 23 ∧ kL κ 73 w = v ∧ c = nI (200 + w)
theorem lg0 {a b : Int64} : (lg_cmp a b = 0) = (a = b) := propext (lg_cmp_eq a b)
theorem kon_loop {X : Cx} {d : Nat} {κ : Km} {F : Int32 → Km → Prop} {v : Int64} (hw : kW κ 73 = 23) (q : ∀ c, kyK κ v c → F c κ) :
    ∀ (m i : Nat), i + m = 23 → (∀ w, w < i → ¬ kL κ 73 w = v) → K X d MX9_kindOfName 2 [(0, vR 72), (1, vL v), (3, vI (nI i))] [] κ (kRI F) := by
  intro m
  induction m with
  | zero =>
    intro i hi hn
    refine k_9_kindOfName_2 _ _ ?_
    rw [litI 23, le_nI (by omega) (by omega)]
    exact ⟨fun _ => ⟨_, rfl, q _ (Or.inl ⟨rfl, fun w hw => hn w (by omega)⟩)⟩, fun z => absurd (by omega) z⟩
  | succ m ih =>
    intro i hi hn
    refine k_9_kindOfName_2 _ _ ?_
    rw [litI 23, le_nI (by omega) (by omega), hw, vpn (by omega), cl_nI (by omega), lg0]
    refine ⟨fun z => absurd z (by omega), fun _ => ⟨by omega, fun c => ⟨_, rfl, ?_⟩, fun c => ?_⟩⟩
    · rw [litI 200, nI_add]
      exact q _ (Or.inr ⟨i, by omega, c, rfl⟩)
    · rw [nI_1]
      refine ih (i + 1) (by omega) (fun w hw => ?_)
      by_cases e : w = i
      · rw [e]; exact c
      · exact hn w (by omega)
theorem kc_kindOfName {X : Cx} {κ : Km} {F : Int32 → Km → Prop} {v : Int64} (hw : kW κ 73 = 23) (q : ∀ c, kyK κ v c → F c κ) : KC' X 0 MX9_kindOfName [vR 72, vL v] κ (kRI F) :=
  KC_of_K rfl (Nat.le_of_ble_eq_true rfl) rfl (k_9_kindOfName_0 _ (kon_loop hw q 23 0 rfl (fun _ h => absurd h (Nat.not_lt_zero _))))
/-- a name's token: 5 too long -/
def nmT (κ : Km) (p e : Nat) (c : Int32) : Prop := (8 < e - p ∧ c = 5) ∨ (e - p ≤ 8 ∧ kyK κ (Int64.ofNat (pkN 32 (ls κ p) (e - p))) c)
theorem kc_readName {X : Cx} {κ : Km} {F : Int32 → Km → Prop} {n p m : Nat} (ht : Tp κ n) (hw : TW κ m) (h23 : kW κ 73 = 23) (hm : m ≤ 3001) (hp : p < n) (hb : bL (kI κ 66 p))
    (q : ∀ e c κ', Run bL κ n p e → nmT κ p e c → TA κ κ' m c (nI p) (Int64.ofNat (pkN 32 (ls κ p) (e - p))) → F (nI e) κ') : KC' X 3 MX9_readName [vR 72, vI (nI p)] κ (kRI F) := by
  have h3 := ht.2.2.1
  refine KC_of_K rfl (Nat.le_of_ble_eq_true rfl) rfl (k_9_readName_0 _ ?_)
  have e0 : (0 : Int64) = Int64.ofNat (pkN 32 (ls κ p) (p - p)) := by rw [Nat.sub_self]; rfl
  have main := rn_loop (X := X) (d := 3) (Q := kRI F) (by decide) ht (p := p) (fun e he hn hl hs => ?_) (n - p) p (by omega) (Nat.le_refl _) (fun k h1 h2 => absurd h1 (by omega))
  · rw [← e0] at main; exact main
  · have hpe : p < e := by
      by_cases c : e = p
      · exact absurd hb (by rw [← c]; exact hs (by omega))
      · omega
    refine k_9_readName_68 _ _ _ ?_
    rw [litI 8, nI_sb he, le_nI (by omega) (by omega)]
    refine ⟨fun c => ⟨0, by decide, kc_kindOfName h23 (fun ky hky => k_9_readName_86 _ _ _ _ ⟨2, by decide, kc_addT hw hm (fun κ' ta => ⟨_, rfl, q e ky κ' ⟨hpe, hn, hl, hs⟩ (Or.inr ⟨c, hky⟩) ta⟩)⟩)⟩, fun c => k_9_readName_86 _ _ _ _ ⟨2, by decide, kc_addT hw hm (fun κ' ta => ⟨_, rfl, q e 5 κ' ⟨hpe, hn, hl, hs⟩ (Or.inl ⟨by omega, rfl⟩) ta⟩)⟩⟩
/-! numbers -/
def fg (x : Int32) : Nat := (x - 48).toNatClampNeg
/-- the first 9 figures -/
def dgN (s : Nat → Nat) : Nat → Nat
  | 0 => 0
  | k + 1 => if k < 9 then 10 * dgN s k + s k else dgN s k
theorem dg_next {s : Nat → Nat} {k : Nat} (h : k < 9) : dgN s (k + 1) = 10 * dgN s k + s k := by
  show (if k < 9 then _ else _) = _
  rw [if_pos h]
theorem dg_stop {s : Nat → Nat} {k : Nat} (h : 9 ≤ k) : dgN s (k + 1) = dgN s k := by
  show (if k < 9 then _ else _) = _
  rw [if_neg (by omega)]
theorem dg_lt {s : Nat → Nat} : ∀ k, (∀ i, i < k → s i ≤ 9) → dgN s k < 10 ^ (min k 9) := by
  intro k
  induction k with
  | zero => intro _; exact Nat.one_pos
  | succ k ih =>
    intro h
    have ih' := ih (fun i hi => h i (by omega))
    by_cases c : k < 9
    · rw [dg_next c]
      rw [show min k 9 = k by omega] at ih'
      rw [show min (k + 1) 9 = k + 1 by omega, Nat.pow_succ]
      have h1 := h k (by omega)
      omega
    · rw [dg_stop (by omega)]
      rw [show min k 9 = 9 by omega] at ih'
      rw [show min (k + 1) 9 = 9 by omega]
      exact ih'
theorem dg_lt9 {s : Nat → Nat} {k : Nat} (h : ∀ i, i < k → s i ≤ 9) : dgN s k < 1000000000 := by
  have h1 := dg_lt k h
  have h2 : 10 ^ (min k 9) ≤ 10 ^ 9 := Nat.pow_le_pow_right (by decide) (by omega)
  have h3 : (10 : Nat) ^ 9 = 1000000000 := by decide
  omega
abbrev fs (κ : Km) (p : Nat) : Nat → Nat := fun i => fg (kI κ 66 (p + i))
theorem fg_64 {x : Int32} (h8 : i8 x) (h : bF x) : ((x - 48) : Int32).toInt64 = Int64.ofNat (fg x) ∧ x = nI (fg x + 48) ∧ fg x ≤ 9 :=
  i8_all (P := fun x => bF x → ((x - 48) : Int32).toInt64 = Int64.ofNat (fg x) ∧ x = nI (fg x + 48) ∧ fg x ≤ 9) (by unfold fg; decide) h8 h
theorem rd_loop {X : Cx} {d : Nat} {κ : Km} {Q : Res → Km → Prop} {n p : Nat} (hd : 1 ≤ d) (ht : Tp κ n)
    (q : ∀ e, p ≤ e → e ≤ n → (∀ k, p ≤ k → k < e → bF (kI κ 66 k)) → (e < n → ¬ bF (kI κ 66 e)) → K X d MX9_readNumber 66 [(0, vR 72), (1, vI (nI p)), (2, vI (nI e)), (3, vL (Int64.ofNat (dgN (fs κ p) (e - p))))] [] κ Q) :
    ∀ (m e : Nat), e + m = n → p ≤ e → (∀ k, p ≤ k → k < e → bF (kI κ 66 k)) → K X d MX9_readNumber 4 [(0, vR 72), (1, vI (nI p)), (2, vI (nI e)), (3, vL (Int64.ofNat (dgN (fs κ p) (e - p))))] [] κ Q := by
  obtain ⟨t1, t2, t3, t4⟩ := ht
  intro m
  induction m with
  | zero =>
    intro e he hp hl
    refine k_9_readNumber_4 _ _ _ ⟨0, hd, kc_size ?_⟩
    rw [t1, le_nI (by omega) (by omega)]
    exact ⟨fun _ => q e hp (by omega) hl (by omega), fun z => absurd (by omega) z⟩
  | succ m ih =>
    intro e he hp hl
    refine k_9_readNumber_4 _ _ _ ⟨0, hd, kc_size ?_⟩
    rw [t1, le_nI (by omega) (by omega)]
    refine ⟨fun z => absurd z (by omega), fun _ => ⟨0, hd, kc_at t1 t2 t3 (by omega) ?_⟩⟩
    rw [if_pos (by omega)]
    refine ⟨0, hd, kc_isFigure (fun c => ⟨fun z => absurd z (by decide), fun _ => ?_⟩) (fun c => ⟨fun _ => q e hp (by omega) hl (fun _ z => c ((i8_F (t4 e)).1.mpr z)), fun z => absurd rfl z⟩)⟩
    have hb : bF (kI κ 66 e) := (i8_F (t4 e)).1.mp c
    rw [litI 9, nI_sb hp, le_nI (by omega) (by omega)]
    have st : ∀ k, p ≤ k → k < e + 1 → bF (kI κ 66 k) := fun k h1 h2 => by
      by_cases ce : k = e
      · rw [ce]; exact hb
      · exact hl k h1 (by omega)
    refine ⟨fun c8 => k_9_readNumber_59 _ _ _ _ ?_, fun c8 => ⟨0, hd, kc_at t1 t2 t3 (by omega) ?_⟩⟩
    · rw [nI_1, ← dg_stop (k := e - p) (by omega), show e - p + 1 = e + 1 - p by omega]
      exact ih (e + 1) (by omega) (by omega) st
    · rw [if_pos (by omega), (i8_F (t4 e)).2 hb, (fg_64 (t4 e) hb).1]
      refine k_9_readNumber_59 _ _ _ _ ?_
      have e1 : Int64.ofNat (dgN (fs κ p) (e - p)) * 10 + Int64.ofNat (fg (kI κ 66 e)) = Int64.ofNat (dgN (fs κ p) (e + 1 - p)) := by
        rw [show e + 1 - p = (e - p) + 1 by omega, dg_next (by omega), Nat.mul_comm 10, ← of64_mul]
        show _ = _ * _ + Int64.ofNat (fg (kI κ 66 (p + (e - p))))
        rw [show p + (e - p) = e by omega]
        rfl
      rw [nI_1, e1]
      exact ih (e + 1) (by omega) (by omega) st
theorem kc_readNumber {X : Cx} {κ : Km} {F : Int32 → Km → Prop} {n p m : Nat} (ht : Tp κ n) (hw : TW κ m) (hm : m ≤ 3001) (hp : p < n) (hb : bF (kI κ 66 p))
    (q : ∀ e κ', Run bF κ n p e → TA κ κ' m (if 9 < e - p then 6 else 3) (nI p) (Int64.ofNat (dgN (fs κ p) (e - p))) → F (nI e) κ') : KC' X 3 MX9_readNumber [vR 72, vI (nI p)] κ (kRI F) := by
  have h3 := ht.2.2.1
  refine KC_of_K rfl (Nat.le_of_ble_eq_true rfl) rfl (k_9_readNumber_0 _ ?_)
  have e0 : (0 : Int64) = Int64.ofNat (dgN (fs κ p) (p - p)) := by rw [Nat.sub_self]; rfl
  have main := rd_loop (X := X) (d := 3) (Q := kRI F) (by decide) ht (p := p) (fun e he hn hl hs => ?_) (n - p) p (by omega) (Nat.le_refl _) (fun k h1 h2 => absurd h1 (by omega))
  · rw [← e0] at main; exact main
  · have hpe : p < e := by
      by_cases c : e = p
      · exact absurd hb (by rw [← c]; exact hs (by omega))
      · omega
    refine k_9_readNumber_66 _ _ _ ?_
    rw [litI 9, nI_sb he, le_nI (by omega) (by omega)]
    refine ⟨fun c => k_9_readNumber_81 _ _ _ _ ⟨2, by decide, kc_addT hw hm (fun κ' ta => ⟨_, rfl, q e κ' ⟨hpe, hn, hl, hs⟩ (by rw [if_neg (by omega)]; exact ta)⟩)⟩, fun c => k_9_readNumber_81 _ _ _ _ ⟨2, by decide, kc_addT hw hm (fun κ' ta => ⟨_, rfl, q e κ' ⟨hpe, hn, hl, hs⟩ (by rw [if_pos (by omega)]; exact ta)⟩)⟩⟩
/-- a sign: the token's kind and how many bytes -/
def sgT (κ : Km) (n p : Nat) (c : Int32) (k : Nat) : Prop := (kI κ 66 p = 61 ∧ p + 1 < n ∧ kI κ 66 (p + 1) = 61 ∧ c = 4 ∧ k = 2) ∨ (¬ (kI κ 66 p = 61 ∧ p + 1 < n ∧ kI κ 66 (p + 1) = 61) ∧ k = 1 ∧ ((bS (kI κ 66 p) ∧ c = kI κ 66 p) ∨ (¬ bS (kI κ 66 p) ∧ c = 1)))
theorem kc_readSign {X : Cx} {κ : Km} {F : Int32 → Km → Prop} {n p m : Nat} (ht : Tp κ n) (hw : TW κ m) (hm : m ≤ 3001) (hp : p < n)
    (q : ∀ c k κ', sgT κ n p c k → TA κ κ' m c (nI p) 0 → F (nI (p + k)) κ') : KC' X 5 MX9_readSign [vR 72, vI (nI p), vI (kI κ 66 p &&& 255)] κ (kRI F) := by
  obtain ⟨t1, t2, t3, t4⟩ := ht
  have t : ¬ (kI κ 66 p = 61 ∧ p + 1 < n ∧ kI κ 66 (p + 1) = 61) → K X 5 MX9_readSign 32 [(0, vR 72), (1, vI (nI p)), (2, vI (kI κ 66 p &&& 255))] [] κ (kRI F) := by
    intro hc
    obtain ⟨r1, r2, r3, r4⟩ := i8_rng (t4 p)
    refine k_9_readSign_32 _ _ ⟨4, by decide, ?_⟩
    rw [r3]
    refine kc_indexOf r1 r2 (fun y hy => ?_)
    rw [r4, bS_st] at hy
    refine ⟨fun c => k_9_readSign_48 _ _ _ ⟨2, by decide, kc_addT hw hm (fun κ' ta => ⟨_, rfl, ?_⟩)⟩, fun c => k_9_readSign_48 _ _ _ ⟨2, by decide, kc_addT hw hm (fun κ' ta => ⟨_, rfl, ?_⟩)⟩⟩
    · have hs := hy.mp c
      rw [i8_S (t4 p) hs] at ta
      rw [nI_1]
      exact q _ 1 κ' (Or.inr ⟨hc, rfl, Or.inl ⟨hs, rfl⟩⟩) ta
    · rw [nI_1]
      exact q _ 1 κ' (Or.inr ⟨hc, rfl, Or.inr ⟨fun z => c (hy.mpr z), rfl⟩⟩) ta
  refine KC_of_K rfl (Nat.le_of_ble_eq_true rfl) rfl (k_9_readSign_0 _ _ ?_)
  rw [i8_61 (t4 p)]
  refine ⟨fun c => ⟨0, by decide, ?_⟩, fun c => t (fun z => c z.1)⟩
  rw [nI_1]
  refine kc_at t1 t2 t3 (by omega) ?_
  by_cases c1 : p + 1 < n
  · rw [if_pos c1, i8_61 (t4 (p + 1))]
    refine ⟨fun c2 => ⟨2, by decide, kc_addT hw hm (fun κ' ta => ⟨_, rfl, ?_⟩)⟩, fun c2 => t (fun z => c2 z.2.2)⟩
    rw [litI 2, nI_add]
    exact q _ 2 κ' (Or.inl ⟨c, c1, c2, rfl, rfl⟩) ta
  · rw [if_neg c1]
    exact ⟨fun z => absurd z (by decide), fun _ => t (fun z => c1 z.2.1)⟩
