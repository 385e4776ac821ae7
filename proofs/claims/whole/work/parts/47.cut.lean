/-! the reference cuts its text -/
theorem AC_of_T {X : Cx} {b e : Nat} {σ : Rm} {Q : Res → Rm → Prop} {M' : MI} {as : List AV} {y : Int32} (h : ∀ T : Mem, C X e M' as T (RI fun x T' => x = y ∧ T' = T)) (q : Q (.inl (some (vI y))) σ) : AC X b e M' as σ Q := by
  refine ⟨_, σ, fun T hl hv => ?_, q⟩
  obtain ⟨r2, T2, cr, x, rfl, rfl, rfl⟩ := h T
  exact ⟨T2, cr, hv, Fr.refl⟩
theorem ac_length {X : Cx} {b r : Nat} {σ : Rm} {F : Int32 → Rm → Prop} (hr : 2 ≤ r ∧ r < 27) (q : F (nI (stN (r + 26))) σ) : AC X b 1 MJ0_length_8abf5 [vR r] σ (aRI F) :=
  AC_of_T (fun _ => c_length hr ⟨rfl, rfl⟩) ⟨_, rfl, q⟩
theorem ac_charAt {X : Cx} {b r i : Nat} {σ : Rm} {F : Int32 → Rm → Prop} (hr : 2 ≤ r ∧ r < 27) (hi : i < stN (r + 26)) (q : F (chB (stB (r + 26) i)) σ) : AC X b 3 MJ0_charAt_5068e [vR r, vI (nI i)] σ (aRI F) :=
  AC_of_T (fun _ => c_charAt hr hi ⟨rfl, rfl⟩) ⟨_, rfl, q⟩
/-- the letters of a key word -/
def kl (w : Nat) : Nat → Nat := fun i => lt1 (chB (stB (30 + w) i))
def kn (w : Nat) : Nat := stN (30 + w)
def kr (w : Nat) : Int64 := Int64.ofNat (pkN 27 (kl w) (kn w))
theorem kw_ok : ∀ w : Fin 23, kn w.1 ≤ 8 ∧ 1 ≤ kn w.1 ∧ kw w.1 = Int64.ofNat (pkN 32 (kl w.1) (kn w.1)) := by decide +kernel
theorem kl_ok : ∀ w : Fin 23, ∀ i : Fin 8, i.1 < kn w.1 → 1 ≤ kl w.1 i.1 ∧ kl w.1 i.1 ≤ 26 ∧ (((chB (stB (30 + w.1) i.1) - 97) + 1) : Int32).toInt64 = Int64.ofNat (kl w.1 i.1) := by decide +kernel
theorem kr_inj : ∀ w : Fin 23, ∀ u : Fin 23, kr w.1 = kr u.1 → w = u := by decide +kernel
theorem kw_nm {w : Nat} (h : w < 23) : NmR (kw w) (kr w) := by
  have h1 := kw_ok ⟨w, h⟩
  exact ⟨kl w, kn w, h1.2.1, h1.1, fun i hi => ⟨(kl_ok ⟨w, h⟩ ⟨i, Nat.lt_of_lt_of_le hi h1.1⟩ hi).1, (kl_ok ⟨w, h⟩ ⟨i, Nat.lt_of_lt_of_le hi h1.1⟩ hi).2.1⟩, h1.2.2, rfl⟩
theorem ko_loop {X : Cx} {b w : Nat} {σ : Rm} {F : Int64 → Rm → Prop} (hw : w < 23) (q : F (kr w) σ) : ∀ (m i : Nat), i + m = kn w → A X b 4 MX13_keyOf 5 [(0, vR b), (1, vR (4 + w)), (2, vL (Int64.ofNat (pkN 27 (kl w) i))), (4, vI (nI i))] [] σ (aRJ F) := by
  have h8 : kn w ≤ 8 := (kw_ok ⟨w, hw⟩).1
  have ek : stN (4 + w + 26) = kn w := by unfold kn; rw [show 4 + w + 26 = 30 + w by omega]
  intro m
  induction m with
  | zero =>
    intro i hi
    refine a_keyOf_5 _ _ _ ⟨by omega, 1, by decide, ac_length (by omega) ?_⟩
    rw [ek, le_nI (by omega) (by omega)]
    refine ⟨fun _ => ⟨_, rfl, ?_⟩, fun z => absurd (by omega) z⟩
    rw [show i = kn w by omega]; exact q
  | succ m ih =>
    intro i hi
    refine a_keyOf_5 _ _ _ ⟨by omega, 1, by decide, ac_length (by omega) ?_⟩
    rw [ek, le_nI (by omega) (by omega)]
    refine ⟨fun z => absurd z (by omega), fun _ => ⟨by omega, 3, by decide, ac_charAt (by omega) (by rw [ek]; omega) ?_⟩⟩
    have e1 := (kl_ok ⟨w, hw⟩ ⟨i, by omega⟩ (by show i < kn w; omega)).2.2
    rw [show 4 + w + 26 = 30 + w by omega, e1, nI_1]
    have e2 : 27 * Int64.ofNat (pkN 27 (kl w) i) + Int64.ofNat (kl w i) = Int64.ofNat (pkN 27 (kl w) (i + 1)) := by
      rw [pk_next (by omega), ← of64_mul]; rfl
    rw [e2]
    exact ih (i + 1) (by omega)
theorem ac_keyOf {X : Cx} {b w : Nat} {σ : Rm} {F : Int64 → Rm → Prop} (hw : w < 23) (q : F (kr w) σ) : AC X b 4 MX13_keyOf [vR b, vR (4 + w)] σ (aRJ F) :=
  AC_of_A rfl (Nat.le_of_ble_eq_true rfl) rfl (a_keyOf_0 _ (ko_loop hw q (kn w) 0 (Nat.zero_add _)))
theorem wk_loop {X : Cx} {b : Nat} {σ : Rm} {F : Int32 → Rm → Prop} {v : Int64} (q1 : (∃ w, w < 23 ∧ kr w = v) → F 1 σ) (q0 : (∀ w, w < 23 → ¬ kr w = v) → F 0 σ) : ∀ (m i : Nat), i + m = 23 → ((∀ w, w < i → ¬ kr w = v) → A X b 5 MX13_isWordKey 5 [(0, vR b), (1, vL v), (3, vI 0), (4, vI (nI i))] [] σ (aRI F)) ∧ ((∃ w, w < 23 ∧ kr w = v) → A X b 5 MX13_isWordKey 5 [(0, vR b), (1, vL v), (3, vI 1), (4, vI (nI i))] [] σ (aRI F)) := by
  intro m
  induction m with
  | zero =>
    intro i hi
    constructor
    · intro h
      refine a_isWordKey_5 _ _ _ ?_
      rw [le_nI (by omega) (by omega)]
      exact ⟨fun _ => ⟨Or.inl rfl, _, rfl, q0 (fun w hw => h w (by omega))⟩, fun z => absurd (by omega) z⟩
    · intro h
      refine a_isWordKey_5 _ _ _ ?_
      rw [le_nI (by omega) (by omega)]
      exact ⟨fun _ => ⟨Or.inr rfl, _, rfl, q1 h⟩, fun z => absurd (by omega) z⟩
  | succ m ih =>
    intro i hi
    obtain ⟨i0, i1⟩ := ih (i + 1) (by omega)
    constructor
    · intro h
      refine a_isWordKey_5 _ _ _ ?_
      rw [le_nI (by omega) (by omega), vpn (by omega), cl_nI (by omega)]
      refine ⟨fun z => absurd z (by omega), fun _ => ⟨fun _ => ⟨by omega, 4, by decide, ac_keyOf (by omega) ?_⟩, fun z => absurd rfl z⟩⟩
      rw [lg0]
      refine ⟨fun c => a_isWordKey_35 _ _ _ (a_isWordKey_40 _ _ _ _ ?_), fun c => a_isWordKey_40 _ _ _ _ ?_⟩
      · rw [nI_1]; exact i1 ⟨i, by omega, c⟩
      · rw [nI_1]
        refine i0 (fun w hw => ?_)
        by_cases e : w = i
        · rw [e]; exact c
        · exact h w (by omega)
    · intro h
      refine a_isWordKey_5 _ _ _ ?_
      rw [le_nI (by omega) (by omega), vpn (by omega), cl_nI (by omega)]
      refine ⟨fun z => absurd z (by omega), fun _ => ⟨fun z => absurd z (by decide), fun _ => a_isWordKey_35 _ _ _ (a_isWordKey_40 _ _ _ _ ?_)⟩⟩
      rw [nI_1]; exact i1 h
theorem ac_isWordKey {X : Cx} {b : Nat} {σ : Rm} {F : Int32 → Rm → Prop} {v : Int64} (q1 : (∃ w, w < 23 ∧ kr w = v) → F 1 σ) (q0 : (∀ w, w < 23 → ¬ kr w = v) → F 0 σ) : AC X b 5 MX13_isWordKey [vR b, vL v] σ (aRI F) :=
  AC_of_A rfl (Nat.le_of_ble_eq_true rfl) rfl (a_isWordKey_0 _ ((wk_loop q1 q0 23 0 rfl).1 (fun _ h => absurd h (Nat.not_lt_zero _))))
/-! one token of the reference -/
abbrev hR (k : Nat) : Prop := k = 5 ∨ k = 6 ∨ k = 7 ∨ k = 8 ∨ k = 9
/-- a token more: its sort, from, to; its number and key where they are told -/
def RA (σ σ' : Rm) (m : Nat) (s : Int32) (f t : Nat) : Prop := AF hR σ σ' ∧ (∀ k, k ≠ m → aI σ' 5 k = aI σ 5 k ∧ aI σ' 6 k = aI σ 6 k ∧ aI σ' 7 k = aI σ 7 k ∧ aI σ' 8 k = aI σ 8 k ∧ aL σ' 9 k = aL σ 9 k) ∧ aI σ' 5 m = s ∧ aI σ' 6 m = nI f ∧ aI σ' 7 m = nI t
abbrev CL (m p : Nat) : Lv := [(0, vR 92), (1, vI (nI m)), (2, vI (nI p)), (3, vI 1)]
theorem rl_loop {X : Cx} {d : Nat} {σ : Rm} {κ : Km} {Q : Res → Rm → Prop} {n p m : Nat} (hd : 2 ≤ d) (hn : n ≤ 3000) (hm : m < 3002) (h4 : sI σ 4 = nI n) (hf : aI σ 6 m = nI p) (ht : ∀ i, i < n → aI σ 3 i = kI κ 66 i) (h8 : ∀ i, i8 (kI κ 66 i)) {e : Nat} (hr : Run bL κ n p e) (x3 x4 : Int32)
    (q : A X 92 d MX13_cut 170 [(0, vR 92), (1, vI (nI m)), (2, vI (nI e)), (3, vI x3), (4, vI x4), (5, vL (Int64.ofNat (pkN 27 (ls κ p) (e - p))))] [] σ Q) :
    ∀ (r i : Nat), i + r = e → p ≤ i → A X 92 d MX13_cut 105 [(0, vR 92), (1, vI (nI m)), (2, vI (nI i)), (3, vI x3), (4, vI x4), (5, vL (Int64.ofNat (pkN 27 (ls κ p) (i - p))))] [] σ Q := by
  obtain ⟨r1, r2, r3, r4⟩ := hr
  intro r
  induction r with
  | zero =>
    intro i hi hp
    have e0 : i = e := by omega
    subst e0
    refine a_cut_105 _ _ _ _ _ ?_
    rw [h4, le_nI (by omega) (by omega)]
    refine ⟨fun _ => q, fun c => ?_⟩
    rw [vpn (by omega), cl_nI (by omega), ht i (by omega)]
    exact ⟨by omega, 1, by omega, ac_isLetter (fun z => absurd z (r4 (by omega))) (fun _ => ⟨fun _ => q, fun z => absurd rfl z⟩)⟩
  | succ r ih =>
    intro i hi hp
    refine a_cut_105 _ _ _ _ _ ?_
    rw [h4, le_nI (by omega) (by omega)]
    refine ⟨fun c => absurd c (by omega), fun _ => ?_⟩
    have hb := r3 i hp (by omega)
    rw [vpn (by omega), cl_nI (by omega), cl_nI (by omega), ht i (by omega)]
    refine ⟨by omega, 1, by omega, ac_isLetter (fun _ => ⟨fun z => absurd z (by decide), fun _ => ?_⟩) (fun z => absurd hb z)⟩
    rw [vpn (by omega), hf, litI 8, nI_sb hp, le_nI (by omega) (by omega), ht i (by omega)]
    refine ⟨by omega, fun c8 => a_cut_162 _ _ _ _ _ _ ?_, fun c8 => ⟨by omega, a_cut_162 _ _ _ _ _ _ ?_⟩⟩
    · rw [nI_1, ← pk_stop (k := i - p) (by omega), show i - p + 1 = i + 1 - p by omega]
      exact ih (i + 1) (by omega) (by omega)
    · have e1 : 27 * Int64.ofNat (pkN 27 (ls κ p) (i - p)) + Int64.ofNat (lt1 (kI κ 66 i)) = Int64.ofNat (pkN 27 (ls κ p) (i + 1 - p)) := by
        rw [show i + 1 - p = (i - p) + 1 by omega, pk_next (by omega), ← of64_mul]
        show _ = _ * _ + Int64.ofNat (lt1 (kI κ 66 (p + (i - p))))
        rw [show p + (i - p) = i by omega]
        rfl
      rw [(lt1_64 (h8 i) hb).1, nI_1, e1]
      exact ih (i + 1) (by omega) (by omega)
theorem rf_loop {X : Cx} {d : Nat} {σ : Rm} {κ : Km} {Q : Res → Rm → Prop} {n p m : Nat} (hd : 2 ≤ d) (hn : n ≤ 3000) (hm : m < 3002) (h4 : sI σ 4 = nI n) (hf : aI σ 6 m = nI p) (ht : ∀ i, i < n → aI σ 3 i = kI κ 66 i) (h8 : ∀ i, i8 (kI κ 66 i)) {e : Nat} (hr : Run bF κ n p e) (x3 x4 : Int32)
    (q : A X 92 d MX13_cut 286 [(0, vR 92), (1, vI (nI m)), (2, vI (nI e)), (3, vI x3), (4, vI x4), (5, vI (nI (dgN (fs κ p) (e - p))))] [] σ Q) :
    ∀ (r i : Nat), i + r = e → p ≤ i → A X 92 d MX13_cut 225 [(0, vR 92), (1, vI (nI m)), (2, vI (nI i)), (3, vI x3), (4, vI x4), (5, vI (nI (dgN (fs κ p) (i - p))))] [] σ Q := by
  obtain ⟨r1, r2, r3, r4⟩ := hr
  intro r
  induction r with
  | zero =>
    intro i hi hp
    have e0 : i = e := by omega
    subst e0
    refine a_cut_225 _ _ _ _ _ ?_
    rw [h4, le_nI (by omega) (by omega)]
    refine ⟨fun _ => q, fun c => ?_⟩
    rw [vpn (by omega), cl_nI (by omega), ht i (by omega)]
    exact ⟨by omega, 1, by omega, ac_isFigure (fun z => absurd z (r4 (by omega))) (fun _ => ⟨fun _ => q, fun z => absurd rfl z⟩)⟩
  | succ r ih =>
    intro i hi hp
    refine a_cut_225 _ _ _ _ _ ?_
    rw [h4, le_nI (by omega) (by omega)]
    refine ⟨fun c => absurd c (by omega), fun _ => ?_⟩
    have hb := r3 i hp (by omega)
    rw [vpn (by omega), cl_nI (by omega), cl_nI (by omega), ht i (by omega)]
    refine ⟨by omega, 1, by omega, ac_isFigure (fun _ => ⟨fun z => absurd z (by decide), fun _ => ?_⟩) (fun z => absurd hb z)⟩
    rw [vpn (by omega), hf, litI 9, nI_sb hp, le_nI (by omega) (by omega), ht i (by omega)]
    refine ⟨by omega, fun c8 => a_cut_278 _ _ _ _ _ _ ?_, fun c8 => ⟨by omega, a_cut_278 _ _ _ _ _ _ ?_⟩⟩
    · rw [nI_1, ← dg_stop (k := i - p) (by omega), show i - p + 1 = i + 1 - p by omega]
      exact ih (i + 1) (by omega) (by omega)
    · have e1 : 10 * nI (dgN (fs κ p) (i - p)) + kI κ 66 i - 48 = nI (dgN (fs κ p) (i + 1 - p)) := by
        rw [show i + 1 - p = (i - p) + 1 by omega, dg_next (by omega)]
        show _ = nI (_ + fg (kI κ 66 (p + (i - p))))
        rw [show p + (i - p) = i by omega]
        have g := (fg_64 (h8 i) hb).2.1
        generalize fg (kI κ 66 i) = y at g
        rw [g, litI 10, pk_mul, nI_add, litI 48, nI_sb (by omega)]
        congr 1
      rw [nI_1, e1]
      exact ih (i + 1) (by omega) (by omega)
