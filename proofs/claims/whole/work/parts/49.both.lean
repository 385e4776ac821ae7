/-! the whole tape, both -/
abbrev RtL (p i : Nat) : Lv := [(0, vR 72), (1, vI (nI p)), (2, vI (nI i))]
theorem rt_end {X : Cx} {d : Nat} {κ : Km} {Q : Res → Km → Prop} {n i : Nat} (hd : 1 ≤ d) (ht : Tp κ n) (hi : i ≤ 3000) (q : K X d MX9_readTape 99 (RtL n i) [] κ Q) : K X d MX9_readTape 9 (RtL n i) [] κ Q := by
  have h3 := ht.2.2.1
  refine k_9_readTape_9 _ _ ?_
  rw [litI 3000, le_nI (by omega) (by omega)]
  refine ⟨fun _ => q, fun _ => ⟨0, hd, kc_size ?_⟩⟩
  rw [ht.1, le_nI (by omega) (by omega)]
  exact ⟨fun _ => q, fun z => absurd (Nat.le_refl _) z⟩
theorem rt_step {X : Cx} {d : Nat} {κ : Km} {Q : Res → Km → Prop} {n p i m : Nat} (hd : 6 ≤ d) (ht : Tp κ n) (hw : TW κ m) (h23 : kW κ 73 = 23) (hm : m ≤ 3001) (hp : p < n) (hi : i ≤ p)
    (qb : kI κ 66 p = 32 ∨ kI κ 66 p = 10 → K X d MX9_readTape 9 (RtL (p + 1) (i + 1)) [] κ Q)
    (qn : ∀ e c κ', Run bL κ n p e → nmT κ p e c → TA κ κ' m c (nI p) (Int64.ofNat (pkN 32 (ls κ p) (e - p))) → K X d MX9_readTape 9 (RtL e (i + 1)) [] κ' Q)
    (qf : ∀ e κ', Run bF κ n p e → TA κ κ' m (if 9 < e - p then 6 else 3) (nI p) (Int64.ofNat (dgN (fs κ p) (e - p))) → K X d MX9_readTape 9 (RtL e (i + 1)) [] κ' Q)
    (qs : ∀ c k κ', ¬ kI κ 66 p = 32 → ¬ kI κ 66 p = 10 → ¬ bL (kI κ 66 p) → ¬ bF (kI κ 66 p) → sgT κ n p c k → TA κ κ' m c (nI p) 0 → K X d MX9_readTape 9 (RtL (p + k) (i + 1)) [] κ' Q) : K X d MX9_readTape 9 (RtL p i) [] κ Q := by
  have h3 := ht.2.2.1
  have t4 := ht.2.2.2
  refine k_9_readTape_9 _ _ ?_
  rw [litI 3000, le_nI (by omega) (by omega)]
  refine ⟨fun z => absurd z (by omega), fun _ => ⟨0, by omega, kc_size ?_⟩⟩
  rw [ht.1, le_nI (by omega) (by omega)]
  refine ⟨fun z => absurd z (by omega), fun _ => ⟨0, by omega, kc_at ht.1 ht.2.1 h3 (by omega) ?_⟩⟩
  rw [if_pos hp, i8_32 (t4 p), i8_10 (t4 p)]
  refine ⟨fun c => k_9_readTape_48 _ _ _ (k_9_readTape_93 _ _ _ (by rw [nI_1, nI_1]; exact qb (Or.inl c))), fun c1 => ⟨fun c => k_9_readTape_48 _ _ _ (k_9_readTape_93 _ _ _ (by rw [nI_1, nI_1]; exact qb (Or.inr c))), fun c2 => ⟨0, by omega, kc_isLetter (fun c => ⟨fun z => absurd z (by decide), fun _ => ⟨3, by omega, kc_readName ht hw h23 hm hp ((i8_L (t4 p)).1.mp c) (fun e ck κ' r nm ta => k_9_readTape_93 _ _ _ (by rw [nI_1]; exact qn e ck κ' r nm ta))⟩⟩) (fun c3 => ⟨fun _ => ⟨0, by omega, kc_isFigure (fun c => ⟨fun z => absurd z (by decide), fun _ => ⟨3, by omega, kc_readNumber ht hw hm hp ((i8_F (t4 p)).1.mp c) (fun e κ' r ta => k_9_readTape_93 _ _ _ (by rw [nI_1]; exact qf e κ' r ta))⟩⟩) (fun c4 => ⟨fun _ => ⟨5, by omega, kc_readSign ht hw hm hp (fun ck k κ' sg ta => k_9_readTape_93 _ _ _ (by rw [nI_1]; exact qs ck k κ' c1 c2 (fun z => c3 ((i8_L (t4 p)).1.mpr z)) (fun z => c4 ((i8_F (t4 p)).1.mpr z)) sg ta))⟩, fun z => absurd rfl z⟩)⟩, fun z => absurd rfl z⟩)⟩⟩⟩
theorem sgT.k {κ : Km} {n p k : Nat} {c : Int32} (h : sgT κ n p c k) (hp : p < n) : 1 ≤ k ∧ p + k ≤ n := by
  rcases h with ⟨a1, a2, a3, a4, a5⟩ | ⟨a1, a2, a3⟩ <;> omega
theorem rt_rest {X : Cx} {d : Nat} {Q : Res → Km → Prop} {n : Nat} (hd : 6 ≤ d) : ∀ (g : Nat) (κ : Km) (p i m : Nat), n - p ≤ g → p ≤ n → i ≤ p → m ≤ p → Tp κ n → TW κ m → kW κ 73 = 23 → (∀ κ' i' m', i' ≤ n → TK κ κ' m → TW κ' m' → m ≤ m' → m' ≤ n → K X d MX9_readTape 99 (RtL n i') [] κ' Q) → K X d MX9_readTape 9 (RtL p i) [] κ Q := by
  intro g
  induction g with
  | zero =>
    intro κ p i m hg hp hi hm ht hw h23 q
    have h3 := ht.2.2.1
    have e : p = n := by omega
    subst e
    exact rt_end (by omega) ht (by omega) (q κ i m (by omega) TK.refl hw (Nat.le_refl _) hm)
  | succ g ih =>
    intro κ p i m hg hp hi hm ht hw h23 q
    have h3 := ht.2.2.1
    by_cases c : p = n
    · subst c
      exact rt_end (by omega) ht (by omega) (q κ i m (by omega) TK.refl hw (Nat.le_refl _) hm)
    have nx : ∀ κ' e, p < e → e ≤ n → TK κ κ' m → TW κ' (m + 1) → K X d MX9_readTape 9 (RtL e (i + 1)) [] κ' Q := fun κ' e h1 h2 tk tw => by
      refine ih κ' e (i + 1) (m + 1) (by omega) h2 (by omega) (by omega) (ht.kf tk.2.1) tw ?_ (fun κ2 i2 m2 hi2 tk2 tw2 hm2 hm3 => q κ2 i2 m2 hi2 (tk.trans ⟨fun j hj => tk2.1 j (by omega), tk2.2⟩) tw2 (by omega) hm3)
      rw [(tk.2.1.1 73 (by decide)).2.2]; exact h23
    refine rt_step hd ht hw h23 (by omega) (by omega) hi (fun _ => ih κ (p + 1) (i + 1) m (by omega) (by omega) (by omega) (by omega) ht hw h23 q) (fun e ck κ' r _ ta => nx κ' e r.1 r.2.1 (ta.tk (Nat.le_refl _)) ta.1) (fun e κ' r ta => nx κ' e r.1 r.2.1 (ta.tk (Nat.le_refl _)) ta.1) (fun ck k κ' _ _ _ _ sg ta => ?_)
    have := sg.k (by omega)
    exact nx κ' (p + k) (by omega) (by omega) (ta.tk (Nat.le_refl _)) ta.1
/-- the class's keys -/
def Ky (κ : Km) : Prop := kW κ 73 = 23 ∧ ∀ w, w < 23 → kL κ 73 w = kw w
theorem Ky.kf {κ κ' : Km} (h : Ky κ) (f : KF hT κ κ') : Ky κ' := by
  have g := f.1 73 (by decide)
  unfold Ky
  rw [g.2.1, g.2.2]
  exact h
theorem nm_ls {κ : Km} {n p e : Nat} (h8 : ∀ i, i8 (kI κ 66 i)) (hr : Run bL κ n p e) (he : e - p ≤ 8) : NmR (Int64.ofNat (pkN 32 (ls κ p) (e - p))) (Int64.ofNat (pkN 27 (ls κ p) (e - p))) :=
  ⟨ls κ p, e - p, by have := hr.1; omega, he, fun i hi => (lt1_64 (h8 (p + i)) (hr.2.2.1 (p + i) (by omega) (by omega))).2, rfl, rfl⟩
/-- a key's number -/
theorem nI_ne {a b : Nat} (ha : a < 2147483648) (hb : b < 2147483648) (h : a ≠ b) : nI a ≠ nI b := fun e => h ((nI_eq ha hb).mp e)
theorem bS_ne {x : Int32} (h : bS x) : x ≠ 0 ∧ x ≠ 1 := by
  unfold bS at h
  rcases h with h | h | h | h | h | h | h | h | h | h | h | h | h | h <;> subst h <;> decide
/-- the two machines may run in any order -/
theorem swp {X : Cx} {d b e : Nat} {M M' : MI} {pc pc' : Nat} {lv lv' : Lv} {st st' : List AV} {κ : Km} {σ : Rm} {G : Km → Rm → Prop} : A X b e M' pc' lv' st' σ (aRV fun σ2 => K X d M pc lv st κ (kRV fun κ2 => G κ2 σ2)) ↔ K X d M pc lv st κ (kRV fun κ2 => A X b e M' pc' lv' st' σ (aRV fun σ2 => G κ2 σ2)) := by
  constructor
  · rintro ⟨r, s, h1, h2, r', k, h3, h4, h5⟩
    exact ⟨r', k, h3, h4, r, s, h1, h2, h5⟩
  · rintro ⟨r', k, h3, h4, r, s, h1, h2, h5⟩
    exact ⟨r, s, h1, h2, r', k, h3, h4, h5⟩
/-- the whole reading up to the end of the tape, both -/
theorem rt_both {X : Cx} {d e : Nat} {G : Km → Rm → Prop} {n : Nat} (hd : 6 ≤ d) (he : 6 ≤ e) (hn : n ≤ 3000) : ∀ (g : Nat) (κ : Km) (σ : Rm) (p i m : Nat), n - p ≤ g → p ≤ n → i ≤ p → m ≤ p → Tp κ n → TW κ m → Ky κ → Tx κ σ n → TkM κ σ m → PlM κ m p → (∀ κ' σ' i' m' N, i' ≤ n → TK κ κ' m → AF hR σ σ' → TW κ' m' → m' ≤ n → N ≤ m' → TkM κ' σ' N → ((N = m' ∧ aI σ' 5 N = 6 ∧ aI σ' 6 N = nI n ∧ aI σ' 7 N = nI n ∧ PlM κ' N n) ∨ (N < m' ∧ TkR κ' σ' N ∧ kI κ' 74 N = 1 ∧ PlM κ' (N + 1) 3001)) → K X d MX9_readTape 99 (RtL n i') [] κ' (kRV fun κ2 => G κ2 σ')) → K X d MX9_readTape 9 (RtL p i) [] κ (kRV fun κ2 => A X 92 e MX13_cut 10 (CL m p) [] σ (aRV fun σ2 => G κ2 σ2)) := by
  have base : ∀ (κ : Km) (σ : Rm) (i m : Nat), i ≤ n → m ≤ n → Tp κ n → TW κ m → Tx κ σ n → TkM κ σ m → PlM κ m n → (∀ κ' σ' i' m' N, i' ≤ n → TK κ κ' m → AF hR σ σ' → TW κ' m' → m' ≤ n → N ≤ m' → TkM κ' σ' N → ((N = m' ∧ aI σ' 5 N = 6 ∧ aI σ' 6 N = nI n ∧ aI σ' 7 N = nI n ∧ PlM κ' N n) ∨ (N < m' ∧ TkR κ' σ' N ∧ kI κ' 74 N = 1 ∧ PlM κ' (N + 1) 3001)) → K X d MX9_readTape 99 (RtL n i') [] κ' (kRV fun κ2 => G κ2 σ')) → K X d MX9_readTape 9 (RtL n i) [] κ (kRV fun κ2 => A X 92 e MX13_cut 10 (CL m n) [] σ (aRV fun σ2 => G κ2 σ2)) := by
    intro κ σ i m hi hm ht hw hx hk hpl q
    obtain ⟨σ', hσ⟩ : ∃ σ', RA σ σ' m 6 n n ∧ ∀ Q : Res → Rm → Prop, Q (.inl none) σ' → A X 92 e MX13_cut 10 (CL m n) [] σ Q := by
      obtain ⟨r, s, ae, ra⟩ := ar_end (X := X) (d := e) (Q := fun r s => r = .inl none ∧ RA σ s m 6 n n) hx hn (by omega) (fun σ' h => ⟨rfl, h⟩)
      obtain ⟨rfl, ra⟩ := ra
      exact ⟨s, ra, fun Q h => ⟨_, s, ae, h⟩⟩
    refine rt_end (by omega) ht (by omega) ?_
    refine (q κ σ' i m m hi TK.refl hσ.1.1 hw hm (Nat.le_refl _) (fun k hk' => ?_) (Or.inl ⟨rfl, hσ.1.2.2.1, hσ.1.2.2.2.1, hσ.1.2.2.2.2, hpl⟩)).mono ?_
    · obtain ⟨a1, a2, a3⟩ := hk k hk'
      exact ⟨a1.cong ⟨rfl, rfl, rfl⟩ (hσ.1.2.1 k (by omega)), a2, a3⟩
    · rintro r s ⟨rfl, hG⟩
      exact ⟨rfl, hσ.2 _ ⟨rfl, hG⟩⟩
  intro g
  induction g with
  | zero =>
    intro κ σ p i m hg hp hi hm ht hw hy hx hk hpl q
    have e0 : p = n := by omega
    subst e0
    exact base κ σ i m hi hm ht hw hx hk hpl q
  | succ g ih =>
    intro κ σ p i m hg hp hi hm ht hw hy hx hk hpl q
    by_cases c : p = n
    · subst c
      exact base κ σ i m hi hm ht hw hx hk hpl q
    have h8 := ht.2.2.2
    have nx : ∀ κ' σ' e', p < e' → e' ≤ n → TK κ κ' m → AF hR σ σ' → TW κ' (m + 1) → TkM κ' σ' (m + 1) → PlM κ' (m + 1) e' → K X d MX9_readTape 9 (RtL e' (i + 1)) [] κ' (kRV fun κ2 => A X 92 e MX13_cut 10 (CL (m + 1) e') [] σ' (aRV fun σ2 => G κ2 σ2)) := fun κ' σ' e' h1 h2 tk af tw tm pm => by
      refine ih κ' σ' e' (i + 1) (m + 1) (by omega) h2 (by omega) (by omega) (ht.kf tk.2.1) tw (hy.kf tk.2.1) (hx.fr tk.2.1 af) tm pm ?_
      intro κ2 σ2 i2 m2 N hi2 tk2 af2 tw2 hm2 hN tm2 hc
      exact q κ2 σ2 i2 m2 N hi2 (tk.trans ⟨fun j hj => tk2.1 j (by omega), tk2.2⟩) (af.trans af2) tw2 hm2 hN tm2 hc
    refine rt_step hd ht hw hy.1 (by omega) (by omega) hi ?_ ?_ ?_ ?_
    · intro hb
      refine (ih κ σ (p + 1) (i + 1) m (by omega) (by omega) (by omega) (by omega) ht hw hy hx hk (hpl.le (by omega)) q).mono ?_
      rintro r s ⟨rfl, hA⟩
      exact ⟨rfl, ar_blank hx hn (by omega) hb hA⟩
    · intro e' ck κ' hr hnm ta
      refine swp.mp (ar_name he hx ht (by omega) hr (fun σ' s ra hk9 hs => swp.mpr ?_))
      have h1 := hr.1
      have h2 := hr.2.1
      have tk : TkR κ' σ' m ∧ ck ≠ 0 ∧ ck ≠ 1 := by
        have nm := nm_ls h8 hr
        have ky : ∀ w, w < 23 → e' - p ≤ 8 → (kL κ 73 w = Int64.ofNat (pkN 32 (ls κ p) (e' - p)) ↔ kr w = Int64.ofNat (pkN 27 (ls κ p) (e' - p))) := fun w hw h => by
          rw [hy.2 w hw]; exact (kw_nm hw).iff (nm h)
        have core : Tkk ck (Int64.ofNat (pkN 32 (ls κ p) (e' - p))) s (aI σ' 8 m) (Int64.ofNat (pkN 27 (ls κ p) (e' - p))) (e' - p) ∧ ck ≠ 0 ∧ ck ≠ 1 := by
          rcases hnm with ⟨a1, a2⟩ | ⟨a1, a2⟩
          · rcases hs with ⟨b1, b2⟩ | ⟨b1, b2, b3⟩
            · exact ⟨Or.inr (Or.inl ⟨a2, b1, a1⟩), by rw [a2]; decide, by rw [a2]; decide⟩
            · omega
          · rcases a2 with ⟨a2, a3⟩ | ⟨w, a2, a3, a4⟩
            · rcases hs with ⟨b1, b2⟩ | ⟨b1, b2, w, b3, b4⟩
              · exact ⟨Or.inl ⟨a2, b1, a1, nm a1⟩, by rw [a2]; decide, by rw [a2]; decide⟩
              · exact absurd ((ky w b3 a1).mpr b4) (a3 w b3)
            · rcases hs with ⟨b1, b2⟩ | ⟨b1, b2, w', b3, b4⟩
              · rcases b2 with b2 | b2
                · omega
                · exact absurd ((ky w a2 a1).mp a3) (b2 w a2)
              · exact ⟨Or.inr (Or.inr (Or.inl ⟨w, a2, a4, b1, ((ky w a2 a1).mp a3).symm⟩)), by rw [a4]; exact nI_ne (b := 0) (by omega) (by omega) (by omega), by rw [a4]; exact nI_ne (b := 1) (by omega) (by omega) (by omega)⟩
        refine ⟨⟨p, e', ta.2.2.2.1, ra.2.2.2.1, ra.2.2.2.2, hm, by omega, by omega, Or.inr (by omega), ?_⟩, core.2⟩
        rw [ta.2.2.1, ta.2.2.2.2.1, ra.2.2.1, hk9]
        exact core.1
      exact nx κ' σ' e' h1 h2 (ta.tk (Nat.le_refl _)) ra.1 ta.1 (hk.more ta ra tk.1 tk.2.1 tk.2.2) (hpl.more (fun k hk => (ta.2.1 k hk).2.1) ta.2.2.2.1 h1)
    · intro e' κ' hr ta
      refine swp.mp (ar_number he hx ht (by omega) hr (fun σ' ra h8m => swp.mpr ?_))
      have h1 := hr.1
      have h2 := hr.2.1
      have ne : (if 9 < e' - p then (6 : Int32) else 3) ≠ 0 ∧ (if 9 < e' - p then (6 : Int32) else 3) ≠ 1 := by
        by_cases c9 : 9 < e' - p
        · rw [if_pos c9]; decide
        · rw [if_neg c9]; decide
      refine nx κ' σ' e' h1 h2 (ta.tk (Nat.le_refl _)) ra.1 ta.1 (hk.more ta ra ⟨p, e', ta.2.2.2.1, ra.2.2.2.1, ra.2.2.2.2, hm, by omega, by omega, Or.inr (by omega), ?_⟩ ne.1 ne.2) (hpl.more (fun k hk => (ta.2.1 k hk).2.1) ta.2.2.2.1 h1)
      rw [ta.2.2.1, ta.2.2.2.2.1, ra.2.2.1, h8m]
      by_cases c9 : 9 < e' - p
      · rw [if_pos c9]; exact Or.inr (Or.inr (Or.inr (Or.inr (Or.inl ⟨rfl, rfl, c9⟩))))
      · rw [if_neg c9]; exact Or.inr (Or.inr (Or.inr (Or.inl ⟨_, dg_lt9 (fun i hi => (fg_64 (h8 (p + i)) (hr.2.2.1 (p + i) (by omega) (by omega))).2.2), rfl, rfl, by omega, rfl, rfl⟩)))
    · intro ck k κ' c1 c2 c3 c4 sg ta
      have hk2 := sg.k (by omega)
      refine swp.mp (ar_sign he hx ht (by omega) (by omega) c1 c2 c3 c4 sg (fun σ' s ra hs => swp.mpr ?_) (fun σ' ra hs => ⟨rfl, ?_⟩))
      · refine nx κ' σ' (p + k) (by omega) (by omega) (ta.tk (Nat.le_refl _)) ra.1 ta.1 ?_ (hpl.more (fun k hk => (ta.2.1 k hk).2.1) ta.2.2.2.1 (by omega))
        have tkk : ∀ c', ck = c' → Tkk c' 0 s (aI σ' 8 m) (aL σ' 9 m) (p + k - p) → TkR κ' σ' m := fun c' hc h => ⟨p, p + k, ta.2.2.2.1, ra.2.2.2.1, ra.2.2.2.2, hm, by omega, by omega, Or.inr (by omega), by rw [ta.2.2.1, ta.2.2.2.2.1, ra.2.2.1, hc]; exact h⟩
        rcases hs with ⟨a1, a2⟩ | ⟨a1, a2, a3⟩
        · exact hk.more ta ra (tkk _ a1 (Or.inr (Or.inr (Or.inr (Or.inr (Or.inr (Or.inl ⟨rfl, a2⟩))))))) (by rw [a1]; decide) (by rw [a1]; decide)
        · exact hk.more ta ra (tkk _ rfl (Or.inr (Or.inr (Or.inr (Or.inr (Or.inr (Or.inr (Or.inl ⟨a1, a2, a3⟩)))))))) (bS_ne a1).1 (bS_ne a1).2
      · have hT' : TkR κ' σ' m := ⟨p, p + k, ta.2.2.2.1, ra.2.2.2.1, ra.2.2.2.2, hm, by omega, by omega, Or.inr (by omega), by rw [ta.2.2.1, ta.2.2.2.2.1, ra.2.2.1, hs]; exact Or.inr (Or.inr (Or.inr (Or.inr (Or.inr (Or.inr (Or.inr (Or.inl ⟨rfl, rfl⟩)))))))⟩
        have tk := ta.tk (m0 := m) (Nat.le_refl _)
        refine rt_rest hd (n - (p + k)) κ' (p + k) (i + 1) (m + 1) (Nat.le_refl _) (by omega) (by omega) (by omega) (ht.kf tk.2.1) ta.1 (hy.kf tk.2.1).1 (fun κ2 i2 m2 hi2 tk2 tw2 hm2 hm3 => ?_)
        refine q κ2 σ' i2 m2 m hi2 (tk.trans ⟨fun j hj => tk2.1 j (by omega), tk2.2⟩) ra.1 tw2 hm3 (by omega) (fun j hj => ?_) (Or.inr ⟨by omega, hT'.cong (tk2.1 m (by omega)) ⟨rfl, rfl, rfl, rfl, rfl⟩, by rw [(tk2.1 m (by omega)).1, ta.2.2.1, hs], (hpl.more (κ' := κ2) (fun k hk => (tk2.1 k (by omega)).2.1.trans (ta.2.1 k hk).2.1) ((tk2.1 m (by omega)).2.1.trans ta.2.2.2.1) (Nat.lt_succ_self _)).le (by omega)⟩)
        obtain ⟨a1, a2, a3⟩ := hk j hj
        have b := ta.2.1 j hj
        have b2 := tk2.1 j (by omega)
        exact ⟨a1.cong ⟨b2.1.trans b.1, b2.2.1.trans b.2.1, b2.2.2.trans b.2.2⟩ (ra.2.1 j (by omega)), by rw [b2.1, b.1]; exact a2, by rw [b2.1, b.1]; exact a3⟩
