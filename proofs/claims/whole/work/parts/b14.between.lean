/-! WHAT STAYS BETWEEN CALLS: the tape, widths, room; the relation R of both -/
section BETWEEN
variable {κ0 κ κ1 κ' κ0' : Km} {σ0 σ σ1 σ' σ0' : Rm} {b V al S T sp z LT HT F0 v p n x q g k s : Nat} {st : Nat → Nat} {fr : Nat → List Frm} {pt : Nat → Nat} {fs r : List Frm} {ch : List Nat} {w rz : Nat → Nat} {f : Frm} {rd : Int32}
/-- the code is the same: what rests on it -/
theorem Sta.same (h : Sta b κ σ) (e : ∀ h, h = 67 ∨ h = 68 ∨ h = 69 ∨ h = 70 ∨ (1000 ≤ h ∧ h % 8 = 0) → kI κ' h = kI κ h) (ew : kW κ' 69 = kW κ 69 ∧ kW κ' 70 = kW κ 70) (eB : kB κ' = kB κ) (es : ∀ k, 3 ≤ k → k ≤ 45 → aI σ' k = aI σ k) : Sta b κ' σ' := by
  obtain ⟨⟨h1, h2, h3, h4, h5⟩, ⟨m, m1, m2, m3, m4⟩, ⟨c, c1, c2⟩, hb⟩ := h
  have ce : CdE κ σ κ' σ' := ⟨e 69 (by omega), e 70 (by omega), by rw [e 68 (by omega)], fun k hk => es k (by omega) (by omega)⟩
  refine ⟨⟨by rw [e 67 (by omega)]; exact h1, (congrFun (es 18 (by omega) (by omega)) 0).trans h2, h3, h4, by rw [eB]; exact h5⟩, ⟨m, by rw [e 68 (by omega)]; exact m1, m2, by rw [ew.1]; exact m3, by rw [ew.2]; exact m4⟩, ⟨c, (congrFun (es 34 (by omega) (by omega)) 0).trans c1, c2⟩, fun i hi => ?_⟩
  obtain ⟨s, n, v, a, j, g1, g2, g3, g4, g5, g6, g7, g8, g9, g10⟩ := hb i hi
  refine ⟨s, n, v, a, j, g1, g2, g3, g4, g5, ?_, ?_, g8, g9, g10.cong ce⟩
  · rw [e (1000 + 8 * i) (by omega), es 22 (by omega) (by omega)]; exact g6
  · rw [es 19 (by omega) (by omega), es 20 (by omega) (by omega), es 21 (by omega) (by omega), es 23 (by omega) (by omega)]; exact g7
theorem EaW.cong (e : CdE κ0 σ0 κ0' σ0') (h : EaW κ0 σ0 f) : EaW κ0' σ0' f := by
  obtain ⟨i, j, L0, y, v, i2, j2, a1, a2, a3, a4, a5, a6, ⟨a7, a8, a9, a10⟩, a11, a12, a13, a14, a15⟩ := h
  have e' := e
  obtain ⟨e1, e2, e3, e4⟩ := e
  refine ⟨i, j, L0, y, v, i2, j2, a1, a2, a3, ?_, ?_, ?_, ⟨a7, ?_, ?_, ?_⟩, a11.cong e', ?_, ?_, a14, a15.cong e'⟩
  · rw [e1]; exact a4
  · rw [e4 13 (by omega)]; exact a5
  · rw [e4 15 (by omega)]; exact a6
  · rw [e4 14 (by omega)]; exact a8
  · rw [e1]; exact a9
  · rw [e2]; exact a10
  · rw [e2]; exact a12
  · rw [e4 16 (by omega)]; exact a13
theorem FrM.cong (e : CdE κ0 σ0 κ0' σ0') (h : FrM κ0 σ0 f) : FrM κ0' σ0' f := by
  rcases h with ⟨h1, h2⟩ | ⟨h1, h2, ⟨i, h3, h4, h5⟩, h6⟩ | ⟨h1, h2, h3, h4⟩ | ⟨h1, h2, h3, ⟨i, h4, h5⟩, h6⟩
  · exact Or.inl ⟨h1, h2.cong e⟩
  · exact Or.inr (Or.inl ⟨h1, h2, ⟨i, h3, by rw [e.1]; exact h4, by rw [e.1]; exact h5⟩, h6.cong e⟩)
  · exact Or.inr (Or.inr (Or.inl ⟨h1, h2, h3, h4.cong e⟩))
  · exact Or.inr (Or.inr (Or.inr ⟨h1, h2, h3, ⟨i, h4, by rw [e.1]; exact h5⟩, h6.cong e⟩))
theorem FrO.cong (e : CdE κ0 σ0 κ0' σ0') (h : FrO κ0 σ0 F0 b f) : FrO κ0' σ0' F0 b f := ⟨h.1, by rw [e.2.2.2 21 (by omega)]; exact h.2.1, h.2.2.1, h.2.2.2.1, h.2.2.2.2.cong e⟩
theorem FsO.cong {m : Nat} (e : CdE κ0 σ0 κ0' σ0') : ∀ fs, FsO κ0 σ0 F0 b m fs → FsO κ0' σ0' F0 b m fs := by
  intro fs
  cases fs with
  | nil => intro h; exact h
  | cons f r => intro h; exact ⟨h.1, h.2.1.cong e, fun g hg => ⟨(h.2.2 g hg).1, (h.2.2 g hg).2.cong e⟩⟩
theorem Md.cong (e : CdE κ0 σ0 κ0' σ0') (h : Md κ0 σ0 σ F0 b n s fs) (e56 : aI σ' 56 n = aI σ 56 n) : Md κ0' σ0' σ' F0 b n s fs := h.imp id (fun ⟨h1, m, h2, h3, h4, h5⟩ => ⟨h1, m, FsO.cong e _ h2, h3, h4, by rw [e56]; exact h5⟩)
/-- the tape of both, what compile needs, the room -/
def Pe (κ : Km) (σ : Rm) (rd : Int32) : Prop := (∃ n, Tp κ n ∧ sI σ 2 = nI n ∧ ∀ i, i < n → aI σ 1 i = kI κ 66 i) ∧ (TkW κ ∧ Ky κ ∧ ClW κ ∧ NN σ) ∧ (kW κ 1003 = 0 ∧ ∃ κ1, RG κ1 κ ∧ kT κ1 ≤ 168 ∧ kZ κ1 ≤ 700000) ∧ kI κ 64 5 = rd ∧ sI σ 46 = rd
theorem Pe.cod (h : Pe κ0 σ0 rd) (c : Cod κ0 σ0 κ σ) (rg : RG κ0 κ) : Pe κ σ rd := by
  obtain ⟨⟨n, t1, t2, t3⟩, ⟨h1, h2, h3, h4⟩, ⟨h5, κ1, h6, h7, h8⟩, h9, h10⟩ := h
  obtain ⟨k1, k2, k3⟩ := c
  have e : ∀ g, (64 ≤ g ∧ g ≤ 78) → kI κ g = kI κ0 g ∧ kL κ g = kL κ0 g ∧ kW κ g = kW κ0 g := fun g hg => k1 g (by unfold hCd; omega)
  have es : ∀ k, 1 ≤ k → k ≤ 46 → sI σ k = sI σ0 k := fun k h1 h2 => congrFun (k3 k h1 h2).1 0
  refine ⟨⟨n, ?_, (es 2 (by omega) (by omega)).trans t2, fun i hi => ?_⟩, ⟨h1.fr ⟨(e 74 (by omega)).2.2, (e 75 (by omega)).2.2, (e 76 (by omega)).2.2⟩, ?_, ?_, h4.fr (fun k hk => (k3 k (by omega) (by omega)).1)⟩, ⟨?_, κ1, h6.trans rg, h7, h8⟩, ?_, (es 46 (by omega) (by omega)).trans h10⟩
  · unfold Tp at *
    rw [(e 65 (by omega)).1, (e 66 (by omega)).1, (e 66 (by omega)).2.2]; exact t1
  · rw [(k3 1 (by omega) (by omega)).1, (e 66 (by omega)).1]; exact t3 i hi
  · unfold Ky at *
    rw [(e 73 (by omega)).2.1, (e 73 (by omega)).2.2]; exact h2
  · unfold ClW at *
    rw [(e 69 (by omega)).2.2, (e 70 (by omega)).2.2, k2.1]
    refine ⟨h3.1, h3.2.1, fun i hi => ?_⟩
    rw [(k1 (1001 + 8 * i) (by unfold hCd; omega)).2.2]
    exact h3.2.2 i hi
  · rw [(k1 1003 (by unfold hCd; omega)).2.2]; exact h5
  · rw [(e 64 (by omega)).1]; exact h9
/-- rows of cells in use -/
def hwd (κ : Km) (n : Nat) : Nat := if kW κ (1003 + 8 * n) = 0 then 0 else 1
/-- the class's stage, whatever the story -/
def SC (κ : Km) (V sp : Nat) : Prop := (kI κ 79 10 = nI V ∧ V ≤ 60 ∧ V ≤ kV κ ∧ kV κ ≤ 60) ∧ kI κ 79 8 = nI sp ∧ sp + cn (hwd κ) 60 ≤ 12 ∧ (∀ k, k < 12 → (k < sp → kW κ (1004 + 8 * k) ≠ 0 ∧ kW κ (1004 + 8 * k) ≤ 40000 ∧ 40 ≤ kW κ (1004 + 8 * k)) ∧ (sp ≤ k → kW κ (1004 + 8 * k) = 0)) ∧ (∀ n, V < n → n ≤ 60 → kW κ (1003 + 8 * n) = 0) ∧ (∀ n, 1 ≤ n → n ≤ V → kI κ (1002 + 8 * n) 0 = nI n ∧ (∃ s, s ≤ 6 ∧ kI κ (1002 + 8 * n) 1 = nI s ∧ (4 ≤ s → kW κ (1003 + 8 * n) = 0)) ∧ (kW κ (1003 + 8 * n) = 0 ∨ (40 ≤ kW κ (1003 + 8 * n) ∧ kW κ (1003 + 8 * n) ≤ 40000))) ∧ (kW κ 91 = 12 ∧ kW κ 86 = 40 ∧ kW κ 87 = 40 ∧ kW κ 88 = 40) ∧ (32 ≤ kW κ 81 ∧ kW κ 81 ≤ 1200) ∧ (32 ≤ kW κ 83 ∧ kW κ 83 ≤ 1200) ∧ (64 ≤ kW κ 85 ∧ kW κ 85 ≤ 140000)
theorem cn_ext {g : Nat → Nat} : ∀ m, V ≤ m → (∀ n, V < n → n ≤ m → g n = 0) → cn g m = cn g V := by
  intro m
  induction m with
  | zero => intro h _; have : V = 0 := by omega
            rw [this]
  | succ m ih =>
    intro h h0
    by_cases c : V = m + 1
    · rw [c]
    · show cn g m + g (m + 1) = _
      rw [ih (by omega) (fun n h1 h2 => h0 n h1 (by omega)), h0 (m + 1) (by omega) (Nat.le_refl _)]
      omega
theorem Desk.sc (h : Desk κ0 σ0 κ σ b V al S LT HT sp F0 z st fr pt w) : SC κ V sp := by
  obtain ⟨a, -, m⟩ := h.bn (x := 0)
  obtain ⟨-, -, -, col⟩ := h
  obtain ⟨-, ⟨s1, s2, s3, s4, s5, s6, s7, s8, s9, s10, s11, s12, s13, s14, s15⟩, a5, ⟨r1, r2, r3, r4, r5, r6⟩, ⟨⟨g1, p1, -⟩, ⟨g2, p2, -⟩, R, c0, -⟩, ⟨-, f2, -⟩, a10⟩ := a
  have hw : ∀ n, 1 ≤ n → n ≤ V → hwd κ n = hasF fr n := fun n n1 n2 => by
    obtain ⟨w1, w2⟩ := (a10 n n1 n2).wid
    unfold hwd
    by_cases c : fr n = []
    · rw [if_pos (w1 c).1, hasF_nil c]
    · rw [if_neg (w2 c).1, hasF_one c]
  have r4' : ∀ n, V < n → n ≤ 60 → kW κ (1003 + 8 * n) = 0 := fun n h1 h2 => by rw [cel3]; exact r4 n h1 h2
  have ec : cn (hwd κ) 60 = cn (hasF fr) V := by
    rw [cn_ext (V := V) 60 s8 (fun n h1 h2 => by unfold hwd; rw [if_pos (r4' n h1 h2)])]
    exact cn_cg V (fun n n1 n2 => hw n n1 n2)
  refine ⟨⟨s1.1, s8, s9, s10⟩, s6, by omega, r3, r4', fun n n1 n2 => ?_, ⟨c0, col.2.2.2.2.1.1, col.2.2.2.2.1.2.1, col.2.2.2.2.1.2.2⟩, ⟨p1.2.2.2.2.1, p1.2.2.2.2.2⟩, ⟨p2.2.2.2.2.1, p2.2.2.2.2.2⟩, f2.2⟩
  obtain ⟨v1, ⟨v2, -, v3⟩, -⟩ := a5 n n1 n2
  obtain ⟨w1, w2⟩ := (a10 n n1 n2).wid
  refine ⟨v1, ⟨st n, v3, v2, fun z4 => ?_⟩, ?_⟩
  · rcases m n n1 n2 with ⟨-, hf⟩ | ⟨z5, -⟩
    · exact (w1 hf).1
    · omega
  · by_cases c : fr n = []
    · exact Or.inl (w1 c).1
    · exact Or.inr ⟨(w2 c).2.1, (w2 c).2.2.1⟩
theorem sum3 (h0 : kW κ 1003 = 0) (h : ∀ n, kW κ (1003 + 8 * n) ≤ 40000 * hwd κ n ∨ 60 < n) : ∀ m, m ≤ 60 → sumW κ 1003 (m + 1) ≤ 40000 * cn (hwd κ) m := by
  intro m
  induction m with
  | zero =>
    intro _
    show 0 + kW κ 1003 ≤ 40000 * 0
    omega
  | succ m ih =>
    intro hm
    show sumW κ 1003 (m + 1) + kW κ (1003 + 8 * (m + 1)) ≤ 40000 * (cn (hwd κ) m + hwd κ (m + 1))
    have h1 := ih (by omega)
    have h2 := h (m + 1)
    omega
theorem sum4 (h : ∀ k, k < 12 → (k < sp → kW κ (1004 + 8 * k) ≤ 40000) ∧ (sp ≤ k → kW κ (1004 + 8 * k) = 0)) : ∀ m, m ≤ 12 → sumW κ 1004 m ≤ 40000 * min m sp := by
  intro m
  induction m with
  | zero => intro _; exact Nat.zero_le _
  | succ m ih =>
    intro hm
    show sumW κ 1004 m + kW κ (1004 + 8 * m) ≤ _
    have h1 := ih (by omega)
    obtain ⟨h2, h3⟩ := h m (by omega)
    by_cases c : m < sp
    · have := h2 c
      omega
    · have := h3 (by omega)
      omega
theorem SC.w40 (h : SC κ V sp) : ∀ n, 1 ≤ n → n ≤ 60 → kW κ (1003 + 8 * n) ≤ 40000 * hwd κ n := fun n n1 n2 => by
  unfold hwd
  by_cases c : kW κ (1003 + 8 * n) = 0
  · rw [c]; exact Nat.zero_le _
  · rw [if_neg c]
    by_cases cv : V < n
    · exact absurd (h.2.2.2.2.1 n cv n2) c
    · rcases (h.2.2.2.2.2.1 n n1 (by omega)).2.2 with z | ⟨z1, z2⟩
      · exact absurd z c
      · omega
/-- the room is kept -/
theorem room_ok (h : Pe κ σ rd) (sc : SC κ V sp) : kT κ ≤ 600000 ∧ kZ κ ≤ 7000000 := by
  obtain ⟨-, ⟨⟨w, w1, w2, w3, w4, w5⟩, -, ⟨⟨u, u1, u2, u3, u4⟩, u5, -⟩, -⟩, ⟨h0, κ1, rg, t1, t2⟩, -⟩ := h
  have e3 := sum3 (κ := κ) h0 (fun n => by
    by_cases c : 1 ≤ n ∧ n ≤ 60
    · exact Or.inl (sc.w40 n c.1 c.2)
    · by_cases c0 : n = 0
      · rw [c0]; exact Or.inl (by rw [show 1003 + 8 * 0 = 1003 from rfl, h0]; exact Nat.zero_le _)
      · exact Or.inr (by omega)) 60 (by omega)
  obtain ⟨⟨s1, s2, s3, s4⟩, s5, s6, s7, s8, s9, s10, s11, s12, s13⟩ := sc
  have e4 := sum4 (κ := κ) (sp := sp) (fun k hk => ⟨fun z => ((s7 k hk).1 z).2.1, (s7 k hk).2⟩) 12 (by omega)
  have e5 : min 12 sp ≤ sp := Nat.min_le_right _ _
  have hp : Pot κ ≤ 1500000 := by
    unfold Pot
    have : sumW κ 1003 61 = sumW κ 1003 (60 + 1) := rfl
    omega
  unfold RG at rg
  omega
/-- THE RELATION OF BOTH BETWEEN CALLS; k: how many calls went before -/
def Rr (k : Nat) (κ : Km) (σ : Rm) : Prop := (Pe κ σ 0 ∧ ∃ sp, SC κ 0 sp) ∨ ∃ κ0 σ0 b V al S LT HT sp F0 z st fr pt w, Pe κ0 σ0 1 ∧ Desk κ0 σ0 κ σ b V al S LT HT sp F0 z st fr pt w ∧ HT + 2 * pot V S st fr ≤ 385300000 + 100 * k
theorem Desk.pe (h : Desk κ0 σ0 κ σ b V al S LT HT sp F0 z st fr pt w) (p : Pe κ0 σ0 rd) : Pe κ σ rd := p.cod h.1.1.1.1 h.1.1.1.2.2
theorem Rr.sc (h : Rr k κ σ) : (Pe κ σ 0 ∨ Pe κ σ 1) ∧ ∃ V sp, SC κ V sp := by
  rcases h with ⟨p, sp, s⟩ | ⟨κ0, σ0, b, V, al, S, LT, HT, sp, F0, z, st, fr, pt, w, p, d, -⟩
  · exact ⟨Or.inl p, 0, sp, s⟩
  · exact ⟨Or.inr (d.pe p), V, sp, d.sc⟩
theorem Rr.room (h : Rr k κ σ) : kT κ ≤ 600000 ∧ kZ κ ≤ 7000000 := by
  obtain ⟨p, V, sp, s⟩ := h.sc
  rcases p with p | p
  · exact room_ok p s
  · exact room_ok p s
theorem Rr.up (h : Rr k κ σ) {k' : Nat} (hk : k ≤ k') : Rr k' κ σ := by
  rcases h with h | ⟨κ0, σ0, b, V, al, S, LT, HT, sp, F0, z, st, fr, pt, w, p, d, hb⟩
  · exact Or.inl h
  · exact Or.inr ⟨κ0, σ0, b, V, al, S, LT, HT, sp, F0, z, st, fr, pt, w, p, d, by omega⟩
end BETWEEN
