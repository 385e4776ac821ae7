/-! expressions: what both say -/
/-- some numbers of the reference are no negative ones -/
def NN (σ : Rm) : Prop := sI σ 35 = nI (rK σ) ∧ sI σ 36 = nI (rE σ) ∧ sI σ 44 = nI (rU σ)
/-- a fault: both know its place -/
def Flt (b : Nat) (κ : Km) (σ : Rm) (B : Nat) (κ' : Km) (σ' : Rm) : Prop := (∃ x, x < 4000 ∧ kI κ' 77 5 = nI x ∧ aI σ' 0 6 = nI x ∧ NN σ') ∧ Tf b κ κ' ∧ AF qP σ σ' ∧ kI κ' 68 2 = nI (iC κ') ∧ (∃ w, kW κ' 69 = w ∧ kW κ' 70 = w ∧ iC κ' ≤ w ∧ 128 ≤ w ∧ w ≤ 20000) ∧ iC κ' ≤ B
theorem Flt.pre {b B : Nat} {κ κ1 κ' : Km} {σ σ1 σ' : Rm} (t : Tr b κ σ κ1 σ1) (h : Flt b κ1 σ1 B κ' σ') : Flt b κ σ B κ' σ' := ⟨h.1, t.1.trans h.2.1, t.2.1.trans h.2.2.1, h.2.2.2⟩
theorem Flt.weak {b B B' : Nat} {κ κ' : Km} {σ σ' : Rm} (h : Flt b κ σ B κ' σ') (hb : B ≤ B') : Flt b κ σ B' κ' σ' := ⟨h.1, h.2.1, h.2.2.1, h.2.2.2.1, h.2.2.2.2.1, Nat.le_trans h.2.2.2.2.2 hb⟩
theorem Flt.add {b B : Nat} {κ κ1 κ' : Km} {σ σ' : Rm} {a x : Int32} (h : Flt b κ σ B κ1 σ') (hb : b < 12) (h9 : B < 9890) (ad : AdC κ1 κ' a x) : Flt b κ σ (B + 1) κ' σ' := by
  obtain ⟨d1, d2, d3, d4, d5, d6, d7⟩ := ad
  have e : iC κ' = iC κ1 + 1 := by
    have := h.2.2.2.2.2
    unfold iC
    rw [d1, cl_nI (by unfold iC at this; omega)]
  have c77 := (d6.1 77 (by decide)).1
  have c72 := (d6.1 72 (by decide)).1
  refine ⟨?_, h.2.1.trans (Tf.fr hb (d6.weak (fun h hh => by unfold hE; omega)) d7 (by rw [c72])), h.2.2.1, by rw [e]; exact d1, by rw [e]; exact d5, by rw [e]; have := h.2.2.2.2.2; omega⟩
  rw [c77]; exact h.1
theorem Flt.here {N b P B x : Nat} {κ : Km} {σ : Rm} (h : Ps κ σ N b P) (hx : x < 4000) (hB : iC κ ≤ B) : Flt b κ σ B (cI κ 77 5 (nI x)) (wI σ 0 6 (nI x)) := by
  have kf : KF hE κ (cI κ 77 5 (nI x)) := KF.cI (by decide)
  obtain ⟨b1, b2, b3, b4, b5, b6, b7, b8, b9, b10, b11, b12, b13, b14, b15, b16, b17⟩ := h.2
  have c : kI (cI κ 77 5 (nI x)) 68 = kI κ 68 := kI_ne (by decide)
  have nn : NN (wI σ 0 6 (nI x)) := by
    unfold NN rK rE rU
    rw [sI_ne (by decide), sI_ne (by decide), sI_ne (by decide)]
    exact ⟨b16, b17, b14⟩
  refine ⟨⟨x, hx, kI_eq, aI_eq, nn⟩, Tf.fr h.1.2.2.2.1 kf RG.cI (by rw [kI_ne (by decide)]), AF.wI (by decide), ?_, ?_, ?_⟩
  · unfold iC; rw [c]; exact b9
  · unfold iC; rw [c]; exact b10
  · unfold iC; rw [c]; exact hB
/-- both run: yes, or a fault -/
def Sim (X : Cx) (d e : Nat) (M M' : MI) (as as' : List AV) (κ : Km) (σ : Rm) (Ok Bad : Km → Rm → Prop) : Prop := KC' X d M as κ (fun r κ' => AC X 92 e M' as' σ (fun r' σ' => (r = .inl (some (vI 1)) ∧ r' = .inl none ∧ Ok κ' σ') ∨ (r = .inl (some (vI 0)) ∧ r' = .inr 93 ∧ Bad κ' σ')))
theorem Sim.k {X : Cx} {d e : Nat} {M M' : MI} {as as' : List AV} {κ : Km} {σ : Rm} {Ok Bad : Km → Rm → Prop} {F : Int32 → Km → Prop} (h : Sim X d e M M' as as' κ σ Ok Bad) (q1 : ∀ κ' σ', ACR X 92 e M' as' σ (.inl none) σ' → Ok κ' σ' → F 1 κ') (q0 : ∀ κ' σ', ACR X 92 e M' as' σ (.inr 93) σ' → Bad κ' σ' → F 0 κ') : KC' X d M as κ (kRI F) := by
  obtain ⟨r, κ', h1, r', σ', h2, ⟨rfl, rfl, h3⟩ | ⟨rfl, rfl, h3⟩⟩ := h
  · exact ⟨_, κ', h1, _, rfl, q1 κ' σ' h2 h3⟩
  · exact ⟨_, κ', h1, _, rfl, q0 κ' σ' h2 h3⟩
theorem acr_ok {X : Cx} {e : Nat} {M' : MI} {as : List AV} {σ σ' : Rm} {Q : Res → Rm → Prop} {F : Rm → Prop} (h : ACR X 92 e M' as σ (.inl none) σ') (q : F σ') : AC X 92 e M' as σ (aTV Q F) := ⟨_, _, h, Or.inl ⟨rfl, q⟩⟩
theorem acr_bad {X : Cx} {e : Nat} {M' : MI} {as : List AV} {σ σ' : Rm} {Q : Res → Rm → Prop} {F : Rm → Prop} (h : ACR X 92 e M' as σ (.inr 93) σ') (q : Q (.inr 93) σ') : AC X 92 e M' as σ (aTV Q F) := ⟨_, _, h, Or.inr ⟨93, rfl, q⟩⟩
/-- how much an expression adds -/
def De (κ : Km) (σ : Rm) (κ' : Km) (σ' : Rm) : Prop := pC κ < pC κ' ∧ iC κ' ≤ iC κ + 3 * (pC κ' - pC κ) ∧ rJ σ' ≤ rJ σ + 3 * (pC κ' - pC κ) ∧ 2 * rU σ' ≤ 2 * rU σ + (pC κ' - pC κ) + 1 ∧ 2 * rA σ' ≤ 2 * rA σ + (pC κ' - pC κ) + 1 ∧ rT σ' = rT σ ∧ rC σ' = rC σ ∧ rV σ' = rV σ ∧ oC κ' = oC κ ∧ rK σ' = rK σ ∧ rE σ' = rE σ
abbrev dU (o : Nat) : Nat := 20 + 10 * (24 - o)
/-- the four kinds of expression: l = 3 U, 2 T, 1 S, 0 E -/
def SpX (X : Cx) (N b P : Nat) (M M' : MI) (l f m : Nat) : Prop := ∀ (κ : Km) (σ : Rm), Ps κ σ N b P → Bdd κ σ → N + 1 - pC κ ≤ m → Sim X (dU (oC κ) + (3 - l)) (dU (oC κ) + (3 - l)) M M' [vR 77] [vR 92] κ σ (fun κ' σ' => ES1 N b P (6 * oC κ + l) 0 1 κ σ κ' σ' ∧ De κ σ κ' σ') (Flt b κ σ (9010 + 4 * (24 - oC κ) + f))
abbrev SpU (X : Cx) (N b P m : Nat) : Prop := SpX X N b P MX5_readUnary MX13_readU 3 0 m
abbrev SpT (X : Cx) (N b P m : Nat) : Prop := SpX X N b P MX5_readProduct MX13_readT 2 1 m
abbrev SpS (X : Cx) (N b P m : Nat) : Prop := SpX X N b P MX5_readSum MX13_readS 1 2 m
abbrev SpE (X : Cx) (N b P m : Nat) : Prop := SpX X N b P MX5_readComparison MX13_readE 0 2 m
theorem Bdd.i {κ : Km} {σ : Rm} {N b P : Nat} (h : Bdd κ σ) (hp : Ps κ σ N b P) : iC κ ≤ 9010 ∧ rJ σ ≤ 9010 ∧ rU σ ≤ 1500 ∧ rA σ ≤ 1500 := by
  have := hp.p3
  obtain ⟨h1, h2, h3, h4, -⟩ := h
  omega
/-- a token on -/
theorem Ps.tp {κ : Km} {σ : Rm} {N b P : Nat} (h : Ps κ σ N b P) (hp : pC κ < N) : TP N b P κ σ (setC κ (pC κ + 1)) (wS σ 10 (nI (pC κ + 1))) := by
  obtain ⟨p, t, n1, n2, n3, n4, n5, n6, n7, n8, n9, n10, n11⟩ := h.next hp
  exact ⟨p, t, n3, n4, n8, n5, n6⟩
theorem Ps.add {X : Cx} {κ : Km} {σ : Rm} {N b P : Nat} {F : Int32 → Km → Prop} {a x : Int32} (h : Ps κ σ N b P) (hi : iC κ < 9900) (ha : i8 a) (q : ∀ κ', AdC κ κ' a x → F (nI (iC κ)) κ') : KC' X 2 MX1_add [vR 68, vI a, vI x] κ (kRI F) := kc_addC h.2.2.2.2.2.2.2.2.2.1 h.2.2.2.2.2.2.2.2.2.2.1 hi ha q
theorem Flt.kadd {X : Cx} {κ κ' : Km} {σ σ' : Rm} {b B : Nat} {F : Int32 → Km → Prop} {a x : Int32} (h : Flt b κ σ B κ' σ') (hi : B < 9900) (ha : i8 a) (q : ∀ κ2, AdC κ' κ2 a x → F (nI (iC κ')) κ2) : KC' X 2 MX1_add [vR 68, vI a, vI x] κ' (kRI F) := kc_addC h.2.2.2.1 h.2.2.2.2.1 (by have := h.2.2.2.2.2; omega) ha q
theorem KC'.up {X : Cx} {d d' : Nat} {M : MI} {as : List AV} {κ : Km} {Q : Res → Km → Prop} (h : KC' X d M as κ Q) : KC' X d M as κ Q := h
/-- a binary sign behind a first operand -/
theorem bin_es {N b P B k : Nat} {κ0 κ1 κ2 κ3 : Km} {σ0 σ1 σ2 : Rm} {y z x : Int32} (h1 : ES1 N b P B 0 1 κ0 σ0 κ1 σ1) (hp : pC κ1 < N) (h2 : ES1 N b P (B + 1) 0 1 (setC κ1 (pC κ1 + 1)) (wS σ1 10 (nI (pC κ1 + 1))) κ2 σ2) (hi : iC κ2 < 9900) (hj : rJ σ2 < 11990) (hB : B + 2 ≤ 150) (hk : k < 7) (ad : AdC κ2 κ3 (nI (8 + k)) x) : ES1 N b P B 0 1 κ0 σ0 κ3 (em σ2 (nI (4 + k)) y z) ∧ Nu κ3 (em σ2 (nI (4 + k)) y z) (pC κ2) (oC κ2) (iC κ2 + 1) (rJ σ2 + 1) (rU σ2) (rA σ2) (rT σ2) (rC σ2) (rV σ2) (rK σ2) (rE σ2) := by
  have t := h1.1.tp hp
  have a := act_bin (y := y) (z := z) (B := B) h2.1 hi hj hB hk ad
  exact ⟨h1.trans ((t.es.trans (h2.two.up (k := 1) (by omega))).trans a.two), (act_pair (op := nI (4 + k)) (y := y) (z := z) h2.1 hi hj ad).2.2⟩
theorem wS_at {κ : Km} {σ : Rm} {N b P : Nat} (h : Ps κ σ N b P) : wS σ 10 (sI σ 10 + 1) = wS σ 10 (nI (pC κ + 1)) := by rw [h.2.2.2.2.1, nI_1]
