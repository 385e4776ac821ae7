/-! THE RELATION IN PIECES: what the memories hold, without who waits for whom -/
section PIECES
variable {κ0 κ κ' : Km} {σ0 σ σ' : Rm} {b V al al' S S' T T' sp sp' z z' LT HT F0 v p n x q : Nat} {st st' : Nat → Nat} {fr : Nat → List Frm} {pt : Nat → Nat} {fs : List Frm} {ch : List Nat} {y : Int32}
/-- the calls of a voice, in both; of voice x without the count of operands -/
def Cls (κ : Km) (σ : Rm) (n : Nat) (fs : List Frm) (q x : Nat) : Prop := (fs = [] ∧ kW κ (1002 + 8 * n + 1) = 0 ∧ aI σ 58 n = -9 ∧ kI κ (1002 + 8 * n) 8 = 0) ∨ (fs ≠ [] ∧ VK κ n fs ∧ (VR σ n q fs ∨ (n = x ∧ VRx σ n q fs)) ∧ aI σ 59 q = 1)
/-- the modes of a voice's calls -/
def Md (κ0 : Km) (σ0 σ : Rm) (F0 b n s : Nat) (fs : List Frm) : Prop := ((s = 0 ∨ 4 ≤ s) ∧ fs = []) ∨ ((1 ≤ s ∧ s ≤ 3) ∧ ∃ m, FsO κ0 σ0 F0 b m fs ∧ (s = 1 → m = 1) ∧ (s = 2 → m = 0) ∧ (s = 3 → aI σ 56 n = nI m ∧ 1 ≤ m))
/-- all but modes and the chain -/
def Bn (κ0 : Km) (σ0 : Rm) (κ : Km) (σ : Rm) (b V al S T sp z LT HT F0 : Nat) (st : Nat → Nat) (fr : Nat → List Frm) (pt : Nat → Nat) (x : Nat) : Prop := (Cod κ0 σ0 κ σ ∧ Sta b κ0 σ0 ∧ RG κ0 κ) ∧ Stg κ σ V al S T sp z ∧ (∀ n, 1 ≤ n → n ≤ V → Vof κ σ V b n (st n)) ∧ Rows κ σ V al sp st fr pt ∧ Lns κ σ LT HT ∧ FRl κ σ F0 ∧ ∀ n, 1 ≤ n → n ≤ V → Cls κ σ n (fr n) (pt n) x
theorem FsO.ne {m : Nat} (h : FsO κ0 σ0 F0 b m fs) : fs ≠ [] := fun z => by rw [z] at h; exact h
theorem Vfr.two {s : Nat} (h : Vfr κ0 σ0 κ σ F0 b n s fs q) : Cls κ σ n fs q x ∧ Md κ0 σ0 σ F0 b n s fs := by
  rcases h with ⟨h1, h2, h3, h4, h5⟩ | ⟨h1, h2, h3, h4, m, h5, h6⟩
  · exact ⟨Or.inl ⟨h2, h3, h4, h5⟩, Or.inl ⟨h1, h2⟩⟩
  · exact ⟨Or.inr ⟨h5.ne, h2, Or.inl h3, h4⟩, Or.inr ⟨h1, m, h5, h6⟩⟩
theorem Vfr.of {s : Nat} (h : Cls κ σ n fs q x) (hx : n ≠ x) (m : Md κ0 σ0 σ F0 b n s fs) : Vfr κ0 σ0 κ σ F0 b n s fs q := by
  rcases m with ⟨m1, m2⟩ | ⟨m1, m, m2, m3⟩
  · rcases h with ⟨h1, h2, h3, h4⟩ | ⟨h1, -⟩
    · exact Or.inl ⟨m1, m2, h2, h3, h4⟩
    · exact absurd m2 h1
  · rcases h with ⟨h1, -⟩ | ⟨h1, h2, h3, h4⟩
    · exact absurd h1 m2.ne
    · exact Or.inr ⟨m1, h2, h3.elim id (fun z => absurd z.1 hx), h4, m, m2, m3⟩
theorem Bn.rm (h : Bn κ0 σ0 κ σ b V al S T sp z LT HT F0 st fr pt x) (c : Chan σ V T st ch) : RelM κ0 σ0 κ σ b V al S T sp z LT HT F0 st fr pt ch := ⟨h.1, h.2.1, h.2.2.1, c, h.2.2.2.1, h.2.2.2.2.1, h.2.2.2.2.2.1⟩
theorem RelM.bn (h : RelM κ0 σ0 κ σ b V al S T sp z LT HT F0 st fr pt ch) (c : ∀ n, 1 ≤ n → n ≤ V → Cls κ σ n (fr n) (pt n) x) : Bn κ0 σ0 κ σ b V al S T sp z LT HT F0 st fr pt x := ⟨h.1, h.2.1, h.2.2.1, h.2.2.2.2.1, h.2.2.2.2.2.1, h.2.2.2.2.2.2, c⟩
/-- its calls are looked at in five registers -/
theorem VK.cg5 (h : VK κ n fs) (e : ∀ k, k = 8 ∨ k = 9 ∨ k = 13 ∨ k = 14 ∨ k = 15 → kI κ' (1002 + 8 * n) k = kI κ (1002 + 8 * n) k) (e2 : kI κ' (1002 + 8 * n + 1) = kI κ (1002 + 8 * n + 1)) (e3 : kW κ' (1002 + 8 * n + 1) = kW κ (1002 + 8 * n + 1)) (e4 : kV κ ≤ kV κ') : VK κ' n fs := by
  obtain ⟨c, o, h1, h2, ⟨v1, v2, v3⟩, ⟨g2, g3, g4, g5, g6⟩, g7, g8⟩ := h
  refine ⟨c, o, h1, h2, ⟨v1, Nat.le_trans v2 e4, v3⟩, ⟨?_, ?_, ?_, ?_, ?_⟩, by rw [e3]; exact g7, fun j hj => ?_⟩
  · rw [e 13 (by decide)]; exact g2
  · rw [e 14 (by decide)]; exact g3
  · rw [e 15 (by decide)]; exact g4
  · rw [e 9 (by decide)]; exact g5
  · rw [e 8 (by decide)]; exact g6
  · rw [e2]; exact g8 j hj
theorem VRx.cg (h : VRx σ n q fs) (ea : ∀ k, 58 ≤ k → k ≤ 74 → aI σ' k = aI σ k) : VRx σ' n q fs := by
  obtain ⟨h1, h2, ⟨h3, h4⟩, h5⟩ := h
  exact ⟨h1, by rw [ea 58 (by omega) (by omega)]; exact h2, ⟨by rw [ea 60 (by omega) (by omega)]; exact h3, by rw [ea 68 (by omega) (by omega)]; exact h4⟩, h5.cg _ ⟨fun k i h1 h2 _ => by rw [ea k (by omega) (by omega)], fun i _ => by rw [ea 66 (by omega) (by omega)], fun i _ => by rw [ea 67 (by omega) (by omega)], fun k i h1 h2 _ => by rw [ea k (by omega) (by omega)], fun i _ => by rw [ea 74 (by omega) (by omega)]⟩⟩
theorem VR.cg1 (h : VR σ n q fs) (ea : ∀ k, 58 ≤ k → k ≤ 74 → aI σ' k = aI σ k) : VR σ' n q fs := (h.vx.cg ea).vr (by rw [ea 73 (by omega) (by omega)]; exact h.2.2.1.2.2)
theorem Cls.cg (h : Cls κ σ n fs q x) (e : ∀ k, k = 8 ∨ k = 9 ∨ k = 13 ∨ k = 14 ∨ k = 15 → kI κ' (1002 + 8 * n) k = kI κ (1002 + 8 * n) k) (e2 : kI κ' (1002 + 8 * n + 1) = kI κ (1002 + 8 * n + 1)) (e3 : kW κ' (1002 + 8 * n + 1) = kW κ (1002 + 8 * n + 1)) (e4 : kV κ ≤ kV κ') (ea : ∀ k, 58 ≤ k → k ≤ 74 → aI σ' k = aI σ k) : Cls κ' σ' n fs q x := by
  rcases h with ⟨h1, h2, h3, h4⟩ | ⟨h1, h2, h3, h4⟩
  · exact Or.inl ⟨h1, by rw [e3]; exact h2, by rw [ea 58 (by omega) (by omega)]; exact h3, by rw [e 8 (by decide)]; exact h4⟩
  · exact Or.inr ⟨h1, h2.cg5 e e2 e3 e4, h3.imp (fun z => z.cg1 ea) (fun z => ⟨z.1, z.2.cg ea⟩), by rw [ea 59 (by omega) (by omega)]; exact h4⟩
theorem Vof.cg {s : Nat} (h : Vof κ σ V b n s) (e : ∀ k, k ≤ 7 ∨ k = 11 → kI κ' (1002 + 8 * n) k = kI κ (1002 + 8 * n) k) (ea : ∀ k, 49 ≤ k → k ≤ 57 → aI σ' k n = aI σ k n) (e19 : aI σ' 19 = aI σ 19) : Vof κ' σ' V b n s := by
  unfold Vof
  rw [e 0 (by decide), e 1 (by decide), e 2 (by decide), e 3 (by decide), e 4 (by decide), e 5 (by decide), e 6 (by decide), e 7 (by decide), e 11 (by decide), e19, ea 49 (by omega) (by omega), ea 50 (by omega) (by omega), ea 51 (by omega) (by omega), ea 52 (by omega) (by omega), ea 53 (by omega) (by omega), ea 54 (by omega) (by omega), ea 55 (by omega) (by omega), ea 57 (by omega) (by omega)]
  exact h
theorem Stg.cg (h : Stg κ σ V al S T sp z) (e : ∀ k, k = 8 ∨ k = 10 ∨ k = 11 ∨ k = 12 ∨ k = 13 ∨ k = 16 ∨ k = 17 → kI κ' 79 k = kI κ 79 k) (ev : kV κ' = kV κ) (es : ∀ k, k = 47 ∨ k = 48 ∨ k = 75 ∨ k = 76 ∨ k = 77 ∨ k = 79 → sI σ' k = sI σ k) : Stg κ' σ' V al S T sp z := by
  unfold Stg
  rw [e 8 (by decide), e 10 (by decide), e 11 (by decide), e 12 (by decide), e 13 (by decide), e 16 (by decide), e 17 (by decide), ev, es 47 (by decide), es 48 (by decide), es 75 (by decide), es 76 (by decide), es 77 (by decide), es 79 (by decide)]
  exact h
theorem Rows.cg (h : Rows κ σ V al sp st fr pt) (e : kW κ' = kW κ) (e59 : aI σ' 59 = aI σ 59) (ha : ∀ n, aliv st' n = aliv st n) : Rows κ' σ' V al sp st' fr pt := by
  obtain ⟨r1, r2, r3, r4, r5, r6⟩ := h
  refine ⟨by rw [cn_cg V (fun n _ _ => ha n)]; exact r1, r2, ?_, ?_, r5, ?_⟩
  · rw [e]; exact r3
  · rw [e]; exact r4
  · rw [e59]; exact r6
theorem Lns.cg (h : Lns κ σ LT HT) (e : ∀ g, g = 80 ∨ g = 81 ∨ g = 82 ∨ g = 83 ∨ g = 91 → kI κ' g = kI κ g ∧ kW κ' g = kW κ g) (e9 : kI κ' 79 9 = kI κ 79 9) (ea : ∀ k, 80 ≤ k → k ≤ 87 → aI σ' k = aI σ k) : Lns κ' σ' LT HT := by
  obtain ⟨⟨g1, a1, a2⟩, ⟨g2, b1, b2⟩, R, c0, c1, c2, c3, c4⟩ := h
  refine ⟨⟨g1, a1.fr (e 80 (by decide)).1 (e 81 (by decide)).1 (e 81 (by decide)).2, a2.fr (ea 80 (by omega) (by omega)) (ea 81 (by omega) (by omega)) (ea 82 (by omega) (by omega))⟩, ⟨g2, b1.fr (e 82 (by decide)).1 (e 83 (by decide)).1 (e 83 (by decide)).2, b2.fr (ea 83 (by omega) (by omega)) (ea 84 (by omega) (by omega)) (ea 85 (by omega) (by omega))⟩, R, ?_⟩
  rw [e9, (e 91 (by decide)).1, (e 91 (by decide)).2, show sI σ' 87 = sI σ 87 from congrFun (ea 87 (by omega) (by omega)) 0, ea 86 (by omega) (by omega)]
  exact ⟨c0, c1, c2, c3, c4⟩
/-- numbers of the stage and of voices are others -/
theorem Bn.upd (h : Bn κ0 σ0 κ σ b V al S T sp z LT HT F0 st fr pt x) (e2 : κ'.2 = κ.2) (eh : ∀ g, g ≠ 79 → g ≠ 84 → g ≠ 86 → g ≠ 87 → g ≠ 88 → (g < 1000 ∨ g % 8 ≠ 2) → kI κ' g = kI κ g) (e84 : kI κ' 84 1 = kI κ 84 1) (er : ∀ m k, k = 8 ∨ k = 9 ∨ k = 10 ∨ k = 13 ∨ k = 14 ∨ k = 15 → kI κ' (1002 + 8 * m) k = kI κ (1002 + 8 * m) k) (e9 : kI κ' 79 9 = kI κ 79 9)
    (ea : ∀ k, (1 ≤ k ∧ k ≤ 47) ∨ k = 50 ∨ k = 51 ∨ (58 ≤ k ∧ k ≤ 74) ∨ (80 ≤ k ∧ k ≤ 98 ∧ k ≠ 97) → aI σ' k = aI σ k) (el : aL σ' = aL σ) (hS : Stg κ' σ' V al S' T' sp z') (hV : ∀ n, 1 ≤ n → n ≤ V → Vof κ' σ' V b n (st' n)) (hal : ∀ n, aliv st' n = aliv st n) : Bn κ0 σ0 κ' σ' b V al S' T' sp z' LT HT F0 st' fr pt x := by
  obtain ⟨⟨⟨k1, k2, k3⟩, sta, rg⟩, a4, a5, a7, a8, a9, a10⟩ := h
  have ew : kW κ' = kW κ := by show κ'.2.2.1 = κ.2.2.1; rw [e2]
  have eL : kL κ' = kL κ := by show κ'.2.1 = κ.2.1; rw [e2]
  have eB : kB κ' = kB κ := by show κ'.2.2.2.2.1 = κ.2.2.2.2.1; rw [e2]
  have eV : kV κ' = kV κ := by show κ'.2.2.2.2.2.1 = κ.2.2.2.2.2.1; rw [e2]
  have eT : kT κ' = kT κ := by show κ'.2.2.2.2.2.2.1 = κ.2.2.2.2.2.2.1; rw [e2]
  have eZ : kZ κ' = kZ κ := by show κ'.2.2.2.2.2.2.2 = κ.2.2.2.2.2.2.2; rw [e2]
  have eo : OvM κ0 κ' := fun V0 V' h0 h60 hV' hV60 => by
    rw [hS.1.1] at hV'
    have e1 : V = V' := (nI_eq (by have := hS.2.2.2.2.2.2.2.1; omega) (by omega)).mp hV'
    obtain ⟨q1, q2⟩ := k2.2.2.2.2.2 V0 V h0 h60 a4.1.1 a4.2.2.2.2.2.2.2.1
    refine ⟨by omega, fun m s0 m1 m2 s1 s2 hs => ?_⟩
    obtain ⟨s, ⟨s3, s4⟩, s5⟩ := q2 m s0 m1 m2 s1 s2 hs
    obtain ⟨-, ⟨v2, -, v3⟩, -⟩ := a5 m m1 (by omega)
    obtain ⟨-, ⟨u2, -, u3⟩, -⟩ := hV m m1 (by omega)
    have e2 : st m = s := (nI_eq (by omega) (by omega)).mp (v2.symm.trans s5)
    have e3 := hal m
    unfold aliv at e3
    rw [if_neg (show ¬ st m < 4 by omega)] at e3
    refine ⟨st' m, ⟨?_, u3⟩, u2⟩
    by_cases c : st' m < 4
    · rw [if_pos c] at e3; exact absurd e3 (by decide)
    · omega
  refine ⟨⟨⟨fun g hg => ?_, ⟨eB.trans k2.1, k2.2.cg2 (Nat.le_of_eq eV.symm) (fun m _ => er m 10 (by decide)) (fun k hk => ea k (by omega)) eo⟩, fun k h1 h2 => ?_⟩, sta, rg.trans (RG.same ew eV eB eT eZ)⟩, hS, hV, a7.cg ew (ea 59 (by omega)) hal, a8.cg (fun g hg => ⟨eh g (by omega) (by omega) (by omega) (by omega) (by omega) (by omega), by rw [ew]⟩) e9 (fun k h1 h2 => ea k (by omega)), a9.fr e84 (eh 85 (by omega) (by omega) (by omega) (by omega) (by omega) (by omega)) (by rw [ew]) (fun k h1 h2 => ea k (by omega)), fun n n1 n2 => (a10 n n1 n2).cg (fun k hk => er n k (by omega)) (eh _ (by omega) (by omega) (by omega) (by omega) (by omega) (by omega)) (by rw [ew]) (by rw [eV]; exact Nat.le_refl _) (fun k h1 h2 => ea k (by omega))⟩
  · have hg' := hg
    unfold hCd at hg'
    rw [eh g (by omega) (by omega) (by omega) (by omega) (by omega) (by omega), ew, eL]
    exact k1 g hg
  · rw [ea k (by omega), el]
    exact k3 k h1 h2
end PIECES
