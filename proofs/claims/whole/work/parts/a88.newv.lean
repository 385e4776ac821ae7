/-! a new voice -/
section NEWV
variable {X : Cx} {d e er : Nat} {κ0 κ κa κb κ1 κ' : Km} {σ0 σ σa σ1 σ' : Rm} {b V al S T sp z LT HT F0 v p n x q g k op sc mk : Nat} {st : Nat → Nat} {fr fr' : Nat → List Frm} {pt : Nat → Nat} {fs r rr : List Frm} {ch cr : List Nat} {w : Nat → Nat} {f f' : Frm} {y u ar : Int32} {C : Km → Prop} {D P : Rm → Prop} {G : Rm → Prop}
/-- the class's registers of a voice that is reset -/
def rsK (κ : Km) (h : Nat) (x1 x2 x3 x4 : Int32) : Km := cI (cI (cI (cI (cI (cI (cI (cI (cI (cI κ h 0 x1) h 2 x2) h 3 x3) h 4 x4) h 1 0) h 5 (-9)) h 6 0) h 7 0) h 8 0) h 11 0
theorem rsK_ne {h : Nat} {x1 x2 x3 x4 : Int32} {g : Nat} (hg : g ≠ h) : kI (rsK κ h x1 x2 x3 x4) g = kI κ g := by
  unfold rsK
  rw [kI_ne hg, kI_ne hg, kI_ne hg, kI_ne hg, kI_ne hg, kI_ne hg, kI_ne hg, kI_ne hg, kI_ne hg, kI_ne hg]
theorem rsK_v {h : Nat} {x1 x2 x3 x4 : Int32} : kI (rsK κ h x1 x2 x3 x4) h 0 = x1 ∧ kI (rsK κ h x1 x2 x3 x4) h 1 = 0 ∧ kI (rsK κ h x1 x2 x3 x4) h 2 = x2 ∧ kI (rsK κ h x1 x2 x3 x4) h 3 = x3 ∧ kI (rsK κ h x1 x2 x3 x4) h 4 = x4 ∧ kI (rsK κ h x1 x2 x3 x4) h 5 = -9 ∧ kI (rsK κ h x1 x2 x3 x4) h 6 = 0 ∧ kI (rsK κ h x1 x2 x3 x4) h 7 = 0 ∧ kI (rsK κ h x1 x2 x3 x4) h 8 = 0 ∧ kI (rsK κ h x1 x2 x3 x4) h 11 = 0 := by
  unfold rsK
  refine ⟨?_, ?_, ?_, ?_, ?_, ?_, ?_, ?_, ?_, kI_eq⟩
  · rw [kI_nk (by decide), kI_nk (by decide), kI_nk (by decide), kI_nk (by decide), kI_nk (by decide), kI_nk (by decide), kI_nk (by decide), kI_nk (by decide), kI_nk (by decide), kI_eq]
  · rw [kI_nk (by decide), kI_nk (by decide), kI_nk (by decide), kI_nk (by decide), kI_nk (by decide), kI_eq]
  · rw [kI_nk (by decide), kI_nk (by decide), kI_nk (by decide), kI_nk (by decide), kI_nk (by decide), kI_nk (by decide), kI_nk (by decide), kI_nk (by decide), kI_eq]
  · rw [kI_nk (by decide), kI_nk (by decide), kI_nk (by decide), kI_nk (by decide), kI_nk (by decide), kI_nk (by decide), kI_nk (by decide), kI_eq]
  · rw [kI_nk (by decide), kI_nk (by decide), kI_nk (by decide), kI_nk (by decide), kI_nk (by decide), kI_nk (by decide), kI_eq]
  · rw [kI_nk (by decide), kI_nk (by decide), kI_nk (by decide), kI_nk (by decide), kI_eq]
  · rw [kI_nk (by decide), kI_nk (by decide), kI_nk (by decide), kI_eq]
  · rw [kI_nk (by decide), kI_nk (by decide), kI_eq]
  · rw [kI_nk (by decide), kI_eq]
theorem rsK_10 {h : Nat} {x1 x2 x3 x4 : Int32} : kI (rsK κ h x1 x2 x3 x4) h 10 = kI κ h 10 := by
  unfold rsK
  rw [kI_nk (by decide), kI_nk (by decide), kI_nk (by decide), kI_nk (by decide), kI_nk (by decide), kI_nk (by decide), kI_nk (by decide), kI_nk (by decide), kI_nk (by decide), kI_nk (by decide)]
/-- what making a voice does to the class -/
def MkC (κ κ' : Km) (V al : Nat) (sc ar mk : Int32) : Prop := (∀ g, g ≠ 79 → g ≠ 1002 + 8 * (V + 1) → kI κ' g = kI κ g ∧ kL κ' g = kL κ g) ∧ kW κ' = kW κ ∧ (∀ k, k ≠ 10 → k ≠ 11 → kI κ' 79 k = kI κ 79 k) ∧ (kI κ' 79 10 = nI (V + 1) ∧ kI κ' 79 11 = nI (al + 1)) ∧ ((kV κ ≤ kV κ' ∧ (V + 1 ≤ kV κ → kI κ' (1002 + 8 * (V + 1)) 10 = kI κ (1002 + 8 * (V + 1)) 10)) ∧ V + 1 ≤ kV κ' ∧ kV κ' ≤ 60) ∧ kB κ' = kB κ ∧ RG κ κ' ∧ kI κ' (1002 + 8 * (V + 1)) 0 = nI (V + 1) ∧ kI κ' (1002 + 8 * (V + 1)) 1 = 0 ∧ kI κ' (1002 + 8 * (V + 1)) 2 = sc ∧ kI κ' (1002 + 8 * (V + 1)) 3 = ar ∧ kI κ' (1002 + 8 * (V + 1)) 4 = mk ∧ kI κ' (1002 + 8 * (V + 1)) 5 = -9 ∧ kI κ' (1002 + 8 * (V + 1)) 6 = 0 ∧ kI κ' (1002 + 8 * (V + 1)) 7 = 0 ∧ kI κ' (1002 + 8 * (V + 1)) 8 = 0 ∧ kI κ' (1002 + 8 * (V + 1)) 11 = 0
theorem kc_isFull {F : Int32 → Km → Prop} (h10 : kI κ 79 10 = nI V) (h11 : kI κ 79 11 = nI al) (hV : V ≤ 60) (hA : al ≤ 12) (q1 : (V = 60 ∨ al = 12) → F 1 κ) (q0 : V < 60 → al < 12 → F 0 κ) : KC' X 0 MX6_isFull [vR 79] κ (kRI F) := by
  refine KC_of_K rfl (Nat.le_of_ble_eq_true rfl) rfl (k_6_isFull_0 ?_)
  rw [h10, h11, litI 60, litI 12, le_nI (by omega) (by omega), lt_nI (by omega) (by omega)]
  refine ⟨fun c => k_6_isFull_18 (k_6_isFull_23 _ ⟨Or.inr rfl, _, rfl, q1 (by omega)⟩), fun c => ⟨fun c2 => k_6_isFull_23 _ ⟨Or.inl rfl, _, rfl, q0 (by omega) (by omega)⟩, fun c2 => k_6_isFull_18 (k_6_isFull_23 _ ⟨Or.inr rfl, _, rfl, q1 (by omega)⟩)⟩⟩
theorem kW_newV (h0 : kW κ (1011 + 8 * kV κ) = 0) : kW (newV κ) = kW κ := by
  funext g
  show (if g = 1011 + 8 * kV κ then 0 else kW κ g) = kW κ g
  by_cases c : g = 1011 + 8 * kV κ
  · rw [if_pos c, c, h0]
  · rw [if_neg c]
theorem rg_newV (h0 : kW κ (1011 + 8 * kV κ) = 0) : RG κ (newV κ) := by
  have ew := kW_newV h0
  have e1 : kV (newV κ) = kV κ + 1 := rfl
  have e2 : kB (newV κ) = kB κ := rfl
  have e3 : kT (newV κ) = kT κ + 1 := rfl
  have e4 : kZ (newV κ) = kZ κ + 16 := rfl
  have es : ∀ a n, sumW (newV κ) a n = sumW κ a n := fun a n => by
    induction n with
    | zero => rfl
    | succ n ih =>
      show sumW (newV κ) a n + kW (newV κ) (a + 8 * n) = sumW κ a n + kW κ (a + 8 * n)
      rw [ih, ew]
  have ep : Pot (newV κ) = Pot κ + 16 := by
    unfold Pot
    rw [es, es, ew, e1, e2]
    omega
  unfold RG
  omega
/-- a new voice is made -/
theorem kc_make {F : Int32 → Km → Prop} {x1 : Int32} (h10 : kI κ 79 10 = nI V) (h11 : kI κ 79 11 = nI al) (hV : V < 60) (hA : al < 12) (hkV : V ≤ kV κ) (hk60 : kV κ ≤ 60) (hw : ∀ n, V < n → n ≤ 60 → kW κ (1002 + 8 * n + 1) = 0) (hd : 2 ≤ d) (q : ∀ κ', MkC κ κ' V al x1 ar y → F (nI (V + 1)) κ') : KC' X d MX6_make [vR 79, vI x1, vI ar, vI y] κ (kRI F) := by
  have go : ∀ κ9, (∀ g, g ≠ 79 → g ≠ 1002 + 8 * (V + 1) → kI κ9 g = kI κ g ∧ kL κ9 g = kL κ g) → kW κ9 = kW κ → (∀ k, k ≠ 10 → k ≠ 11 → kI κ9 79 k = kI κ 79 k) → (kI κ9 79 10 = nI (V + 1) ∧ kI κ9 79 11 = nI (al + 1)) → ((kV κ ≤ kV κ9 ∧ (V + 1 ≤ kV κ → kI κ9 (1002 + 8 * (V + 1)) 10 = kI κ (1002 + 8 * (V + 1)) 10)) ∧ V + 1 ≤ kV κ9 ∧ kV κ9 ≤ 60) → kB κ9 = kB κ → RG κ κ9 → K X d MX6_make 58 [(0, vR 79), (1, vI x1), (2, vI ar), (3, vI y)] [] κ9 (kRI F) := fun κ9 g1 g2 g3 g4 g5 g6 g7 => by
    have hH : isH κ9 (1002 + 8 * (V + 1)) 10 := isH_voice (by omega) (by omega)
    refine k_6_make_58 _ _ _ ?_
    rw [g4.1, vpn (by omega), cl_nI (by omega), if_pos ⟨by omega, by omega⟩]
    refine ⟨by omega, hH, 0, by omega, KC_of_K rfl (Nat.le_of_ble_eq_true rfl) rfl (k_10_reset_0 _ _ _ _ _ ⟨hH, ?_⟩)⟩
    rintro κ2 rfl κ3 rfl κ4 rfl κ5 rfl κ6 rfl κ7 rfl κ8 rfl κ9' rfl κ10 rfl κ11 rfl
    have e79 : kI (rsK κ9 (1002 + 8 * (V + 1)) (nI (V + 1)) x1 ar y) 79 = kI κ9 79 := rsK_ne (by omega)
    refine ⟨rfl, _, rfl, ?_⟩
    show F (kI (rsK κ9 (1002 + 8 * (V + 1)) (nI (V + 1)) x1 ar y) 79 10) (rsK κ9 (1002 + 8 * (V + 1)) (nI (V + 1)) x1 ar y)
    rw [e79, g4.1]
    refine q _ ⟨fun g h1 h2 => ⟨(rsK_ne h2).trans (g1 g h1 h2).1, (g1 g h1 h2).2⟩, g2, fun k k1 k2 => by rw [e79]; exact g3 k k1 k2, by rw [e79]; exact g4, ⟨⟨g5.1.1, fun z => rsK_10.trans (g5.1.2 z)⟩, g5.2⟩, g6, g7, rsK_v⟩
  refine KC_of_K rfl (Nat.le_of_ble_eq_true rfl) rfl (k_6_make_0 _ _ _ ⟨0, by omega, kc_isFull h10 h11 (by omega) (by omega) (fun c => absurd c (by omega)) (fun _ _ => ⟨fun _ => ?_, fun z => absurd rfl z⟩)⟩)
  rw [h10, nI_1]
  rintro κ8 rfl κ9 rfl
  have a1 : kI (cI κ 79 10 (nI (V + 1))) 79 11 = nI al := by rw [kI_nk (by decide)]; exact h11
  have a2 : kI (cI (cI κ 79 10 (nI (V + 1))) 79 11 (nI (al + 1))) 79 10 = nI (V + 1) := by rw [kI_nk (by decide), kI_eq]
  rw [a1, nI_1, a2, vpn (by omega), cl_nI (by omega)]
  have eV : kV (cI (cI κ 79 10 (nI (V + 1))) 79 11 (nI (al + 1))) = kV κ := rfl
  have h9 : ∀ k, k ≠ 10 → k ≠ 11 → kI (cI (cI κ 79 10 (nI (V + 1))) 79 11 (nI (al + 1))) 79 k = kI κ 79 k := fun k k1 k2 => by rw [kI_nk k2, kI_nk k1]
  have h9b : kI (cI (cI κ 79 10 (nI (V + 1))) 79 11 (nI (al + 1))) 79 10 = nI (V + 1) ∧ kI (cI (cI κ 79 10 (nI (V + 1))) 79 11 (nI (al + 1))) 79 11 = nI (al + 1) := ⟨by rw [kI_nk (by decide), kI_eq], kI_eq⟩
  have hh : ∀ g, g ≠ 79 → kI (cI (cI κ 79 10 (nI (V + 1))) 79 11 (nI (al + 1))) g = kI κ g := fun g hg => by rw [kI_ne hg, kI_ne hg]
  rw [eV]
  by_cases c : V + 1 ≤ kV κ
  · rw [if_pos ⟨by omega, c⟩]
    refine ⟨by omega, Or.inr (isH_voice (by omega) (by rw [eV]; exact c)).1, fun z => absurd z (by omega), fun _ => go _ (fun g h1 h2 => ⟨hh g h1, rfl⟩) rfl h9 h9b ⟨⟨Nat.le_refl _, fun _ => by rw [hh _ (by omega)]⟩, c, hk60⟩ rfl (RG.cI.trans RG.cI)⟩
  · rw [if_neg (by omega)]
    have ek : kV κ = V := by omega
    refine ⟨by omega, Or.inl rfl, fun _ => ⟨hd, by omega, by rw [ek], ?_⟩, fun z => absurd rfl z⟩
    rintro κ16 rfl
    have w0 : kW (cI (cI κ 79 10 (nI (V + 1))) 79 11 (nI (al + 1))) (1011 + 8 * kV (cI (cI κ 79 10 (nI (V + 1))) 79 11 (nI (al + 1)))) = 0 := by
      rw [eV, ek, show 1011 + 8 * V = 1002 + 8 * (V + 1) + 1 by omega]
      exact hw (V + 1) (by omega) (by omega)
    have ei : ∀ g, g ≠ 1002 + 8 * (V + 1) → kI (newV (cI (cI κ 79 10 (nI (V + 1))) 79 11 (nI (al + 1)))) g = kI (cI (cI κ 79 10 (nI (V + 1))) 79 11 (nI (al + 1))) g ∧ kL (newV (cI (cI κ 79 10 (nI (V + 1))) 79 11 (nI (al + 1)))) g = kL κ g := fun g hg => by
      have hg2 : ¬ g = 1010 + 8 * kV κ := by omega
      refine ⟨?_, ?_⟩
      · funext k
        exact if_neg hg2
      · funext k
        exact if_neg hg2
    refine go _ (fun g h1 h2 => ⟨(ei g h2).1.trans (hh g h1), (ei g h2).2⟩) (kW_newV w0) (fun k k1 k2 => by rw [(ei 79 (by omega)).1]; exact h9 k k1 k2) (by rw [(ei 79 (by omega)).1]; exact h9b) ⟨⟨Nat.le_succ _, fun z => absurd z c⟩, by show V + 1 ≤ kV κ + 1; omega, by show kV κ + 1 ≤ 60; omega⟩ rfl ((RG.cI.trans RG.cI).trans (rg_newV w0))
end NEWV
