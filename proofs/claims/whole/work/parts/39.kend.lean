/-! Stage.end; a voice begins -/
theorem uR_same {S : Mem} {a k v : Nat} (h : gR S a k = v) : uR S a k v = S := by
  have e : up2 S.2.2.1 a k v = S.2.2.1 := by
    funext b j
    unfold up2
    by_cases c : b = a ∧ j = k
    · rw [if_pos c, c.1, c.2]; exact h.symm
    · rw [if_neg c]
  show (S.1, S.2.1, up2 S.2.2.1 a k v, S.2.2.2) = S
  rw [e]
/-- a voice is over, before its row goes -/
def endV (κ : Km) (p : Nat) (x : Int32) : Km := cI (cI (cI κ p 1 x) p 8 0) 79 11 (kI κ 79 11 - 1)
theorem kc_Stage_end {X : Cx} {κ : Km} {F : Km → Prop} {n s : Nat} {x : Int32} (n1 : 1 ≤ n) (n2 : n ≤ kV κ) (h8 : kI κ 79 8 = nI s) (hwl : kW κ (1003 + 8 * n) < 2147483648) (hs : kW κ (1003 + 8 * n) ≠ 0 → s < 12 ∧ kW κ (1004 + 8 * s) = 0)
    (q1 : kW κ (1003 + 8 * n) = 0 → F (endV κ (1002 + 8 * n) x)) (q2 : kW κ (1003 + 8 * n) ≠ 0 → F (cI (mvR (endV κ (1002 + 8 * n) x) (1003 + 8 * n) (1004 + 8 * s)) 79 8 (nI (s + 1)))) : KC' X 2 MX6_end [vR 79, vR (1002 + 8 * n), vI x] κ (kRV F) := by
  have hp := isH_voice (κ := κ) n1 n2
  have h79 : isH κ 79 6 := fixH 79 6 (by decide) rfl
  have e79 : ∀ {ad : Nat → Nat} {κ : Km} {S : Mem}, CV ad κ S → ad 79 = 79 := fun hC => hC.2.2.1 79 (by unfold still; decide)
  have e90 : ∀ {ad : Nat → Nat} {κ : Km} {S : Mem}, CV ad κ S → ad 90 = 90 := fun hC => hC.2.2.1 90 (by unfold still; decide)
  have ea : ∀ ad : Nat → Nat, mps ad [vR 79, vR (1002 + 8 * n), vI x] = [vR (ad 79), vR (ad (1002 + 8 * n)), vI x] := fun ad => by
    rw [mps_R (by decide), mps_R (by omega)]; rfl
  -- the memory behind v.end and alive
  have pre : ∀ {ad : Nat → Nat} {S : Mem}, CV ad κ S → CV ad (endV κ (1002 + 8 * n) x) (uI (uI (uI S (ad (1002 + 8 * n)) 1 x) (ad (1002 + 8 * n)) 8 0) 79 11 (kI κ 79 11 - 1)) ∧ Fc S (uI (uI (uI S (ad (1002 + 8 * n)) 1 x) (ad (1002 + 8 * n)) 8 0) 79 11 (kI κ 79 11 - 1)) := fun {ad S} hC => by
    obtain ⟨C1, f1⟩ := hC.setI (k := 1) (v := x) hp.1 (fun e => by omega)
    obtain ⟨C2, f2⟩ := C1.setI (h := 1002 + 8 * n) (k := 8) (v := 0) hp.1 (fun e => by omega)
    obtain ⟨C3, f3⟩ := C2.setI (h := 79) (k := 11) (v := kI κ 79 11 - 1) (Or.inl (by decide)) (fun e => absurd e (by decide))
    rw [e79 hC] at C3 f3
    exact ⟨C3, (f1.trans f2).trans f3⟩
  by_cases c0 : kW κ (1003 + 8 * n) = 0
  · refine ⟨.inl none, endV κ (1002 + 8 * n) x, ⟨Mo.refl, fun ad S hC => ?_⟩, rfl, q1 c0⟩
    obtain ⟨C3, f3⟩ := pre hC
    have kp := hC.k hp
    have k79 : isK S 79 6 := by have := hC.k h79; rw [e79 hC] at this; exact this
    have hv := hC.2.2.2.2.2.1 n n1 n2
    have r27 : gR S (ad (1002 + 8 * n)) 12 = 27 := by rw [hv.1]; exact hv.2 c0
    have k27 : isK S 27 21 := ⟨by have := hC.2.2.2.2.2.2.2.2.2.2.2.2.2.2.2.1; omega, hC.2.2.2.2.2.2.2.2.2.2.2.2.2.2.2.2.2.1⟩
    have z27 : gN S 27 = 0 := hC.2.2.2.2.2.2.2.2.2.2.2.2.2.2.2.2.2.2.1
    have ne : ad (1002 + 8 * n) ≠ 79 := fun z => by have := hC.2.1 _ 79 hp.1 h79.1 (z.trans (e79 hC).symm); omega
    have g11 : gI S 79 11 = kI κ 79 11 := by have := hC.i (k := 11) h79.1; rw [e79 hC] at this; exact this
    have V1 : V X 2 MX6_end 0 (lvE 0 [vR 79, vR (ad (1002 + 8 * n)), vI x]) [] S (fun r S' => r = .inl none ∧ S' = uI (uI (uI S (ad (1002 + 8 * n)) 1 x) (ad (1002 + 8 * n)) 8 0) 79 11 (kI κ 79 11 - 1)) := by
      refine w_X6_end_0 79 (ad (1002 + 8 * n)) x ⟨kp, 1, by decide, C_of_V rfl (Nat.le_of_ble_eq_true rfl) rfl (w_X10_end_0 _ x ⟨kp, by rw [r27]; exact k27, fun c => absurd (by rw [r27, z27]; rfl) c, fun _ => w_X10_end_16 _ x 0 ⟨kp, fun S2 e2 S3 e3 S4 e4 => ⟨_, rfl, ?_⟩⟩⟩)⟩
      have f4 : S4 = uI (uI S (ad (1002 + 8 * n)) 1 x) (ad (1002 + 8 * n)) 8 0 := by
        rw [e4, e3, e2]
        exact uR_same r27
      refine ⟨by rw [f4]; exact k79, fun S8 e8 => ⟨fun _ => w_X6_end_56 _ _ _ _ ⟨rfl, ?_⟩, fun c => absurd rfl c⟩⟩
      have g : gI S4 79 11 = kI κ 79 11 := by rw [f4, gI_uI_ne (Ne.symm ne), gI_uI_ne (Ne.symm ne)]; exact g11
      rw [e8, g, f4]
    obtain ⟨r2, S2, cr, rfl, rfl⟩ := C_of_V (M := MX6_end) (as := [vR 79, vR (ad (1002 + 8 * n)), vI x]) rfl (Nat.le_of_ble_eq_true rfl) rfl V1
    refine ⟨ad, _, ?_, C3, fun _ _ _ => rfl, f3⟩
    rw [ea, e79 hC]; exact cr
  · obtain ⟨hs12, hw0⟩ := hs c0
    refine ⟨.inl none, cI (mvR (endV κ (1002 + 8 * n) x) (1003 + 8 * n) (1004 + 8 * s)) 79 8 (nI (s + 1)), ⟨Mo.refl, fun ad S hC => ?_⟩, rfl, q2 c0⟩
    obtain ⟨C3, f3⟩ := pre hC
    have kp := hC.k hp
    have k79 : isK S 79 6 := by have := hC.k h79; rw [e79 hC] at this; exact this
    have h90 : isH κ 90 26 := fixH 90 26 (by decide) rfl
    have k90 : isK S 90 26 := by have := hC.k h90; rw [e90 hC] at this; exact this
    have n90 : gN S 90 = 12 := by have := hC.n h90 (by decide); rw [e90 hC] at this; rw [this]; exact hC.2.2.2.2.2.2.2.2.2.2.2.2.2.2.2.2.2.2.2.2 (90, 12) (by decide)
    have r6 : gR S 79 6 = 90 := by have := hC.2.2.2.1 (79, 6, 90) (by decide); rw [e79 hC, e90 hC] at this; exact this
    have hv := hC.2.2.2.2.2.1 n n1 n2
    have hrow := isH_cells (κ := κ) n1 n2 c0
    have lrow := hC.1 _ hrow.1
    have lp := hC.1 _ hp.1
    have ne : ad (1002 + 8 * n) ≠ 79 := fun z => by have := hC.2.1 _ 79 hp.1 h79.1 (z.trans (e79 hC).symm); omega
    have ne90 : ad (1002 + 8 * n) ≠ 90 := fun z => by have := hC.2.1 _ 90 hp.1 h90.1 (z.trans (e90 hC).symm); omega
    have g11 : gI S 79 11 = kI κ 79 11 := by have := hC.i (k := 11) h79.1; rw [e79 hC] at this; exact this
    have g8 : gI S 79 8 = nI s := by have := hC.i (k := 8) h79.1; rw [e79 hC] at this; exact this.trans h8
    have nrow : ¬ nI (gN S (gR S (ad (1002 + 8 * n)) 12)) = 0 := by
      rw [hv.1, hC.n hrow (by decide)]
      intro z
      rw [show (0 : Int32) = nI 0 from rfl, eq_nI hwl (by decide)] at z
      exact c0 z
    -- the end
    obtain ⟨C4, ob4, f4⟩ := C3.mvOut (S' := uR (uR (uI (uI (uI S (ad (1002 + 8 * n)) 1 x) (ad (1002 + 8 * n)) 8 0) 79 11 (kI κ 79 11 - 1)) (ad (1002 + 8 * n)) 12 27) 90 s (ad (1003 + 8 * n))) (ad' := fun g => if g = 1004 + 8 * s then ad (1003 + 8 * n) else if g = 1003 + 8 * n then 27 else ad g) n1 n2 hs12 c0 hw0 rfl rfl rfl rfl rfl rfl (by rw [gR_uR, if_neg (fun z => ne90 z.1), gR_uR, if_pos ⟨rfl, rfl⟩]) (by rw [e90 hC, gR_uR, if_pos ⟨rfl, rfl⟩]) (fun a j h1 h2 => by rw [e90 hC] at h2; rw [gR_uR, if_neg h2, gR_uR, if_neg h1]) (if_pos rfl) (by show (if 1003 + 8 * n = 1004 + 8 * s then _ else _) = _; rw [if_neg (by omega), if_pos rfl]) (fun g h1 h2 => by show (if g = _ then _ else _) = _; rw [if_neg h2, if_neg h1])
    obtain ⟨C5, f5⟩ := C4.setI (h := 79) (k := 8) (v := nI (s + 1)) (Or.inl (by decide)) (fun e => absurd e (by decide))
    have a79 : (if 79 = 1004 + 8 * s then ad (1003 + 8 * n) else if 79 = 1003 + 8 * n then 27 else ad 79) = 79 := by
      rw [if_neg (by omega), if_neg (by omega)]; exact e79 hC
    rw [a79] at C5 f5
    have V1 : V X 2 MX6_end 0 (lvE 0 [vR 79, vR (ad (1002 + 8 * n)), vI x]) [] S (fun r S' => r = .inl none ∧ S' = uI (uR (uR (uI (uI (uI S (ad (1002 + 8 * n)) 1 x) (ad (1002 + 8 * n)) 8 0) 79 11 (kI κ 79 11 - 1)) (ad (1002 + 8 * n)) 12 27) 90 s (ad (1003 + 8 * n))) 79 8 (nI (s + 1))) := by
      refine w_X6_end_0 79 (ad (1002 + 8 * n)) x ⟨kp, 1, by decide, C_of_V rfl (Nat.le_of_ble_eq_true rfl) rfl (w_X10_end_0 _ x ⟨kp, by rw [hv.1]; exact hC.k hrow, fun _ => w_X10_end_16 _ x _ ⟨kp, fun S2 e2 S3 e3 S4 e4 => ⟨_, rfl, ?_⟩⟩, fun c => absurd c nrow⟩)⟩
      rw [hv.1]
      have f4 : S4 = uR (uI (uI S (ad (1002 + 8 * n)) 1 x) (ad (1002 + 8 * n)) 8 0) (ad (1002 + 8 * n)) 12 27 := by rw [e4, e3, e2]
      refine ⟨by rw [f4]; exact k79, fun S8 e8 => ⟨fun c => absurd c (by omega), fun _ => ?_⟩⟩
      have g : gI S4 79 11 = kI κ 79 11 := by rw [f4]; show gI (uI (uI S _ 1 x) _ 8 0) 79 11 = _; rw [gI_uI_ne (Ne.symm ne), gI_uI_ne (Ne.symm ne)]; exact g11
      have g8' : gI S8 79 8 = nI s := by rw [e8, gI_uI_nk (by decide), f4]; show gI (uI (uI S _ 1 x) _ 8 0) 79 8 = _; rw [gI_uI_ne (Ne.symm ne), gI_uI_ne (Ne.symm ne)]; exact g8
      have r6' : gR S4 79 6 = 90 := by rw [f4, gR_uR, if_neg (fun z => ne z.1.symm)]; exact r6
      rw [g8', r6']
      refine ⟨fun c => absurd c (nI_pos (by omega)), fun _ => ⟨fun c => ?_, fun _ => ⟨by rw [f4]; exact k90, by rw [f4]; show vp_in (nI s) (gN S 90); rw [n90]; exact vp_in_lt hs12 (by omega), by rw [f4]; exact hC.k hrow, by omega, by omega, fun S17 e17 S18 e18 => w_X6_end_56 _ _ _ _ ⟨rfl, ?_⟩⟩⟩⟩
      · rw [litI 12, le_nI (by omega) (by omega)] at c; omega
      · rw [cl_nI (by omega)] at e17
        rw [nI_1] at e18
        rw [e18, e17, e8, g, f4]; rfl
    obtain ⟨r2, S2, cr, rfl, rfl⟩ := C_of_V (M := MX6_end) (as := [vR 79, vR (ad (1002 + 8 * n)), vI x]) rfl (Nat.le_of_ble_eq_true rfl) rfl V1
    refine ⟨_, _, ?_, C5, ob4, (f3.trans f4).trans f5⟩
    rw [ea, e79 hC]; exact cr
