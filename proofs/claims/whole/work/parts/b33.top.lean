/-! THE LAW: the relation of both from the start to the end of the script -/
section TOPPED
variable {X : Cx} {κ : Km} {σ : Rm} {k : Nat}
/-- as law_rel, with a count of the calls -/
theorem law_relk {X : Cx} (hL : xL X ≤ 2048) (R : Nat → Km → Rm → Prop) (hb : ∀ k κ σ, R k κ σ → kT κ ≤ 600000 ∧ kZ κ ≤ 7000000) (hu : ∀ k κ σ, R k κ σ → R (k + 1) κ σ) (h0 : ∀ T, Lk (nw (mC0 (xL X) (xf X)) 13 0 103) 92 75 T → R 0 (kap T) sg0) (hops : ∀ k κ σ, k ≤ 600 → R k κ σ → Ops2 X κ σ (R (k + 1))) : V X 2048 ML_law 0 [(0, vR 1)] [] (mem0 (xL X) (xf X)) LawQ := by
  refine law_start (fun T hT => ?_)
  obtain ⟨f1, f2, f3, f4, f5, f6, f7⟩ := fresh_T hT
  refine law_loop (X := X) (L := xL X) hL (fun k S => Both (R k) (xL X) S) (fun k S ⟨ad, κ, hC, hR, hl⟩ => ?_) (fun k S ⟨ad, κ, hC, hR, hl⟩ => ⟨ad, κ, hC, hu k κ _ hR, hl⟩) (fun k S ⟨ad, κ, hC, hR, hl⟩ h4 => (hops k κ _ (by omega) hR).ops hC hl) 513 0 T (by decide) (by omega) ⟨_, kap T, (start_CV hT).1, by rw [f3]; exact h0 T hT, f4⟩
  have hb2 := hb k _ _ hR
  refine ⟨?_, hC.2.2.2.2.2.2.2.2.2.2.2.2.2.2.2.2.1.2.1, hl, by rw [hC.2.2.2.2.2.2.2.2.2.2.2.2.2.1]; exact hb2.1, by rw [hC.2.2.2.2.2.2.2.2.2.2.2.2.2.2.1]; exact hb2.2⟩
  have := hC.k (fixH (κ := κ) 64 11 (by decide) rfl)
  rw [hC.2.2.1 64 (by unfold still; decide)] at this
  exact this
/-- both are new -/
theorem start_Rr {L : Nat} {fx : Nat → Int32} {T : Mem} (h : Lk (nw (mC0 L fx) 13 0 103) 92 75 T) : Rr 0 (kap T) sg0 := by
  obtain ⟨F, Ly, hv, hl, hx, ht, hz⟩ := fresh_T h
  obtain ⟨-, h8⟩ := start_CV h
  have eI : ∀ a, a < 92 → kI (kap T) a = gI (mC0 L fx) a := fun a ha => by
    funext j
    rw [kap_I ha, (h8 a ha).1]
  have eW : ∀ a, a < 92 → kW (kap T) a = gN (mC0 L fx) a := fun a ha => by rw [kap_W ha, (h8 a ha).2.2]
  have eL : ∀ a j, a < 92 → kL (kap T) a j = gL (mC0 L fx) a j := fun a j ha => by rw [kap_L ha, (h8 a ha).2.1]
  have w0 : ∀ a, 92 ≤ a → kW (kap T) a = 0 := fun a ha => if_neg (by omega)
  refine Or.inl ⟨⟨⟨0, ⟨?_, ?_, by omega, fun i => ?_⟩, rfl, fun i hi => absurd hi (Nat.not_lt_zero _)⟩, ⟨⟨64, by omega, by omega, ?_, ?_, ?_⟩, ⟨?_, fun w hw => ?_⟩, ⟨⟨128, ?_, ?_, by omega, by omega⟩, Nat.zero_le _, fun i hi => absurd hi (Nat.not_lt_zero _)⟩, ⟨rfl, rfl, rfl⟩⟩, ⟨w0 1003 (by omega), kap T, RG.refl, ?_, hz⟩, ?_, rfl⟩, 0, ⟨?_, by omega, Nat.zero_le _, Nat.zero_le _⟩, ?_, ?_, fun k hk => ⟨fun z => absurd z (Nat.not_lt_zero _), fun _ => w0 _ (by omega)⟩, fun n h1 h2 => w0 _ (by omega), fun n n1 n2 => by omega, ⟨?_, ?_, ?_, ?_⟩, ?_, ?_, ?_⟩
  · rw [eI 65 (by decide)]; rfl
  · rw [eW 66 (by decide)]; rfl
  · rw [eI 66 (by decide), show gI (mC0 L fx) 66 i = 0 from rfl]
    unfold i8
    decide
  · rw [eW 74 (by decide)]; rfl
  · rw [eW 75 (by decide)]; rfl
  · rw [eW 76 (by decide)]; rfl
  · rw [eW 73 (by decide)]; rfl
  · rw [eL 73 w (by decide)]; exact mC0_l hw
  · rw [eW 69 (by decide)]; rfl
  · rw [eW 70 (by decide)]; rfl
  · show tp T ≤ 168
    omega
  · rw [eI 64 (by decide)]; rfl
  · rw [eI 79 (by decide)]; rfl
  · rw [eI 79 (by decide)]; rfl
  · have e : cn (hwd (kap T)) 60 = 0 := (cn_cg 60 (fun n n1 n2 => if_pos (w0 _ (by omega)))).trans (cn_0 60)
    omega
  · rw [eW 91 (by decide)]; rfl
  · rw [eW 86 (by decide)]; rfl
  · rw [eW 87 (by decide)]; rfl
  · rw [eW 88 (by decide)]; rfl
  · rw [eW 81 (by decide)]; exact ⟨Nat.le_refl 32, by show (32 : Nat) ≤ 1200; omega⟩
  · rw [eW 83 (by decide)]; exact ⟨Nat.le_refl 32, by show (32 : Nat) ≤ 1200; omega⟩
  · rw [eW 85 (by decide)]; exact ⟨Nat.le_refl 64, by show (64 : Nat) ≤ 140000; omega⟩
/-- every call of both -/
theorem ops_ok (h : Rr k κ σ) (hk : k ≤ 600) : Ops2 X κ σ (Rr (k + 1)) := ⟨fun _ _ => feed_ok h, drop_ok h, compile_ok h, fun _ _ => body_ok h, fun _ _ => voice_ok h, fun _ _ => resume_ok h (by omega), fun _ _ _ => inject_ok h (by omega), fun _ => close_ok h (by omega), sweep_ok h (by omega), answer_ok h, fun _ _ => told_ok h, fun _ _ _ => local_ok h, lines_ok h, fun _ _ => line_ok h, handings_ok h, fun _ _ => handing_ok h, failures_ok h, fun _ _ => failure_ok h, fun _ => ring_ok h, fun _ => count_ok h, digest_ok h⟩
/-- THE LAW'S RUN -/
theorem law_all {X : Cx} (hL : xL X ≤ 2048) : V X 2048 ML_law 0 [(0, vR 1)] [] (mem0 (xL X) (xf X)) LawQ := law_relk hL Rr (fun _ _ _ h => h.room) (fun _ _ _ h => h.up (Nat.le_succ _)) (fun _ hT => start_Rr hT) (fun _ _ _ hk h => ops_ok h hk)
end TOPPED
