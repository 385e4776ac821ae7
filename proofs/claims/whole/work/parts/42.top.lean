/-! the law over the two views: the class by handles, the reference by fields -/
theorem CV.fr {ad : Nat → Nat} {κ : Km} {S S' : Mem} (hC : CV ad κ S) (f : Fr 92 S S') : CV ad κ S' := by
  obtain ⟨c1, c2, c3, c4, c5, c6, c7, c8, c9, c10, c11, c12, c13, c14, c15, c16, c17, c18, c19, c20, c21⟩ := hC
  obtain ⟨f1, f2, f3, f4, f5, f6⟩ := f
  refine ⟨fun h hl => ?_, c2, c3, by rw [f1]; exact c4, by rw [f1]; exact c5, by rw [f1]; exact c6, by rw [f1]; exact c7, c8, by rw [f1]; exact c9, by rw [f1]; exact c10, by rw [f1]; exact c11, c12, c13, by rw [f4]; exact c14, by rw [f5]; exact c15, by rw [f4]; exact c16, c17.fr ⟨f1, f2, f3, f4, f5, f6⟩, by rw [f2]; exact c18, by rw [f3]; exact c19, c20, c21⟩
  obtain ⟨b1, b2, b3, b4, b5, b6, b7⟩ := c1 h hl
  have g := f6 (ad h) (by omega)
  rw [f2, f3, f4, g.1, g.2]
  exact ⟨b1, b2, b3, b4, b5, b6, b7⟩
/-- the class's view of the memory behind both constructors -/
def kap (T : Mem) : Km := (fun h k => if h < 92 then gI T h k else 0, fun h k => if h < 92 then gL T h k else 0, fun h => if h < 92 then gN T h else 0, 0, 0, 0, tp T, sz T)
theorem kap_I {T : Mem} {h k : Nat} (hh : h < 92) : kI (kap T) h k = gI T h k := if_pos hh
theorem kap_L {T : Mem} {h k : Nat} (hh : h < 92) : kL (kap T) h k = gL T h k := if_pos hh
theorem kap_W {T : Mem} {h : Nat} (hh : h < 92) : kW (kap T) h = gN T h := if_pos hh
theorem kap_live {T : Mem} {h : Nat} (hl : live (kap T) h) : 64 ≤ h ∧ h < 92 := by
  unfold live at hl
  have e1 : kB (kap T) = 0 := rfl
  have e2 : kV (kap T) = 0 := rfl
  have e3 : kW (kap T) h = if h < 92 then gN T h else 0 := rfl
  rw [e1, e2, e3] at hl
  by_cases c : h < 92
  · omega
  · rw [if_neg c] at hl; omega
theorem lt92 {P : Nat → Prop} (h : ∀ i : Fin 28, P (64 + i.1)) : ∀ a, 64 ≤ a → a < 92 → P a := fun a h1 h2 => by
  have := h ⟨a - 64, by omega⟩
  rwa [show 64 + (a - 64) = a by omega] at this
def hKP : List (Nat × Nat) := [(64, 11), (65, 8), (66, 20), (67, 7), (68, 1), (69, 20), (70, 21), (71, 24), (72, 9), (73, 22), (74, 21), (75, 21), (76, 22), (77, 5), (78, 3), (79, 6), (80, 4), (81, 21), (82, 4), (83, 21), (84, 2), (85, 21), (86, 21), (87, 21), (88, 21), (89, 25), (90, 26), (91, 21)]
theorem mC0_kp {L : Nat} {fx : Nat → Int32} : ∀ q ∈ hKP, gK (mC0 L fx) q.1 = q.2 := by
  unfold hKP
  simp only [List.forall_mem_cons]
  exact ⟨rfl, rfl, rfl, rfl, rfl, rfl, rfl, rfl, rfl, rfl, rfl, rfl, rfl, rfl, rfl, rfl, rfl, rfl, rfl, rfl, rfl, rfl, rfl, rfl, rfl, rfl, rfl, rfl, fun _ h => absurd h List.not_mem_nil⟩
theorem mC0_kk {L : Nat} {fx : Nat → Int32} : ∀ a, 64 ≤ a → a < 92 → gK (mC0 L fx) a = hk a := fun a h1 h2 => mC0_kp (a, hk a) (lt92 (P := fun a => (a, hk a) ∈ hKP) (by decide) a h1 h2)
theorem mC0_69 {L : Nat} {fx : Nat → Int32} (i : Nat) : gI (mC0 L fx) 69 i = 0 := rfl
theorem mC0_rr {L : Nat} {fx : Nat → Int32} : ∀ q ∈ hRs, gR (mC0 L fx) q.1 q.2.1 = q.2.2 := by
  unfold hRs
  simp only [List.forall_mem_cons]
  exact ⟨rfl, rfl, rfl, rfl, rfl, rfl, rfl, rfl, rfl, rfl, rfl, rfl, rfl, rfl, rfl, rfl, rfl, rfl, rfl, rfl, rfl, rfl, rfl, rfl, rfl, rfl, rfl, rfl, rfl, rfl, rfl, rfl, rfl, rfl, rfl, fun _ h => absurd h List.not_mem_nil⟩
theorem start_CV {L : Nat} {fx : Nat → Int32} {T : Mem} (h : Lk (nw (mC0 L fx) 13 0 103) 92 75 T) : CV (fun x => x) (kap T) T ∧ (∀ a, a < 92 → gI T a = gI (mC0 L fx) a ∧ gL T a = gL (mC0 L fx) a ∧ gN T a = gN (mC0 L fx) a) := by
  obtain ⟨F, Ly, hv, hl, hx, ht, hz⟩ := fresh_T h
  have h8 := h.2.2.2.2.2.2.2.1
  have n0 : ∀ a, a < 92 → ¬ a = tp (mC0 L fx) := fun a ha => by rw [mC0_tp]; omega
  have fI : ∀ a, a < 92 → gI T a = gI (mC0 L fx) a := fun a ha => (h8 a ha).1.trans (by funext j; rw [gI_nw, if_neg (n0 a ha)])
  have fL : ∀ a, a < 92 → gL T a = gL (mC0 L fx) a := fun a ha => (h8 a ha).2.1.trans (by funext j; rw [gL_nw, if_neg (n0 a ha)])
  have fR : ∀ a, a < 92 → gR T a = gR (mC0 L fx) a := fun a ha => (h8 a ha).2.2.1.trans (by funext j; rw [gR_nw, if_neg (n0 a ha)])
  have fK : ∀ a, a < 92 → gK T a = gK (mC0 L fx) a := fun a ha => (h8 a ha).2.2.2.1.trans (by rw [gK_nw, if_neg (n0 a ha)])
  have fN : ∀ a, a < 92 → gN T a = gN (mC0 L fx) a := fun a ha => (h8 a ha).2.2.2.2.trans (by rw [gN_nw, if_neg (n0 a ha)])
  refine ⟨⟨fun g hg => ?_, fun _ _ _ _ e => e, fun _ _ => rfl, fun q hq => ?_, fun i hi => absurd hi (Nat.not_lt_zero _), fun n h1 h2 => ?_, ?_, Or.inl rfl, fun i hi => ?_, fun i hi => ?_, fun s hs h0 => ?_, Nat.zero_le _, Nat.zero_le _, rfl, rfl, by omega, Ly, ?_, ?_, fun i => ?_, fun q hq => ?_⟩, fun a ha => ⟨fI a ha, fL a ha, fN a ha⟩⟩
  · obtain ⟨g1, g2⟩ := kap_live hg
    refine ⟨g1, by show g < tp T; omega, Or.inl g2, by rw [fK g g2]; exact mC0_kk g g1 g2, fun _ => ?_, ?_, ?_⟩
    · show _ = if g < 92 then gN T g else 0; rw [if_pos g2]
    · funext j; show _ = if g < 92 then gI T g j else 0; rw [if_pos g2]
    · funext j; show _ = if g < 92 then gL T g j else 0; rw [if_pos g2]
  · have b : ∀ q ∈ hRs, q.1 < 92 := by decide
    rw [fR _ (b q hq)]; exact mC0_rr q hq
  · have : n ≤ 0 := h2
    omega
  · show gR T 77 3 = 0
    rw [fR 77 (by decide)]; rfl
  · show gR T 71 i = if i < 0 then _ else 0
    rw [if_neg (Nat.not_lt_zero _), fR 71 (by decide)]; rfl
  · show gR T 89 i = if 1 ≤ i ∧ i ≤ 0 then _ else 0
    rw [if_neg (by omega), fR 89 (by decide)]; rfl
  · refine absurd ?_ h0
    show (if 1004 + 8 * s < 92 then _ else 0) = 0
    rw [if_neg (by omega)]
  · rw [fK 27 (by decide)]; rfl
  · rw [fN 27 (by decide)]; rfl
  · have e : kI (kap T) 69 i = 0 := (kap_I (by decide)).trans ((congrFun (fI 69 (by decide)) i).trans (mC0_69 i))
    rw [e]; decide
  · have b : ∀ q ∈ cNs, q.1 < 92 := by decide
    show (if q.1 < 92 then gN T q.1 else 0) = q.2
    rw [if_pos (b q hq), fN _ (b q hq)]; exact mC0_n q hq
/-- a call of both, over the two views -/
def P2I (X : Cx) (M1 M2 : MI) (as : List AV) (κ : Km) (σ : Rm) (R : Km → Rm → Prop) : Prop := ∃ e e', e + 1 ≤ 2048 ∧ e' + 1 ≤ 2048 ∧ KC' X e M1 (vR 64 :: as) κ (kRI fun y κ' => AC X 92 e' M2 (vR 92 :: as) σ (aRI fun y' σ' => y = y' ∧ R κ' σ'))
def P2J (X : Cx) (M1 M2 : MI) (as : List AV) (κ : Km) (σ : Rm) (R : Km → Rm → Prop) : Prop := ∃ e e', e + 1 ≤ 2048 ∧ e' + 1 ≤ 2048 ∧ KC' X e M1 (vR 64 :: as) κ (kRJ fun y κ' => AC X 92 e' M2 (vR 92 :: as) σ (aRJ fun y' σ' => y = y' ∧ R κ' σ'))
def P2C (X : Cx) (κ : Km) (σ : Rm) (R : Km → Rm → Prop) : Prop := ∃ e e', e + 1 ≤ 2048 ∧ e' + 1 ≤ 2048 ∧ KC' X e MX11_compile [vR 64] κ (kRI fun y κ' => ACc X 92 e' [vR 92] σ (aRI fun y' σ' => y = y' ∧ R κ' σ'))
/-- numbers only -/
def nums : List AV → Prop
  | [] => True
  | .inr (.inr _) :: _ => False
  | _ :: r => nums r
theorem mps_nums {ad : Nat → Nat} : ∀ as : List AV, nums as → mps ad as = as := by
  intro as
  induction as with
  | nil => intro _; rfl
  | cons v r ih =>
    intro h
    rcases v with x | x | x
    · show Sum.inl x :: mps ad r = _; rw [ih h]
    · show Sum.inr (Sum.inl x) :: mps ad r = _; rw [ih h]
    · exact absurd h id
/-- both views of one memory, and the script -/
def Both (R : Km → Rm → Prop) (L : Nat) (S : Mem) : Prop := ∃ (ad : Nat → Nat) (κ : Km), CV ad κ S ∧ R κ (vw 92 S) ∧ gN S 1 = L
theorem P2I.pi {X : Cx} {M1 M2 : MI} {as : List AV} {κ : Km} {R : Km → Rm → Prop} {L : Nat} {ad : Nat → Nat} {S : Mem} (hn : nums as) (hC : CV ad κ S) (hL : gN S 1 = L) (h : P2I X M1 M2 as κ (vw 92 S) R) : PI X M1 M2 as S (Both R L) := by
  obtain ⟨e, e', he, he', r, κ', ⟨mo, cr⟩, y, rfl, hA⟩ := h
  obtain ⟨ad', S', c, C', ob, f⟩ := cr ad S hC
  have ea : mps ad (vR 64 :: as) = vR 64 :: as := by
    rw [mps_R (by decide), mps_nums as hn, hC.2.2.1 64 (by unfold still; decide)]
  rw [ea] at c
  refine ⟨e, he, ⟨.inl (some (vI y)), S', c, y, rfl, C'.2.2.2.2.2.2.2.2.2.2.2.2.2.2.2.2.1.2.1, f.2.1, f.2.2, e', he', ?_⟩⟩
  rw [← f.1] at hA
  refine C_of_AC C'.2.2.2.2.2.2.2.2.2.2.2.2.2.2.2.2.1 hA ?_
  rintro r2 σ' T' ⟨y', rfl, rfl, hR⟩ hv hf
  refine ⟨_, rfl, rfl, ad', κ', C'.fr hf, by rw [hv]; exact hR, ?_⟩
  rw [hf.2.2.1, f.2.1]; exact hL
theorem P2J.pj {X : Cx} {M1 M2 : MI} {as : List AV} {κ : Km} {R : Km → Rm → Prop} {L : Nat} {ad : Nat → Nat} {S : Mem} (hn : nums as) (hC : CV ad κ S) (hL : gN S 1 = L) (h : P2J X M1 M2 as κ (vw 92 S) R) : PJ X M1 M2 as S (Both R L) := by
  obtain ⟨e, e', he, he', r, κ', ⟨mo, cr⟩, y, rfl, hA⟩ := h
  obtain ⟨ad', S', c, C', ob, f⟩ := cr ad S hC
  have ea : mps ad (vR 64 :: as) = vR 64 :: as := by
    rw [mps_R (by decide), mps_nums as hn, hC.2.2.1 64 (by unfold still; decide)]
  rw [ea] at c
  refine ⟨e, he, ⟨.inl (some (vL y)), S', c, y, rfl, C'.2.2.2.2.2.2.2.2.2.2.2.2.2.2.2.2.1.2.1, f.2.1, f.2.2, e', he', ?_⟩⟩
  rw [← f.1] at hA
  refine C_of_AC C'.2.2.2.2.2.2.2.2.2.2.2.2.2.2.2.2.1 hA ?_
  rintro r2 σ' T' ⟨y', rfl, rfl, hR⟩ hv hf
  refine ⟨_, rfl, rfl, ad', κ', C'.fr hf, by rw [hv]; exact hR, ?_⟩
  rw [hf.2.2.1, f.2.1]; exact hL
theorem P2C.pc {X : Cx} {κ : Km} {R : Km → Rm → Prop} {L : Nat} {ad : Nat → Nat} {S : Mem} (hC : CV ad κ S) (hL : gN S 1 = L) (h : P2C X κ (vw 92 S) R) : PC X S (Both R L) := by
  obtain ⟨e, e', he, he', r, κ', ⟨mo, cr⟩, y, rfl, hA⟩ := h
  obtain ⟨ad', S', c, C', ob, f⟩ := cr ad S hC
  have ea : mps ad [vR 64] = [vR 64] := by
    rw [mps_R (by decide), hC.2.2.1 64 (by unfold still; decide)]; rfl
  rw [ea] at c
  refine ⟨e, he, ⟨.inl (some (vI y)), S', c, y, rfl, C'.2.2.2.2.2.2.2.2.2.2.2.2.2.2.2.2.1.2.1, f.2.1, f.2.2, e', he', ?_⟩⟩
  rw [← f.1] at hA
  refine Cc_of_ACc C'.2.2.2.2.2.2.2.2.2.2.2.2.2.2.2.2.1 hA ?_
  rintro r2 σ' T' ⟨y', rfl, rfl, hR⟩ hv hf
  refine ⟨_, rfl, rfl, ad', κ', C'.fr hf, by rw [hv]; exact hR, ?_⟩
  rw [hf.2.2.1, f.2.1]; exact hL
def Ops2 (X : Cx) (κ : Km) (σ : Rm) (R : Km → Rm → Prop) : Prop := (∀ (l : Int64) (x : Int32), P2I X MX11_feed MX13_feed [vL l, vI x] κ σ R) ∧ P2I X MX11_drop MX13_drop [] κ σ R ∧ P2C X κ σ R ∧ (∀ x0 x1 : Int32, P2I X MX11_body MX13_body [vI x0, vI x1] κ σ R) ∧ (∀ x0 x1 : Int32, P2I X MX11_voice MX13_voice [vI x0, vI x1] κ σ R) ∧ (∀ x0 x1 : Int32, P2I X MX11_resume MX13_resume [vI x0, vI x1] κ σ R) ∧ (∀ x0 x1 x2 : Int32, P2I X MX11_inject MX13_inject [vI x0, vI x1, vI x2] κ σ R) ∧ (∀ x0 : Int32, P2I X MX11_close MX13_close [vI x0] κ σ R) ∧ P2I X MX11_sweep MX13_sweep [] κ σ R ∧ P2I X MX11_answer MX13_answer [] κ σ R ∧ (∀ x0 x1 : Int32, P2I X MX11_told MX13_told [vI x0, vI x1] κ σ R) ∧ (∀ x0 x1 x2 : Int32, P2I X MX11_local MX13_local [vI x0, vI x1, vI x2] κ σ R) ∧ P2I X MX11_lines MX13_lines [] κ σ R ∧ (∀ x0 x1 : Int32, P2I X MX11_line MX13_line [vI x0, vI x1] κ σ R) ∧ P2I X MX11_handings MX13_handings [] κ σ R ∧ (∀ x0 x1 : Int32, P2I X MX11_handing MX13_handing [vI x0, vI x1] κ σ R) ∧ P2I X MX11_failures MX13_failures [] κ σ R ∧ (∀ x0 x1 : Int32, P2I X MX11_failure MX13_failure_ [vI x0, vI x1] κ σ R) ∧ (∀ x0 : Int32, P2I X MX11_ring MX13_ring [vI x0] κ σ R) ∧ (∀ x0 : Int32, P2I X MX11_count MX13_count [vI x0] κ σ R) ∧ P2J X MX11_digest MX13_digest [] κ σ R
theorem Ops2.ops {X : Cx} {κ : Km} {R : Km → Rm → Prop} {L : Nat} {ad : Nat → Nat} {S : Mem} (hC : CV ad κ S) (hL : gN S 1 = L) (h : Ops2 X κ (vw 92 S) R) : Ops X S (Both R L) := by
  obtain ⟨o0, o1, o2, o3, o4, o5, o6, o7, o8, o9, o10, o11, o12, o13, o14, o15, o16, o17, o18, o19, o20⟩ := h
  exact ⟨fun l x => (o0 l x).pi trivial hC hL, o1.pi trivial hC hL, o2.pc hC hL, fun a b => (o3 a b).pi trivial hC hL, fun a b => (o4 a b).pi trivial hC hL, fun a b => (o5 a b).pi trivial hC hL, fun a b c => (o6 a b c).pi trivial hC hL, fun a => (o7 a).pi trivial hC hL, o8.pi trivial hC hL, o9.pi trivial hC hL, fun a b => (o10 a b).pi trivial hC hL, fun a b c => (o11 a b c).pi trivial hC hL, o12.pi trivial hC hL, fun a b => (o13 a b).pi trivial hC hL, o14.pi trivial hC hL, fun a b => (o15 a b).pi trivial hC hL, o16.pi trivial hC hL, fun a b => (o17 a b).pi trivial hC hL, fun a => (o18 a).pi trivial hC hL, fun a => (o19 a).pi trivial hC hL, o20.pj trivial hC hL⟩
/-- THE LAW OUT OF A RELATION OF THE TWO VIEWS -/
theorem law_rel {X : Cx} (hL : xL X ≤ 2048) (R : Km → Rm → Prop) (hb : ∀ κ σ, R κ σ → kT κ ≤ 600000 ∧ kZ κ ≤ 7000000) (h0 : ∀ T, Lk (nw (mC0 (xL X) (xf X)) 13 0 103) 92 75 T → R (kap T) sg0) (hops : ∀ κ σ, R κ σ → Ops2 X κ σ R) : V X 2048 ML_law 0 [(0, vR 1)] [] (mem0 (xL X) (xf X)) LawQ := by
  refine law_start (fun T hT => ?_)
  obtain ⟨f1, f2, f3, f4, f5, f6, f7⟩ := fresh_T hT
  refine law_loop (X := X) (L := xL X) hL (fun _ S => Both R (xL X) S) (fun k S ⟨ad, κ, hC, hR, hl⟩ => ?_) (fun _ _ h => h) (fun k S ⟨ad, κ, hC, hR, hl⟩ _ => (hops κ _ hR).ops hC hl) 513 0 T (by decide) (by omega) ⟨_, kap T, (start_CV hT).1, by rw [f3]; exact h0 T hT, f4⟩
  have hb2 := hb _ _ hR
  refine ⟨?_, hC.2.2.2.2.2.2.2.2.2.2.2.2.2.2.2.2.1.2.1, hl, by rw [hC.2.2.2.2.2.2.2.2.2.2.2.2.2.1]; exact hb2.1, by rw [hC.2.2.2.2.2.2.2.2.2.2.2.2.2.2.1]; exact hb2.2⟩
  have := hC.k (fixH (κ := κ) 64 11 (by decide) rfl)
  rw [hC.2.2.1 64 (by unfold still; decide)] at this
  exact this
