/-! try: its end -/
section TRE
variable {X : Cx} {N b P : Nat} {κ κ0 κ1 κ2 κn κk κb κp κ' : Km} {σ σ0 σ1 σ2 σn σk σb σ' : Rm}
theorem kc_argument {F : Int32 → Km → Prop} {k : Nat} (h : Ps κ σ N b P) (hk : k < iC κ) (hi : iC κ < 20000) (q : F (kI κ 70 k) κ) : KC' X 0 MX1_argument [vR 68, vI (nI k)] κ (kRI F) := by
  obtain ⟨w, w1, w2, w3, w4, w5⟩ := h.2.2.2.2.2.2.2.2.2.2.1
  refine KC_of_K rfl (Nat.le_of_ble_eq_true rfl) rfl (k_1_argument_0 _ ⟨fun z => absurd z (nI_pos (by omega)), fun _ => ?_⟩)
  rw [h.2.2.2.2.2.2.2.2.2.1, lt_nI (by omega) (by omega), w2, vpn (by omega), cl_nI (by omega)]
  exact ⟨fun _ => ⟨by omega, k_1_argument_22 _ _ ⟨_, rfl, q⟩⟩, fun z => absurd hk z⟩
/-- the JUMPs that leave know where to -/
def PL (N b P : Nat) (κ : Km) (σ : Rm) (lv : List Nat) (κ' : Km) : Prop := Ps κ' σ N b P ∧ T0 b κ σ κ' σ ∧ Nu κ' σ (pC κ) (oC κ) (iC κ) (rJ σ) (rU σ) (rA σ) (rT σ) (rC σ) (rV σ) (rK σ) (rE σ) ∧ (∀ k, kI κ' 69 k = kI κ 69 k) ∧ (∀ k, k ∉ lv → kI κ' 70 k = kI κ 70 k) ∧ (∀ k, k ∈ lv → kI κ' 70 k = nI (iC κ)) ∧ kI κ' 72 = kI κ 72
theorem leaves {d0 : Nat} {x1 : Int32} {Q : Res → Km → Prop} : ∀ (lv : List Nat) (κ : Km) (y : Int32) (i : Nat), Ps κ σ N b P → iC κ < 20000 → Lch κ lv y → (∀ k, k ∈ lv → k < iC κ) → i + lv.length ≤ 3001 → 1 ≤ d0 → (∀ κ' y' i', PL N b P κ σ lv κ' → K X d0 MX5_readTry 218 [(0, vR 77), (1, vI x1), (2, vI y'), (3, vI i')] [] κ' Q) → K X d0 MX5_readTry 171 [(0, vR 77), (1, vI x1), (2, vI y), (3, vI (nI i))] [] κ Q := by
  intro lv
  induction lv with
  | nil =>
    intro κ y i h hi hl hk hlen hd q
    have hl : y = -9 := hl
    have pl : PL N b P κ σ [] κ := ⟨h, T0.refl, Nu.refl, fun _ => rfl, fun _ _ => rfl, fun k hk => absurd hk List.not_mem_nil, rfl⟩
    exact k_5_readTry_171 _ _ _ ⟨fun _ => q κ _ _ pl, fun _ => ⟨fun _ => q κ _ _ pl, fun z => absurd hl z⟩⟩
  | cons k r ih =>
    intro κ y i h hi hl hk hlen hd q
    obtain ⟨rfl, hr, hl⟩ := hl
    have hlen : i + (r.length + 1) ≤ 3001 := hlen
    have hkk := hk k List.mem_cons_self
    refine k_5_readTry_171 _ _ _ ?_
    rw [litI 3001, le_nI (by omega) (by omega)]
    refine ⟨fun z => absurd z (by omega), fun _ => ⟨fun z => ?_, fun _ => ⟨0, by omega, kc_argument h hkk hi ⟨0, by omega, kc_csize h ⟨0, by omega, kc_patch h hkk hi ?_⟩⟩⟩⟩⟩
    · have e := neg_eq (a := k) (b := 9) (by omega) (by decide) (by decide)
      exact absurd z (fun z => by rw [show (-9 : Int32) = -nI 9 by decide, e] at z; exact z)
    · rw [nI_1]
      obtain ⟨p1, t1, n1, n2, n3, n4, n5, n6, n7, n8, n9, n10, n11⟩ := h.pk (k := k) (v := nI (iC κ))
      refine ih _ _ (i + 1) p1 (by omega) (Lch.keep r _ (fun q hq => kI_nk (by have := hr q hq; omega)) hl) (fun q hq => by rw [n3]; exact hk q (List.mem_cons_of_mem _ hq)) (by omega) hd (fun κ' y' i' pl => q κ' y' i' ?_)
      obtain ⟨a1, a2, ⟨b1, b2, b3, b4⟩, a4, a5, a6, a7⟩ := pl
      refine ⟨a1, t1.trans a2, ⟨b1.trans n1, b2.trans n2, b3.trans n3, b4⟩, fun u => (a4 u).trans (by rw [kI_ne (by decide)]), fun u hu => ?_, fun u hu => ?_, a7.trans (kI_ne (by decide))⟩
      · rw [a5 u (fun z => hu (List.mem_cons_of_mem _ z)), kI_nk (fun z => hu (by rw [z]; exact List.mem_cons_self))]
      · rcases List.mem_cons.mp hu with e | hu
        · rw [e, a5 k (fun z => by have := hr k z; omega), kI_eq]
        · rw [a6 u hu, n3]
theorem PL.agr {lv : List Nat} (pl : PL N b P κn σn lv κp) (ag : Agr κ1 σ1 κ2 σ2 κn σn) (hl : ∀ k, k ∈ lv → k < iC κ1 ∨ iC κ2 ≤ k) : Agr κ1 σ1 κ2 σ2 κp σn := by
  obtain ⟨g1, g2⟩ := ag
  refine ⟨fun k l1 l2 => ?_, g2⟩
  rw [pl.2.2.2.1 k, pl.2.2.2.2.1 k (fun z => by have := hl k z; omega)]
  exact g1 k l1 l2
theorem PL.agl {lv : List Nat} (pl : PL N b P κn σn lv κp) : Agl lv (iC κn) κ σ κn σn κp σn := ⟨fun k _ _ => ⟨pl.2.2.2.1 k, pl.2.2.2.2.1 k⟩, fun _ _ _ => ⟨rfl, rfl, rfl, rfl⟩, fun _ _ _ => ⟨rfl, rfl⟩, fun _ _ _ => ⟨rfl, rfl, rfl⟩, fun _ _ _ => ⟨rfl, rfl⟩, fun _ _ _ => ⟨rfl, rfl, rfl, rfl, rfl⟩, pl.2.2.2.2.2.1⟩
theorem UsA.agl {lv : List Nat} {e v0 v1 : Nat} (h : UsA N κn σn (iC κ) (iC κn) (rJ σ) (rJ σn) (rU σ) (rU σn) (rA σ) (rA σn) v0 v1) (ag : Agl lv e κ σ κn σn κ' σ') (hl : ∀ k, k ∈ lv → kI κn 69 k = 15) (t : T0 b κn σn κ' σ') (hv : v1 ≤ rV σn) : UsA N κ' σ' (iC κ) (iC κn) (rJ σ) (rJ σn) (rU σ) (rU σn) (rA σ) (rA σn) v0 v1 :=
  h.rows (fun k l1 l2 => ⟨(ag.1 k l1 l2).1, fun z => (ag.1 k l1 l2).2 (fun hk => by
    rw [hl k hk] at z
    rcases z with z | z | z | z <;> exact absurd z (by decide))⟩) (fun q l1 l2 => (ag.2.1 q l1 l2).1) ag.2.2.1 ag.2.2.2.1 (fun v l => t.2.2.1.2.2.2.2.1 v (by omega)) (t.1.1.1 74 (by unfold hP hE; omega)).1 (t.2.1 9 (by decide)).2
theorem Agl.tw {lv : List Nat} {e : Nat} (h : Agl lv e κ σ κn σn κ1 σ1) (t0 : T0 b κn σn κ1 σ1) (t : Tr b κ1 σ1 κ2 σ2) (hl : ∀ k, k ∈ lv → k < iC κn) : Agl lv e κ σ κn σn κ2 σ2 := by
  obtain ⟨h1, h2, h3, h4, h5, h6, h7⟩ := h
  obtain ⟨-, -, -, t1, t2, t3, t4, t5, t6⟩ := t0
  obtain ⟨-, -, ⟨b1, b2, b3, b4, b5, b6, b7, b8, b9, b10, b11, b12⟩, -⟩ := t
  refine ⟨fun k l1 l2 => ?_, fun k l1 l2 => ?_, fun k l1 l2 => ?_, fun k l1 l2 => ?_, fun k l1 l2 => ?_, fun k l1 l2 => ?_, fun k hk => ?_⟩
  · have x := h1 k l1 l2
    have y := b7 k (by omega)
    exact ⟨y.1.trans x.1, fun hk => y.2.trans (x.2 hk)⟩
  · have x := h2 k l1 l2
    have y := b8 k (by omega)
    exact ⟨y.1.trans x.1, y.2.1.trans x.2.1, y.2.2.1.trans x.2.2.1, y.2.2.2.trans x.2.2.2⟩
  · have x := h3 k l1 l2
    have y := b9 k (by omega)
    exact ⟨y.1.trans x.1, y.2.trans x.2⟩
  · have x := h4 k l1 l2
    have y := b10 k (by omega)
    exact ⟨y.1.trans x.1, y.2.1.trans x.2.1, y.2.2.trans x.2.2⟩
  · have x := h5 k l1 l2
    have y := b11 k (by omega)
    exact ⟨y.1.trans x.1, y.2.trans x.2⟩
  · have x := h6 k l1 l2
    have y := b12 k (by omega)
    exact ⟨y.1.trans x.1, y.2.1.trans x.2.1, y.2.2.1.trans x.2.2.1, y.2.2.2.1.trans x.2.2.2.1, y.2.2.2.2.trans x.2.2.2.2⟩
  · have := hl k hk
    exact (b7 k (by omega)).2.trans (h7 k hk)
theorem Agl.pq {lv : List Nat} {e f : Nat} {v : Int32} (h : Agl lv e κ σ κn σn κ1 σ1) (hf : f = 27 ∨ f = 28) : Agl lv e κ σ κn σn κ1 (wI σ1 f (rT σ) v) := by
  obtain ⟨h1, h2, h3, h4, h5, h6, h7⟩ := h
  refine ⟨h1, fun q l1 l2 => ?_, fun u l1 l2 => ?_, fun u l1 l2 => ?_, fun u l1 l2 => ?_, fun u l1 l2 => ?_, h7⟩
  · rw [aI_ne (by omega), aI_ne (by omega), aI_ne (by omega), aI_ne (by omega)]; exact h2 q l1 l2
  · rw [aI_ne (by omega), aI_ne (by omega)]; exact h3 u l1 l2
  · rw [aI_ne (by omega), aI_ne (by omega), aI_ne (by omega)]; exact h4 u l1 l2
  · rw [aI_ni (by omega), aI_ni (by omega)]; exact h5 u l1 l2
  · rw [aI_ne (by omega), aI_ne (by omega), aI_ne (by omega), aI_ne (by omega), aI_ne (by omega)]; exact h6 u l1 l2
/-- what is known of the block of a try -/
def T00 (N b P : Nat) (κ : Km) (σ : Rm) (κk : Km) (σk : Rm) (κb : Km) (σb : Rm) (κ0 : Km) (σ0 : Rm) : Prop := T0 b κ σ κk σk ∧ ST N b P 0 κk σk κb σb ∧ T0 b κb σb κ0 σ0 ∧ Agr κk σk κb σb κ0 σ0 ∧ (iC κk = iC κ + 2 ∧ rJ σk = rJ σ + 2 ∧ rC σk = rC σ ∧ rT σk = rT σ + 1 ∧ iC κ0 = iC κb + 1 ∧ rJ σ0 = rJ σb + 1 ∧ rC σ0 = rC σb ∧ rT σ0 = rT σb ∧ oC κk = oC κ ∧ rE σk = rE σ ∧ rK σk = rK σ) ∧ (kI κ0 69 (iC κ) = 20 ∧ kI κ0 70 (iC κ) = kI κ 72 8 ∧ aI σ0 13 (rJ σ) = 0 ∧ aI σ0 14 (rJ σ) = kI κ 72 8) ∧ (kI κ0 69 (iC κ + 1) = 40 ∧ kI κ0 70 (iC κ + 1) = nI (iC κ0) ∧ aI σ0 13 (rJ σ + 1) = 28 ∧ aI σ0 14 (rJ σ + 1) = nI (rT σ)) ∧ (kI κ0 69 (iC κb) = 15 ∧ aI σ0 13 (rJ σb) = 29 ∧ aI σ0 14 (rJ σb) = nI (rT σ)) ∧ aI σ0 27 (rT σ) = -9 ∧ Bel κ σ κ0 σ0
/-- the statement's segment, whatever its end is -/
theorem fin_ss {lv : List Nat} {p f : Nat} (hi : iC κ < 9000 ∧ rJ σ < 9900) (ho : oC κ ≤ 24) (t00 : T00 N b P κ σ κk σk κb σb κ0 σ0) (ti : TyI N b P κ σ κ0 σ0 κn σn lv p f) (hn : iC κn < 9900 ∧ rJ σn < 11990) (tF : T0 b κn σn κ' σ') (ag : Agl lv (iC κn) κ σ κn σn κ' σ') (ltF : ∀ c, rC σn ≤ c → c < rC σ' → ∃ u, aI σ' 45 c = nI u ∧ rT σn ≤ u ∧ u < rT σ' ∧ u < 1000) (h1000 : rT σ' ≤ 1000 ∧ rC σ' ≤ 1000)
    (hex : ∀ (κF : Km) (σF : Rm) (vr br : Nat → Nat → Prop), Fnc σF vr br b → Ext κF σF vr br b κ σ κ' σ' → ∀ (A : Pt → Prop) (L : List Itm), ecn L = rE σ → ccn L = rK σ → L.length + 1 ≤ oC κ → GC κF σF A b L → Good2 κF σF A (b, iC κ', rJ σ', L, 0, 0) → Ex κF σF A b L (rT σ) (iC κ0) (iC κn)) : SS b 1 κ σ κ' σ' ∧ Tc σ σ' := by
  obtain ⟨a1, a2, a3, a4, ⟨b1, b2, b3, b4, b5, b6, b7, b8, b9, b10, b11⟩, o1, o2, oj, -, -⟩ := t00
  obtain ⟨pn, tr0, tcN, ltN, cs, lvb, lch, llen, hlv, -⟩ := ti
  have g1 := tr0.2.2.1.1
  have g2 := tr0.2.2.1.2.1
  exact try_ss hi.1 hi.2 ho a1 a2 a3 tr0 a4 b1 b2 b3 b4 b5 b6 b7 b8 b9 b10 b11 (by omega) (by omega) o1 o2 oj cs tcN ltN (fun k hk => by have := lvb k hk; omega) (by rw [b5] at hlv; exact hlv) tF ag ltF h1000 hex
end TRE
