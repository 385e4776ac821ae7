/-! misuse: the methods -/
section MISUSE2
variable {X : Cx} {d e er : Nat} {κ0 κ κa κb κc κ1 κ' : Km} {σ0 σ σa σc σr σ1 σ' : Rm} {b V al S T sp z LT HT F0 v p n x q g k op sc : Nat} {st : Nat → Nat} {fr fr' : Nat → List Frm} {pt : Nat → Nat} {fs r rr : List Frm} {ch cr l : List Nat} {w rz : Nat → Nat} {f f1 f' : Frm} {y u a num val vo pl ca : Int32} {C : Km → Prop} {D P : Rm → Prop} {G : Rm → Prop} {o : Option (List Nat)}
variable {bd i j nv s md i' j' s' md' r2 : Nat} {vs vs' : Nat → Int32} {L L' : List Ite} {O O' : List Int32}
/-- what is looked at in the class -/
def StF (κ : Km) (σ : Rm) (V : Nat) (st : Nat → Nat) : Prop := (kI κ 79 10 = nI V ∧ V ≤ 60 ∧ V ≤ kV κ ∧ kW κ 91 = 12) ∧ ∀ n, 1 ≤ n → n ≤ V → kI κ (1002 + 8 * n) 0 = nI n ∧ kI κ (1002 + 8 * n) 1 = nI (st n) ∧ st n ≤ 6 ∧ kI κ (1002 + 8 * n) 5 = aI σ 54 n
theorem Bn.stf (h : Bn κ0 σ0 κ σ b V al S T sp z LT HT F0 st fr pt x) : StF κ σ V st := by
  obtain ⟨-, ⟨s1, -, -, -, -, -, -, s8, s9, -⟩, a5, -, ⟨-, -, R, r0, -⟩, -⟩ := h
  refine ⟨⟨s1.1, s8, s9, r0⟩, fun n n1 n2 => ?_⟩
  obtain ⟨v1, ⟨v2, -, v3⟩, -, -, -, ⟨v6, -⟩, -⟩ := a5 n n1 n2
  exact ⟨v1, v2, v3, v6⟩
theorem StF.kvo (h : StF κ σ V st) (ko : Vo v κ κ') : StF κ' σ V st := by
  obtain ⟨⟨h1, h2, h3, h4⟩, h5⟩ := h
  refine ⟨⟨by rw [(ko.h (h := 79) (by omega) (by omega)).1]; exact h1, h2, by rw [ko.1.2.2.2]; exact h3, by rw [(ko.h (h := 91) (by omega) (by omega)).2.2]; exact h4⟩, fun n n1 n2 => ?_⟩
  obtain ⟨g1, g2, g3, g4⟩ := h5 n n1 n2
  have e : ∀ k, k ≠ 8 → k ≠ 9 → k ≠ 13 → k ≠ 14 → k ≠ 15 → kI κ' (1002 + 8 * n) k = kI κ (1002 + 8 * n) k := fun k k1 k2 k3 k4 k5 => by
    by_cases c : n = v
    · rw [c]; exact ko.2.2 k k1 k2 k3 k4 k5
    · rw [(ko.h (h := 1002 + 8 * n) (by omega) (by omega)).1]
  rw [e 0 (by decide) (by decide) (by decide) (by decide) (by decide), e 1 (by decide) (by decide) (by decide) (by decide) (by decide), e 5 (by decide) (by decide) (by decide) (by decide) (by decide)]
  exact ⟨g1, g2, g3, g4⟩
theorem StF.fm (h : StF κ σ V st) (fc : FmC κ κ' F0 num val vo pl ca) : StF (cI κ' 79 14 y) σ V st := by
  obtain ⟨⟨h1, h2, h3, h4⟩, h5⟩ := h
  have fo := fc.1.1
  refine ⟨⟨by rw [kI_nk (by decide), (fo.1 79 (by omega)).1]; exact h1, h2, ?_, ?_⟩, fun n n1 n2 => ?_⟩
  · show V ≤ kV κ'
    rw [fo.2.2.2]; exact h3
  · show kW κ' 91 = 12
    rw [(fo.1 91 (by omega)).2.2]; exact h4
  · rw [kI_ne (by omega), (fo.1 (1002 + 8 * n) (by omega)).1]
    exact h5 n n1 n2
/-- the handle of what is asked for -/
def HdA (V : Nat) (a : Int32) (h : Nat) : Prop := (∃ n, (1 ≤ n ∧ n ≤ V) ∧ a = nI n ∧ h = 1002 + 8 * n) ∨ ((a < 1 ∨ nI V < a) ∧ h = 0)
theorem kc_findA {F : Nat → Km → Prop} (h : StF κ σ V st) (q : ∀ h, HdA V a h → F h κ) : KC' X 0 MX6_find [vR 79, vI a] κ (kRR F) :=
  kc_vfind h.1.1 h.1.2.1 h.1.2.2.1 (fun n n1 n2 e => q _ (Or.inl ⟨n, ⟨n1, n2⟩, e, rfl⟩)) (fun z => q 0 (Or.inr ⟨z, rfl⟩))
theorem HdA.of (hV : V ≤ 60) (h : HdA V (nI n) k) (hn : 1 ≤ n ∧ n ≤ V) : k = 1002 + 8 * n := by
  rcases h with ⟨m, m1, m2, m3⟩ | ⟨z, -⟩
  · rw [eq_nI (by omega) (by omega)] at m2
    rw [m3, m2]
  · rw [litI 1, lt_nI (by omega) (by omega), lt_nI (by omega) (by omega)] at z
    omega
theorem HdA.no (hV : V ≤ 60) (h : HdA V a k) (hz : a < 1 ∨ nI V < a) : k = 0 := by
  rcases h with ⟨m, m1, m2, m3⟩ | ⟨-, z⟩
  · rw [m2, litI 1, lt_nI (by omega) (by omega), lt_nI (by omega) (by omega)] at hz
    omega
  · exact z
theorem kc_misuse {F : Km → Prop} (hk : VK κ v (f :: r)) (sf : StF κ σ V st) (hv : 1 ≤ v ∧ v ≤ V) (fl : FRl κ σ' F0) (hF : F0 < 7900) (mis : Mis σ V v st a o) (ha : HdA V a k) (q : ∀ κb κ', FmC κ κb F0 (nI 10) 0 (nI v) (frP f) 0 → RoC (cI κb 79 14 (nI (F0 + 1))) κ' o → F κ') : KC' X 8 MX6_misuse [vR 79, vR (1002 + 8 * v), vR k] κ (kRV F) := by
  have hV := sf.1.2.1
  have hkV := sf.1.2.2.1
  have hH : ∀ n, 1 ≤ n ∧ n ≤ V → isH κ (1002 + 8 * n) 10 := fun n hn => isH_voice hn.1 (by omega)
  rcases mis with ⟨hz, rfl⟩ | ⟨n, hn, rfl, hc⟩
  · have e := ha.no hV hz
    subst e
    refine KC_of_K rfl (Nat.le_of_ble_eq_true rfl) rfl (k_6_misuse_0z _ _ ⟨hk.v, ⟨Or.inl (by decide), Or.inl rfl⟩, 4, by omega, ?_⟩)
    exact kc_raise hk (sf.2 v hv.1 hv.2).1 fl hF (fun κb fc => ⟨fun _ => k_6_misuse_25 _ _ ⟨rfl, q κb _ fc (Or.inl ⟨rfl, rfl⟩)⟩, fun z => absurd rfl z⟩)
  · have e := ha.of hV hn
    subst e
    have st6 := (sf.2 n hn.1 hn.2).2.2.1
    refine KC_of_K rfl (Nat.le_of_ble_eq_true rfl) rfl (k_6_misuse_0z _ _ ⟨hk.v, ⟨isH.ok (hH n hn) (by decide), Or.inr (hH n hn)⟩, 4, by omega, ?_⟩)
    refine kc_raise hk (sf.2 v hv.1 hv.2).1 fl hF (fun κb fc => ⟨fun z => absurd z (by omega), fun _ => ⟨0, by omega, ?_⟩⟩)
    have sf2 := sf.fm (y := nI (F0 + 1)) fc
    obtain ⟨g1, g2, g3, g4⟩ := sf2.2 n hn.1 hn.2
    have hk2 := sf2.1.2.2.1
    have hH2 : isH (cI κb 79 14 (nI (F0 + 1))) (1002 + 8 * n) 10 := isH_voice hn.1 (by omega)
    refine kc_isReady hH2 g2 g3 (fun z => by rcases hc with ⟨c1, -⟩ | ⟨c1, -⟩ <;> omega) (fun _ => ⟨fun _ => ⟨0, by omega, kc_isOver hH2 g2 g3 (fun c4 => ⟨fun z => absurd z (by decide), fun _ => ?_⟩) (fun c4 => ⟨fun _ => ?_, fun z => absurd rfl z⟩)⟩, fun z => absurd rfl z⟩)
    · rcases hc with ⟨-, -, rfl⟩ | ⟨c1, -⟩
      · exact k_6_misuse_25 _ _ ⟨rfl, q κb _ fc (Or.inl ⟨rfl, rfl⟩)⟩
      · omega
    · rcases hc with ⟨c1, -⟩ | ⟨c1, l, rfl, l1, l2, l3, l4⟩
      · omega
      · rintro κ23 rfl
        have e79 : ∀ k, k ≠ 9 → kI (cI (cI κb 79 14 (nI (F0 + 1))) 79 9 0) 79 k = kI (cI κb 79 14 (nI (F0 + 1))) 79 k := fun k hk => kI_nk hk
        have ehh : ∀ g, g ≠ 79 → kI (cI (cI κb 79 14 (nI (F0 + 1))) 79 9 0) g = kI (cI κb 79 14 (nI (F0 + 1))) g := fun g hg => kI_ne hg
        have hlp := ring_loopK (X := X) (d := 8) (F := F) (by omega) (v := v) (V := V) (σ := σ) hV hn hv l 0 (cI (cI κb 79 14 (nI (F0 + 1))) 79 9 0) l1 (by omega) (fun x hx => ?_) sf2.1.2.2.2 (by rw [e79 10 (by decide)]; exact sf2.1.1) hk2 (fun κ' c1 c2 c3 c4 c5 c6 => q κb κ' fc (Or.inr ⟨l, rfl, c1, fun g h1 h2 => (c2 g h1 h2).trans (ehh g h1), fun k hk => (c3 k hk).trans (e79 k hk), by rw [c4, Nat.zero_add], fun k hk => by have := c6 k hk; rw [Nat.zero_add] at this; exact this⟩))
        · rw [l2] at hlp
          exact hlp
        · obtain ⟨x1, x2⟩ := l4 x hx
          obtain ⟨y1, y2, y3, y4⟩ := sf2.2 x x1 x2
          rw [ehh _ (by omega)]
          exact ⟨⟨x1, x2⟩, y4, y1⟩
/-- the reference -/
theorem ac_misuse1 (h47 : sI σ 47 = nI V) (hV : V ≤ 60) (hst : ∀ n, 1 ≤ n → n ≤ V → aI σ 49 n = nI (st n) ∧ st n ≤ 6) (mis : Mis σ V v st a o) (hv : 1 ≤ v ∧ v ≤ V) : ∃ σr, RoR σ σr o ∧ ∀ F : Int32 → Rm → Prop, F 1 σr → AC X 92 3 MX13_isMisuse [vR 92, vI (nI v), vI a] σ (aRI F) := by
  have key : ∃ r0 σr, (aRI fun y s => y = 1 ∧ RoR σ s o) r0 σr ∧ ∀ F : Int32 → Rm → Prop, F 1 σr → AC X 92 3 MX13_isMisuse [vR 92, vI (nI v), vI a] σ (aRI F) := by
    have h : AC X 92 3 MX13_isMisuse [vR 92, vI (nI v), vI a] σ (aRI fun y s => y = 1 ∧ RoR σ s o) := by
      refine AC_of_A rfl (Nat.le_of_ble_eq_true rfl) rfl (a_isMisuse_0 _ _ ⟨1, by omega, ?_⟩)
      rcases mis with ⟨hz, rfl⟩ | ⟨n, hn, rfl, hc⟩
      · refine ac_isVoice h47 hV (fun n n1 n2 e => ?_) (fun _ => ⟨fun _ => ?_, fun z => absurd rfl z⟩)
        · rw [e, litI 1, lt_nI (by omega) (by omega), lt_nI (by omega) (by omega)] at hz
          omega
        · refine a_isMisuse_20 _ _ ⟨2, by omega, AC_of_A rfl (Nat.le_of_ble_eq_true rfl) rfl (a_ringOf_0 _ _ ⟨1, by omega, ac_isVoice h47 hV (fun n n1 n2 e => ?_) (fun _ => ⟨fun _ => a_ringOf_28 _ _ ⟨rfl, _, rfl, rfl, Or.inl ⟨rfl, rfl⟩⟩, fun z => absurd rfl z⟩)⟩)⟩
          rw [e, litI 1, lt_nI (by omega) (by omega), lt_nI (by omega) (by omega)] at hz
          omega
      · obtain ⟨e49, s6⟩ := hst n hn.1 hn.2
        have hs2 : 2 ≤ st n := by rcases hc with ⟨c1, -⟩ | ⟨c1, -⟩ <;> omega
        have g20 : A X 92 3 MX13_isMisuse 20 [(0, vR 92), (1, vI (nI v)), (2, vI (nI n))] [] σ (aRI fun y s => y = 1 ∧ RoR σ s o) := by
          refine a_isMisuse_20 _ _ ⟨2, by omega, AC_of_A rfl (Nat.le_of_ble_eq_true rfl) rfl (a_ringOf_0 _ _ ⟨1, by omega, ac_isVoice h47 hV (fun m m1 m2 e => ⟨fun z => absurd z (by decide), fun _ => ?_⟩) (fun z => ?_)⟩)⟩
          · rw [vpn (by omega), cl_nI (by omega), e49, litI 2, litI 3, eq_nI (by omega) (by omega), eq_nI (by omega) (by omega)]
            refine ⟨by omega, ?_⟩
            rcases hc with ⟨c1, -, rfl⟩ | ⟨c1, l, rfl, l1, l2, l3, l4⟩
            · exact ⟨fun z => absurd z (by omega), fun _ => ⟨by omega, fun z => absurd z (by omega), fun _ => a_ringOf_28 _ _ ⟨rfl, _, rfl, rfl, Or.inl ⟨rfl, rfl⟩⟩⟩⟩
            · have g29 : A X 92 2 MX13_ringOf 29 [(0, vR 92), (1, vI (nI v)), (2, vI (nI n))] [] σ (aRV fun s4 => (aRI fun y s => y = 1 ∧ RoR σ s (some l)) (.inl (some (vI 1))) s4) := by
                refine a_ringOf_29 _ _ ?_
                rintro s1 rfl
                have hlp := ring_loopR (X := X) (d := 2) (F := fun s4 => (aRI fun y s => y = 1 ∧ RoR σ s (some l)) (.inl (some (vI 1))) s4) (v := v) (V := V) hV hn.2 l 0 (wS σ 87 0) (l1.cg _ (fun x _ => by rw [aI_ne (by decide)])) (by omega) l4 sI_eq (fun σ' c1 c2 c3 c4 => ⟨_, rfl, rfl, Or.inr ⟨l, rfl, fun k hk => ⟨by rw [(c1 k hk).1, aI_ne (by omega)], (c1 k hk).2⟩, by rw [c2, Nat.zero_add], fun k hk => by have := c4 k hk; rw [Nat.zero_add] at this; exact this⟩⟩)
                rw [l2] at hlp
                exact hlp
              rcases c1 with c1 | c1
              · exact ⟨fun _ => g29, fun z => absurd c1 z⟩
              · exact ⟨fun z => absurd z (by omega), fun _ => ⟨by omega, fun _ => g29, fun z => absurd c1 z⟩⟩
          · rw [litI 1, lt_nI (by omega) (by omega), lt_nI (by omega) (by omega)] at z
            omega
        refine ac_isVoice h47 hV (fun m m1 m2 e => ⟨fun z => absurd z (by decide), fun _ => ?_⟩) (fun z => ?_)
        · rw [vpn (by omega), cl_nI (by omega), e49, litI 1, lt_nI (by omega) (by omega)]
          exact ⟨by omega, fun _ => g20, fun z => absurd (show 1 < st n by omega) z⟩
        · rw [litI 1, lt_nI (by omega) (by omega), lt_nI (by omega) (by omega)] at z
          omega
    obtain ⟨x, σr, ⟨h1, h2⟩, h3⟩ := ac_exI h
    exact ⟨_, σr, ⟨x, rfl, h1, h2⟩, fun F hF => h3 F (by rw [h1]; exact hF)⟩
  obtain ⟨r0, σr, ⟨y, -, -, h2⟩, h3⟩ := key
  exact ⟨σr, h2, h3⟩
theorem ac_misuse0 {F : Int32 → Rm → Prop} (h47 : sI σ 47 = nI V) (hV : V ≤ 60) (hst : aI σ 49 n = nI (st n)) (hn : 1 ≤ n ∧ n ≤ V) (hs : st n ≤ 1) (q : F 0 σ) : AC X 92 3 MX13_isMisuse [vR 92, vI (nI v), vI (nI n)] σ (aRI F) := by
  refine AC_of_A rfl (Nat.le_of_ble_eq_true rfl) rfl (a_isMisuse_0 _ _ ⟨1, by omega, ac_isVoice h47 hV (fun m m1 m2 e => ⟨fun z => absurd z (by decide), fun _ => ?_⟩) (fun z => ?_)⟩)
  · rw [vpn (by omega), cl_nI (by omega), hst, litI 1, lt_nI (by omega) (by omega)]
    exact ⟨by omega, fun z => absurd z (by omega), fun _ => ⟨_, rfl, q⟩⟩
  · rw [litI 1, lt_nI (by omega) (by omega), lt_nI (by omega) (by omega)] at z
    omega
end MISUSE2
