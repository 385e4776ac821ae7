/-! WHO IS REACHED: the class's marks -/
section MARKS
variable {X : Cx} {d e : Nat} {κ0 κ κ1 κ2 κ' : Km} {σ0 σ σ1 σ' : Rm} {b V al S T sp z LT HT F0 n k s p o j i x t : Nat} {st : Nat → Nat} {fr : Nat → List Frm} {pt : Nat → Nat} {w m m1 m2 : Nat → Nat} {y hi : Int32} {M : Nat → Prop} {R ov P : Nat → Prop} {MM : Nat → Nat → Prop}
/-- voice n names voice x -/
def Mn (σ : Rm) (st : Nat → Nat) (fr : Nat → List Frm) (pt : Nat → Nat) (n x : Nat) : Prop := (st n = 0 ∧ aI σ 51 n = nI x) ∨ ∃ j i, j < (fr n).length ∧ i < 12 ∧ nI i < aI σ 21 (aI σ 61 (60 * pt n + j)).toNatClampNeg ∧ aI σ 66 (40 * (60 * pt n + j) + i) = nI x
def Clo (V : Nat) (ov : Nat → Prop) (MM : Nat → Nat → Prop) (m : Nat → Nat) : Prop := ∀ x y, 1 ≤ x → x ≤ V → 1 ≤ y → y ≤ V → m x ≠ 0 → ¬ ov x → MM x y → m y ≠ 0
def Leas (V : Nat) (R ov : Nat → Prop) (MM : Nat → Nat → Prop) (m : Nat → Nat) : Prop := ∀ P : Nat → Prop, (∀ x, 1 ≤ x → x ≤ V → R x → P x) → (∀ x y, 1 ≤ x → x ≤ V → 1 ≤ y → y ≤ V → P x → ¬ ov x → MM x y → P y) → ∀ x, 1 ≤ x → x ≤ V → m x ≠ 0 → P x
def Roo (V : Nat) (R : Nat → Prop) (m : Nat → Nat) : Prop := ∀ x, 1 ≤ x → x ≤ V → R x → m x ≠ 0
/-- two of them are one -/
theorem lst_one (h1 : Leas V R ov MM m1) (c2 : Clo V ov MM m2) (r2 : Roo V R m2) : ∀ x, 1 ≤ x → x ≤ V → m1 x ≠ 0 → m2 x ≠ 0 := h1 (fun x => m2 x ≠ 0) r2 (fun x y x1 x2 y1 y2 hx ho hm => c2 x y x1 x2 y1 y2 hx ho hm)
/-- only marks of the class are others -/
def Kk (κ κ' : Km) : Prop := κ'.2 = κ.2 ∧ (∀ g, (g < 1000 ∨ g % 8 ≠ 2) → kI κ' g = kI κ g) ∧ ∀ n k, k ≠ 10 → kI κ' (1002 + 8 * n) k = kI κ (1002 + 8 * n) k
theorem Kk.refl : Kk κ κ := ⟨rfl, fun _ _ => rfl, fun _ _ _ => rfl⟩
theorem Kk.set (h : Kk κ κ1) : Kk κ (cI κ1 (1002 + 8 * x) 10 y) := ⟨h.1, fun g hg => by rw [kI_ne (by omega)]; exact h.2.1 g hg, fun n k hk => by rw [kI_o (Or.inr hk)]; exact h.2.2 n k hk⟩
theorem Kk.kv (h : Kk κ κ1) : kV κ1 = kV κ := by show κ1.2.2.2.2.2.1 = κ.2.2.2.2.2.1; rw [h.1]
theorem Kk.kw (h : Kk κ κ1) : kW κ1 = kW κ := by show κ1.2.2.1 = κ.2.2.1; rw [h.1]
def Mk (κ : Km) (V : Nat) (m : Nat → Nat) : Prop := ∀ n, 1 ≤ n → n ≤ V → kI κ (1002 + 8 * n) 10 = nI (m n) ∧ m n ≤ 2
theorem Mk.set (h : Mk κ V m) (ht : t ≤ 2) : Mk (cI κ (1002 + 8 * x) 10 (nI t)) V (un m x t) := fun n n1 n2 => by
  by_cases c : n = x
  · subst c; rw [un_eq]; exact ⟨kI_eq, ht⟩
  · rw [un_ne c, kI_o (Or.inl (by omega))]; exact h n n1 n2
/-- some that M names are marked, which weren't -/
def Tch (V : Nat) (M : Nat → Prop) (m m' : Nat → Nat) : Prop := ∀ x, 1 ≤ x → x ≤ V → m' x = m x ∨ (m x = 0 ∧ m' x = 1 ∧ M x)
theorem Tch.refl : Tch V M m m := fun _ _ _ => Or.inl rfl
theorem Tch.trans (a : Tch V M m m1) (b : Tch V M m1 m2) : Tch V M m m2 := fun x x1 x2 => by
  rcases a x x1 x2 with h | ⟨h1, h2, h3⟩
  · rcases b x x1 x2 with g | ⟨g1, g2, g3⟩
    · exact Or.inl (g.trans h)
    · exact Or.inr ⟨h ▸ g1, g2, g3⟩
  · rcases b x x1 x2 with g | ⟨g1, -⟩
    · exact Or.inr ⟨h1, g.trans h2, h3⟩
    · omega
theorem Tch.ne (a : Tch V M m m1) (x1 : 1 ≤ x) (x2 : x ≤ V) (h : m x ≠ 0) : m1 x ≠ 0 := by
  rcases a x x1 x2 with g | ⟨g1, -⟩
  · rw [g]; exact h
  · exact absurd g1 h
theorem kc_reach {F : Km → Prop} (h10 : kI κ 79 10 = nI V) (hV : V ≤ 60) (hkV : V ≤ kV κ) (kk : Kk κ κ1) (mk : Mk κ1 V m) (hM : ∀ x, 1 ≤ x → x ≤ V → y = nI x → M x) (q : ∀ κ2 m2, Kk κ κ2 → Mk κ2 V m2 → Tch V M m m2 → (∀ x, 1 ≤ x → x ≤ V → y = nI x → m2 x ≠ 0) → F κ2) : KC' X 1 MX6_reach [vR 79, vI y] κ1 (kRV F) := by
  have h10' : kI κ1 79 10 = nI V := by rw [kk.2.1 79 (by decide)]; exact h10
  refine KC_of_K rfl (Nat.le_of_ble_eq_true rfl) rfl (k_6_reach_0 _ ⟨0, by omega, kc_vfind h10' hV (by rw [kk.kv]; exact hkV) (fun n n1 n2 e => ?_) (fun hz => ⟨Or.inl rfl, fun _ => k_6_reach_22 _ _ ⟨rfl, q κ1 m kk mk Tch.refl (fun x x1 x2 e => (vno_no hV hz x x1 x2 e).elim)⟩, fun z => absurd rfl z⟩)⟩)
  have hH : isH κ1 (1002 + 8 * n) 10 := isH_voice n1 (by rw [kk.kv]; omega)
  obtain ⟨k1, k2⟩ := mk n n1 n2
  have uni : ∀ x, 1 ≤ x → x ≤ V → y = nI x → x = n := fun x _ x2 ex => ((nI_eq (by omega) (by omega)).mp (ex.symm.trans e))
  refine ⟨Or.inr hH.1, fun z => absurd z (by omega), fun _ => ⟨hH, ?_⟩⟩
  rw [k1, litI 0, eq_nI (by omega) (by omega)]
  refine ⟨fun m0 => ?_, fun m0 => k_6_reach_22 _ _ ⟨rfl, q κ1 m kk mk Tch.refl (fun x x1 x2 ex => by rw [uni x x1 x2 ex]; exact m0)⟩⟩
  rintro κ11 rfl
  refine k_6_reach_22 _ _ ⟨rfl, q _ (un m n 1) kk.set (mk.set (t := 1) (by omega)) (fun x x1 x2 => ?_) (fun x x1 x2 ex => by rw [uni x x1 x2 ex, un_eq]; decide)⟩
  by_cases c : x = n
  · rw [c, un_eq]; exact Or.inr ⟨m0, rfl, hM n n1 n2 e⟩
  · rw [un_ne c]; exact Or.inl rfl
theorem Vc.kk {c : Nat → Int32} {t bs mm : Nat} {g pc : Int32} (h : Vc κ n c t bs g pc mm) (kk : Kk κ κ1) : Vc κ1 n c t bs g pc mm := by
  obtain ⟨⟨v1, v2, v3⟩, ⟨g2, g3, g4, g5, g6⟩, g7, g8⟩ := h
  refine ⟨⟨v1, by rw [kk.kv]; exact v2, v3⟩, ⟨?_, ?_, ?_, ?_, ?_⟩, by rw [kk.kw]; exact g7, fun j hj => ?_⟩
  · rw [kk.2.2 n 13 (by decide)]; exact g2
  · rw [kk.2.2 n 14 (by decide)]; exact g3
  · rw [kk.2.2 n 15 (by decide)]; exact g4
  · rw [kk.2.2 n 9 (by decide)]; exact g5
  · rw [kk.2.2 n 8 (by decide)]; exact g6
  · rw [kk.2.1 (1002 + 8 * n + 1) (by omega)]; exact g8 j hj
/-- the calls of a voice, whatever the marks -/
theorem Desk.framesK (dk : Desk κ0 σ0 κ σ b V al S LT HT sp F0 z st fr pt w) (hn : 1 ≤ n ∧ n ≤ V) (hne : fr n ≠ []) : ∃ B : Nat → Nat, kI κ (1002 + 8 * n) 14 = nI (B 0) ∧ (pt n < 12 ∧ aI σ 58 n = nI (pt n) ∧ aI σ 60 (pt n) = nI (fr n).length ∧ (fr n).length ≤ 60) ∧ ∀ j, j < (fr n).length → B j ≤ 40000 ∧ ∃ f : Frm, (frN f ≤ 12 ∧ frB f < 12 ∧ aI σ 21 (frB f) = nI (frN f)) ∧ (∀ κ1, Kk κ κ1 → (∀ F : Int32 → Km → Prop, F (nI (frN f)) κ1 → KC' X 0 MX10_cell [vR (1002 + 8 * n), vI (nI (B j))] κ1 (kRI F)) ∧ (∀ F : Int32 → Km → Prop, F (nI (B (j + 1))) κ1 → KC' X 0 MX10_cell [vR (1002 + 8 * n), vI (nI (B j + 2))] κ1 (kRI F)) ∧ ∀ i, i < frN f → ∀ F : Int32 → Km → Prop, F (frV f i) κ1 → KC' X 0 MX10_cell [vR (1002 + 8 * n), vI (nI (B j + 4 + i))] κ1 (kRI F)) ∧ aI σ 61 (60 * pt n + ((fr n).length - 1 - j)) = nI (frB f) ∧ ∀ i, i < frN f → aI σ 66 (40 * (60 * pt n + ((fr n).length - 1 - j)) + i) = frV f i := by
  obtain ⟨a, -, md⟩ := dk.bn (x := 0)
  rcases a.2.2.2.2.2.2 n hn.1 hn.2 with ⟨h1, -⟩ | ⟨h1, h2, h3, h4⟩
  · exact absurd h1 hne
  have vr : VR σ n (pt n) (fr n) := h3.elim id (fun z => absurd z.1 (by omega))
  obtain ⟨⟨q1, q2, q3, q4⟩, q5, ⟨q6, -, -⟩, q8⟩ := vr
  obtain ⟨c, o, o1, fc, vc⟩ := h2
  have fo : ∀ f, f ∈ fr n → frB f < b ∧ aI σ0 21 (frB f) = nI (frN f) := by
    rcases md n hn.1 hn.2 with ⟨-, z⟩ | ⟨-, m, mf, -⟩
    · exact absurd z hne
    · intro f hf
      cases hfs : fr n with
      | nil => exact absurd hfs hne
      | cons g t =>
        rw [hfs] at mf hf
        rcases List.mem_cons.mp hf with e | hf
        · rw [e]; exact ⟨mf.2.1.1, mf.2.1.2.1⟩
        · exact ⟨(mf.2.2 f hf).2.1, (mf.2.2 f hf).2.2.1⟩
  have hb12 : b ≤ 12 := dk.bod.1.2.2.2.1
  have e21 : ∀ i, aI σ 21 i = aI σ0 21 i := fun i => by rw [(a.1.1.2.2 21 (by omega) (by omega)).1]
  have wid := (a.2.2.2.2.2.2 n hn.1 hn.2).wid.2 hne
  have ht : tsz o (fr n) ≤ 40000 := by
    have := vc.2.2.1.1
    rw [← cel3] at this
    omega
  refine ⟨fun j => bse o ((fr n).drop j), vc.2.1.2.1, ⟨q1, q5, q6, q4⟩, fun j hj => ?_⟩
  obtain ⟨f, r, hd⟩ := drop_ex (fr n) hj
  obtain ⟨d1, d2, d3, d4, d5, d6⟩ := drop_at (c := c) (o := o) (σ := σ) (p := pt n) (fr n) j f r hd
  obtain ⟨fc1, ⟨y1, y2, y3, y4⟩, y5, y6, y7⟩ := d4 fc
  obtain ⟨⟨z1, z2, z3, z4, z5⟩, ⟨w1, w2, w3, w4, w5⟩, w6, w7, w8⟩ := d6 q8
  have eB : bse o ((fr n).drop j) = tsz o r := by rw [hd]; rfl
  have eB1 : bse o ((fr n).drop (j + 1)) = bse o r := by rw [d1]
  have ef : fsz f = 4 + frN f + psz (frL f) + (frO f).length := rfl
  have et : tsz o (f :: r) = tsz o r + fsz f := rfl
  have el : (fr n).length - 1 - j = r.length := by omega
  dsimp only
  rw [eB, eB1, el]
  refine ⟨by omega, f, ⟨z1, by have := (fo f d2).1; omega, by rw [e21]; exact (fo f d2).2⟩, fun κ1 kk => ⟨fun F hF => ?_, fun F hF => ?_, fun i hi F hF => ?_⟩, w1, w6⟩
  · exact kc_vcell (vc.kk kk) (by omega) (by rw [y1]; exact hF)
  · exact kc_vcell (vc.kk kk) (by omega) (by rw [y3]; exact hF)
  · exact kc_vcell (vc.kk kk) (by omega) (by rw [y5 i hi]; exact hF)
/-- the class looks into a voice -/
theorem Desk.look {F : Km → Prop} (dk : Desk κ0 σ0 κ σ b V al S LT HT sp F0 z st fr pt w) (hn : 1 ≤ n ∧ n ≤ V) (hs : st n < 4) (kk : Kk κ κ1) (mk : Mk κ1 V m) (q : ∀ κ2 m2, Kk κ κ2 → Mk κ2 V m2 → Tch V (Mn σ st fr pt n) m m2 → (∀ x, 1 ≤ x → x ≤ V → Mn σ st fr pt n x → m2 x ≠ 0) → F κ2) : KC' X 3 MX6_lookInto [vR 79, vR (1002 + 8 * n)] κ1 (kRV F) := by
  have hV60 : V ≤ 60 := dk.stg.2.2.2.2.2.2.2.1
  have hkV : V ≤ kV κ := dk.stg.2.2.2.2.2.2.2.2.1
  have h10 := dk.stg.1.1
  obtain ⟨-, v0, v1, v49, v6, v4⟩ := dk.vst n hn.1 hn.2
  obtain ⟨-, -, -, v3, -⟩ := (dk.bn (x := 0)).1.2.2.1 n hn.1 hn.2
  obtain ⟨d1, d2, d3⟩ := dk.many (X := X) hn
  have hH : ∀ κ2, Kk κ κ2 → isH κ2 (1002 + 8 * n) 10 := fun κ2 k2 => isH_voice hn.1 (by rw [k2.kv]; omega)
  have go : ∀ κ2 m2, Kk κ κ2 → Mk κ2 V m2 → Tch V (Mn σ st fr pt n) m m2 → (∀ x, 1 ≤ x → x ≤ V → st n = 0 → aI σ 51 n = nI x → m2 x ≠ 0) → K X 3 MX6_lookInto 15 [(0, vR 79), (1, vR (1002 + 8 * n))] [] κ2 (kRV F) := fun κ2 m2 kk2 mk2 tc2 na => by
    refine k_6_lookInto_15 _ ?_
    by_cases hne : fr n = []
    · refine k_6_lookInto_17 _ _ ⟨hH κ2 kk2, ?_⟩
      rw [kk2.2.2 n 8 (by decide), d1, hne]
      refine ⟨fun _ => ⟨rfl, q κ2 m2 kk2 mk2 tc2 (fun x x1 x2 hm => ?_)⟩, fun z => absurd (by decide) z⟩
      rcases hm with ⟨h1, h2⟩ | ⟨j, i, h1, -⟩
      · exact na x x1 x2 h1 h2
      · rw [hne] at h1; exact absurd h1 (Nat.not_lt_zero _)
    · obtain ⟨B, b1, ⟨b2, b3, b4, b5⟩, fb⟩ := dk.framesK (X := X) hn hne
      have calls : ∀ r j κ2 m2, j + r = (fr n).length → Kk κ κ2 → Mk κ2 V m2 → Tch V (Mn σ st fr pt n) m m2 → (∀ x, 1 ≤ x → x ≤ V → st n = 0 → aI σ 51 n = nI x → m2 x ≠ 0) → (∀ j', j' < j → ∀ i x, i < 12 → nI i < aI σ 21 (aI σ 61 (60 * pt n + ((fr n).length - 1 - j'))).toNatClampNeg → aI σ 66 (40 * (60 * pt n + ((fr n).length - 1 - j')) + i) = nI x → 1 ≤ x → x ≤ V → m2 x ≠ 0) → K X 3 MX6_lookInto 17 [(0, vR 79), (1, vR (1002 + 8 * n)), (2, vI (nI j))] [] κ2 (kRV F) := by
        intro r
        induction r with
        | zero =>
          intro j κ2 m2 hj kk2 mk2 tc2 na sn
          refine k_6_lookInto_17 _ _ ⟨hH κ2 kk2, ?_⟩
          rw [kk2.2.2 n 8 (by decide), d1, le_nI (by omega) (by omega)]
          refine ⟨fun _ => ⟨rfl, q κ2 m2 kk2 mk2 tc2 (fun x x1 x2 hm => ?_)⟩, fun z => absurd (by omega) z⟩
          rcases hm with ⟨h1, h2⟩ | ⟨j0, i, h1, h2, h3, h4⟩
          · exact na x x1 x2 h1 h2
          · have e : (fr n).length - 1 - ((fr n).length - 1 - j0) = j0 := by omega
            refine sn ((fr n).length - 1 - j0) (by omega) i x h2 ?_ ?_ x1 x2
            · rw [e]; exact h3
            · rw [e]; exact h4
        | succ r ih =>
          intro j κ2 m2 hj kk2 mk2 tc2 na sn
          obtain ⟨g1, f, ⟨f1, f2, f3⟩, fk, g5, g6⟩ := fb j (by omega)
          have e21 : aI σ 21 (aI σ 61 (60 * pt n + ((fr n).length - 1 - j))).toNatClampNeg = nI (frN f) := by rw [g5, cl_nI (by omega), f3]
          refine k_6_lookInto_17 _ _ ⟨hH κ2 kk2, ?_⟩
          rw [kk2.2.2 n 8 (by decide), d1, le_nI (by omega) (by omega)]
          refine ⟨fun z => by omega, fun _ => ⟨1, by omega, kc_frameOf (B := B) (m := (fr n).length) (hH κ2 kk2) (by rw [kk2.2.2 n 8 (by decide)]; exact d1) d2 (fun _ => by rw [kk2.2.2 n 14 (by decide)]; exact b1) (fun j' hj' => by
            obtain ⟨g1', f', -, fk', -⟩ := fb j' hj'
            exact ⟨g1', (fk' κ2 kk2).2.1⟩) (fun j' hj' e => ?_) (fun hz => (hz j (by omega) rfl).elim)⟩⟩
          have ej : j = j' := (nI_eq (by omega) (by omega)).mp e
          subst ej
          have vars : ∀ q' i κ3 m3, i + q' = frN f → Kk κ κ3 → Mk κ3 V m3 → Tch V (Mn σ st fr pt n) m m3 → (∀ x, 1 ≤ x → x ≤ V → st n = 0 → aI σ 51 n = nI x → m3 x ≠ 0) → (∀ j', j' < j → ∀ i x, i < 12 → nI i < aI σ 21 (aI σ 61 (60 * pt n + ((fr n).length - 1 - j'))).toNatClampNeg → aI σ 66 (40 * (60 * pt n + ((fr n).length - 1 - j')) + i) = nI x → 1 ≤ x → x ≤ V → m3 x ≠ 0) → (∀ i', i' < i → ∀ x, frV f i' = nI x → 1 ≤ x → x ≤ V → m3 x ≠ 0) → K X 3 MX6_lookInto 34 [(0, vR 79), (1, vR (1002 + 8 * n)), (2, vI (nI j)), (3, vI (nI (B j))), (4, vI (nI i))] [] κ3 (kRV F) := by
            intro q'
            induction q' with
            | zero =>
              intro i κ3 m3 hi kk3 mk3 tc3 na3 sn3 vs
              obtain ⟨g2, g3, g4⟩ := fk κ3 kk3
              refine k_6_lookInto_34 _ _ _ _ ⟨hH κ3 kk3, 1, by omega, KC_of_K rfl (Nat.le_of_ble_eq_true rfl) rfl (k_10_variablesOf_0 _ _ ⟨fun _ => ⟨hH κ3 kk3, 0, by omega, g2 _ (k_10_variablesOf_13 _ _ _ ⟨_, rfl, ?_⟩)⟩, fun z => absurd (nI_pos' (by omega)) z⟩)⟩
              dsimp only
              rw [le_nI (by omega) (by omega), nI_1]
              refine ⟨fun _ => ih (j + 1) κ3 m3 (by omega) kk3 mk3 tc3 na3 (fun j' hj2 i' x i1 i2 i3 x1 x2 => ?_), fun z => absurd (by omega) z⟩
              by_cases cj : j' = j
              · subst cj
                rw [e21, lt_nI (by omega) (by omega)] at i2
                rw [g6 i' i2] at i3
                exact vs i' (by omega) x i3 x1 x2
              · exact sn3 j' (by omega) i' x i1 i2 i3 x1 x2
            | succ q' ihq =>
              intro i κ3 m3 hi kk3 mk3 tc3 na3 sn3 vs
              obtain ⟨g2, g3, g4⟩ := fk κ3 kk3
              refine k_6_lookInto_34 _ _ _ _ ⟨hH κ3 kk3, 1, by omega, KC_of_K rfl (Nat.le_of_ble_eq_true rfl) rfl (k_10_variablesOf_0 _ _ ⟨fun _ => ⟨hH κ3 kk3, 0, by omega, g2 _ (k_10_variablesOf_13 _ _ _ ⟨_, rfl, ?_⟩)⟩, fun z => absurd (nI_pos' (by omega)) z⟩)⟩
              dsimp only
              rw [le_nI (by omega) (by omega)]
              refine ⟨fun z => by omega, fun _ => ⟨1, by omega, KC_of_K rfl (Nat.le_of_ble_eq_true rfl) rfl (k_10_variable_0 _ _ _ ⟨hH κ3 kk3, 0, by omega, ?_⟩)⟩⟩
              rw [litI 4, nI_add, nI_add]
              refine g4 i (by omega) _ ⟨_, rfl, 1, by omega, ?_⟩
              refine kc_reach (κ := κ) (M := Mn σ st fr pt n) h10 hV60 hkV kk3 mk3 (fun x _ _ e => Or.inr ⟨(fr n).length - 1 - j, i, by omega, by omega, ?_, ?_⟩) (fun κ4 m4 kk4 mk4 tc4 nz => ?_)
              · rw [e21, lt_nI (by omega) (by omega)]; omega
              · rw [g6 i (by omega)]; exact e
              · rw [nI_1]
                refine ihq (i + 1) κ4 m4 (by omega) kk4 mk4 (tc3.trans tc4) (fun x x1 x2 h1 h2 => tc4.ne x1 x2 (na3 x x1 x2 h1 h2)) (fun j' hj2 i' x i1 i2 i3 x1 x2 => tc4.ne x1 x2 (sn3 j' hj2 i' x i1 i2 i3 x1 x2)) (fun i' hi' x e x1 x2 => ?_)
                by_cases ci : i' = i
                · subst ci; exact nz x x1 x2 e
                · exact tc4.ne x1 x2 (vs i' (by omega) x e x1 x2)
          exact vars (frN f) 0 κ2 m2 (by omega) kk2 mk2 tc2 na sn (fun i' hi' => absurd hi' (Nat.not_lt_zero _))
      exact calls (fr n).length 0 κ2 m2 (by omega) kk2 mk2 tc2 na (fun j' hj' => absurd hj' (Nat.not_lt_zero _))
  refine KC_of_K rfl (Nat.le_of_ble_eq_true rfl) rfl (k_6_lookInto_0 _ ⟨hH κ1 kk, ?_⟩)
  rw [kk.2.2 n 1 (by decide), kk.2.2 n 3 (by decide), v1, v3, litI 0, eq_nI (by omega) (by omega)]
  refine ⟨fun s0 => ⟨1, by omega, kc_reach (κ := κ) (M := Mn σ st fr pt n) h10 hV60 hkV kk mk (fun x _ _ e => Or.inl ⟨s0, e⟩) (fun κ2 m2 kk2 mk2 tc2 nz => go κ2 m2 kk2 mk2 tc2 (fun x x1 x2 _ e => nz x x1 x2 e))⟩, fun s0 => go κ1 m kk mk Tch.refl (fun x x1 x2 h1 _ => absurd h1 s0)⟩
end MARKS
