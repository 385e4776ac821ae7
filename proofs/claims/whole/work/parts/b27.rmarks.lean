/-! the reference's marks -/
section RMARKS
variable {X : Cx} {d e : Nat} {κ0 κ κ1 κ2 κ' : Km} {σ0 σ σ1 σ2 σ' : Rm} {b V al S T sp z LT HT F0 n k s p o j i x t : Nat} {st : Nat → Nat} {fr : Nat → List Frm} {pt : Nat → Nat} {w m m1 m2 : Nat → Nat} {y hi : Int32} {M : Nat → Prop} {R ov P : Nat → Prop} {MM : Nat → Nat → Prop}
def Rk (σ σ' : Rm) : Prop := aL σ' = aL σ ∧ ∀ k, k ≠ 98 → aI σ' k = aI σ k
theorem Rk.refl : Rk σ σ := ⟨rfl, fun _ _ => rfl⟩
theorem Rk.set (h : Rk σ σ1) : Rk σ (wI σ1 98 x y) := ⟨h.1, fun k hk => by rw [aI_ne hk]; exact h.2 k hk⟩
theorem Rk.si (h : Rk σ σ1) {k : Nat} (hk : k ≠ 98) : sI σ1 k = sI σ k := congrFun (h.2 k hk) 0
def Mr (σ : Rm) (V : Nat) (m : Nat → Nat) : Prop := ∀ n, 1 ≤ n → n ≤ V → aI σ 98 n = nI (m n) ∧ m n ≤ 1
theorem Mr.set (h : Mr σ V m) (ht : t ≤ 1) : Mr (wI σ 98 x (nI t)) V (un m x t) := fun n n1 n2 => by
  by_cases c : n = x
  · subst c; rw [un_eq]; exact ⟨aI_eq, ht⟩
  · rw [un_ne c, aI_ni c]; exact h n n1 n2
def Tcr (V : Nat) (M : Nat → Prop) (m m' : Nat → Nat) : Prop := ∀ x, 1 ≤ x → x ≤ V → m' x = m x ∨ (m' x = 1 ∧ M x)
theorem Tcr.refl : Tcr V M m m := fun _ _ _ => Or.inl rfl
theorem Tcr.trans (a : Tcr V M m m1) (b : Tcr V M m1 m2) : Tcr V M m m2 := fun x x1 x2 => by
  rcases b x x1 x2 with h | h
  · rw [h]; exact a x x1 x2
  · exact Or.inr h
theorem Tcr.ne (a : Tcr V M m m1) (x1 : 1 ≤ x) (x2 : x ≤ V) (h : m x ≠ 0) : m1 x ≠ 0 := by
  rcases a x x1 x2 with g | ⟨g1, -⟩
  · rw [g]; exact h
  · rw [g1]; decide
theorem ac_reach {P : Rm → Prop} (h47 : sI σ 47 = nI V) (hV : V ≤ 60) (kk : Rk σ σ1) (mk : Mr σ1 V m) (hM : ∀ x, 1 ≤ x → x ≤ V → y = nI x → M x) (q : ∀ σ2 m2, Rk σ σ2 → Mr σ2 V m2 → Tcr V M m m2 → (∀ x, 1 ≤ x → x ≤ V → y = nI x → m2 x ≠ 0) → P σ2) : AC X 92 2 MX13_reach [vR 92, vI y] σ1 (aRV P) := by
  refine AC_of_A rfl (Nat.le_of_ble_eq_true rfl) rfl (a_reach_0 _ ⟨1, by omega, ac_isVoice ((kk.si (by decide)).trans h47) hV (fun n n1 n2 e => ⟨fun z => absurd z (by decide), fun _ => ?_⟩) (fun hz => ⟨fun _ => a_reach_15 _ ⟨rfl, q σ1 m kk mk Tcr.refl (fun x x1 x2 e => (vno_no hV hz x x1 x2 e).elim)⟩, fun z => absurd rfl z⟩)⟩)
  have uni : ∀ x, 1 ≤ x → x ≤ V → y = nI x → x = n := fun x _ x2 ex => ((nI_eq (by omega) (by omega)).mp (ex.symm.trans e))
  subst e
  rw [vpn (by omega), cl_nI (by omega)]
  refine ⟨by omega, ?_⟩
  rintro s8 rfl
  refine a_reach_15 _ ⟨rfl, q _ (un m n 1) kk.set (mk.set (t := 1) (by omega)) (fun x x1 x2 => ?_) (fun x x1 x2 ex => by rw [uni x x1 x2 ex, un_eq]; decide)⟩
  by_cases c : x = n
  · rw [c, un_eq]; exact Or.inr ⟨rfl, hM n n1 n2 rfl⟩
  · rw [un_ne c]; exact Or.inl rfl
/-- the reference looks from a voice -/
theorem Desk.rlook {P : Rm → Prop} (dk : Desk κ0 σ0 κ σ b V al S LT HT sp F0 z st fr pt w) (hn : 1 ≤ n ∧ n ≤ V) (hs : st n < 4) (kk : Rk σ σ1) (mk : Mr σ1 V m) (q : ∀ σ2 m2, Rk σ σ2 → Mr σ2 V m2 → Tcr V (Mn σ st fr pt n) m m2 → (∀ x, 1 ≤ x → x ≤ V → Mn σ st fr pt n x → m2 x ≠ 0) → P σ2) : AC X 92 3 MX13_reachFrom [vR 92, vI (nI n)] σ1 (aRV P) := by
  have hV60 : V ≤ 60 := dk.stg.2.2.2.2.2.2.2.1
  have h47 := dk.stg.1.2
  obtain ⟨-, v0, v1, v49, v6, v4⟩ := dk.vst n hn.1 hn.2
  obtain ⟨abn, -, md⟩ := dk.bn (x := 0)
  obtain ⟨-, -, ⟨sc, c1, c2, c3, c4⟩, -⟩ := abn.2.2.1 n hn.1 hn.2
  have arz := abn.1.1.2.1.2.2.2.2.1
  obtain ⟨⟨t1, t2, t3, t4, t5⟩, tb⟩ := dk.bod
  obtain ⟨s0, kn, nv, q1, q2, q3, ⟨w1, w2, w3, w4⟩, ⟨u1, u2, u3⟩, u4⟩ := tb sc c1
  refine AC_of_A rfl (Nat.le_of_ble_eq_true rfl) rfl (a_reachFrom_0 _ ?_)
  rw [vpn (by omega), cl_nI (by omega), kk.2 49 (by decide), kk.2 50 (by decide), kk.2 51 (by decide), kk.2 20 (by decide), v49, c3, cl_nI (by omega), u2, vpn (a := sc) (by omega), litI 0, eq_nI (by omega) (by omega), le_nI (by omega) (by omega)]
  refine ⟨by omega, fun s0' => ⟨by omega, by omega, fun k0 => ?_, fun k0 => ⟨by omega, 2, by omega, ?_⟩⟩, fun s0' => ?_⟩
  · have hf : fr n = [] := by
      rcases md n hn.1 hn.2 with ⟨-, z⟩ | ⟨z, -⟩
      · exact z
      · omega
    have e0 : aI σ 51 n = 0 := arz n V h47 hV60 hn.1 hn.2 (by rw [c3, cl_nI (by omega), u2, show kn = 0 by omega]; rfl)
    refine a_reachFrom_33 _ ⟨rfl, q σ1 m kk mk Tcr.refl (fun x x1 x2 hm => ?_)⟩
    rcases hm with ⟨-, h2⟩ | ⟨j, i, h1, -⟩
    · rw [e0, litI 0, eq_nI (by omega) (by omega)] at h2
      omega
    · rw [hf] at h1; exact absurd h1 (Nat.not_lt_zero _)
  · have hf : fr n = [] := by
      rcases md n hn.1 hn.2 with ⟨-, z⟩ | ⟨z, -⟩
      · exact z
      · omega
    refine ac_reach (σ := σ) (M := Mn σ st fr pt n) h47 hV60 kk mk (fun x _ _ e => Or.inl ⟨s0', e⟩) (fun σ2 m2 kk2 mk2 tc2 nz => a_reachFrom_33 _ ⟨rfl, q σ2 m2 kk2 mk2 tc2 (fun x x1 x2 hm => ?_)⟩)
    rcases hm with ⟨-, h2⟩ | ⟨j, i, h1, -⟩
    · exact nz x x1 x2 h2
    · rw [hf] at h1; exact absurd h1 (Nat.not_lt_zero _)
  · have hne : fr n ≠ [] := by
      rcases md n hn.1 hn.2 with ⟨z, -⟩ | ⟨-, mm, q2, -⟩
      · omega
      · exact q2.ne
    obtain ⟨B, b1, ⟨b2, b3, b4, b5⟩, fb⟩ := dk.framesK (X := X) hn hne
    have calls : ∀ r j σ2 m2, j + r = (fr n).length → Rk σ σ2 → Mr σ2 V m2 → Tcr V (Mn σ st fr pt n) m m2 → (∀ j' i x, j' < j → i < 12 → nI i < aI σ 21 (aI σ 61 (60 * pt n + j')).toNatClampNeg → aI σ 66 (40 * (60 * pt n + j') + i) = nI x → 1 ≤ x → x ≤ V → m2 x ≠ 0) → A X 92 3 MX13_reachFrom 36 [(0, vR 92), (1, vI (nI n)), (2, vI (nI j))] [] σ2 (aRV P) := by
      intro r
      induction r with
      | zero =>
        intro j σ2 m2 hj kk2 mk2 tc2 sn
        refine a_reachFrom_36 _ _ ?_
        rw [vpn (by omega), cl_nI (by omega), kk2.2 58 (by decide), kk2.2 60 (by decide), b3, cl_nI (n := pt n) (by omega), b4, vpn (a := pt n) (by omega), le_nI (by omega) (by omega)]
        refine ⟨by omega, by omega, fun _ => ⟨rfl, q σ2 m2 kk2 mk2 tc2 (fun x x1 x2 hm => ?_)⟩, fun z => absurd (by omega) z⟩
        rcases hm with ⟨h1, -⟩ | ⟨j0, i, h1, h2, h3, h4⟩
        · exact absurd h1 s0'
        · exact sn j0 i x (by omega) h2 h3 h4 x1 x2
      | succ r ih =>
        intro j σ2 m2 hj kk2 mk2 tc2 sn
        obtain ⟨-, f, ⟨f1, f2, f3⟩, -, g5, g6⟩ := fb ((fr n).length - 1 - j) (by omega)
        rw [show (fr n).length - 1 - ((fr n).length - 1 - j) = j by omega] at g5 g6
        have e21 : aI σ 21 (aI σ 61 (60 * pt n + j)).toNatClampNeg = nI (frN f) := by rw [g5, cl_nI (by omega), f3]
        refine a_reachFrom_36 _ _ ?_
        rw [vpn (by omega), cl_nI (by omega), kk2.2 58 (by decide), kk2.2 60 (by decide), b3, cl_nI (n := pt n) (by omega), b4, vpn (a := pt n) (by omega), le_nI (by omega) (by omega), litI 60, pk_mul, nI_add]
        refine ⟨by omega, by omega, fun z => by omega, fun _ => ⟨by omega, ?_⟩⟩
        have vars : ∀ q' i σ3 m3, i + q' = frN f → Rk σ σ3 → Mr σ3 V m3 → Tcr V (Mn σ st fr pt n) m m3 → (∀ j' i x, j' < j → i < 12 → nI i < aI σ 21 (aI σ 61 (60 * pt n + j')).toNatClampNeg → aI σ 66 (40 * (60 * pt n + j') + i) = nI x → 1 ≤ x → x ≤ V → m3 x ≠ 0) → (∀ i', i' < i → ∀ x, frV f i' = nI x → 1 ≤ x → x ≤ V → m3 x ≠ 0) → A X 92 3 MX13_reachFrom 66 [(0, vR 92), (1, vI (nI n)), (2, vI (nI j)), (3, vI (nI (60 * pt n + j))), (4, vI (nI i))] [] σ3 (aRV P) := by
          intro q'
          induction q' with
          | zero =>
            intro i σ3 m3 hi kk3 mk3 tc3 sn3 vs
            refine a_reachFrom_66 _ _ _ _ ?_
            rw [vpn (a := 60 * pt n + j) (by omega), cl_nI (n := 60 * pt n + j) (by omega), kk3.2 61 (by decide), kk3.2 21 (by decide), g5, vpn (a := frB f) (by omega), cl_nI (n := frB f) (by omega), f3, le_nI (by omega) (by omega), nI_1]
            refine ⟨by omega, by omega, fun _ => ih (j + 1) σ3 m3 (by omega) kk3 mk3 tc3 (fun j' i' x hj2 i1 i2 i3 x1 x2 => ?_), fun z => absurd (by omega) z⟩
            by_cases cj : j' = j
            · subst cj
              rw [e21, lt_nI (by omega) (by omega)] at i2
              rw [g6 i' i2] at i3
              exact vs i' (by omega) x i3 x1 x2
            · exact sn3 j' i' x (by omega) i1 i2 i3 x1 x2
          | succ q' ihq =>
            intro i σ3 m3 hi kk3 mk3 tc3 sn3 vs
            refine a_reachFrom_66 _ _ _ _ ?_
            have e40 : (40 : Int32) * nI (60 * pt n + j) + nI i = nI (40 * (60 * pt n + j) + i) := by rw [litI 40, pk_mul, nI_add]
            rw [vpn (a := 60 * pt n + j) (by omega), cl_nI (n := 60 * pt n + j) (by omega), kk3.2 61 (by decide), kk3.2 21 (by decide), kk3.2 66 (by decide), g5, vpn (a := frB f) (by omega), cl_nI (n := frB f) (by omega), f3, le_nI (by omega) (by omega), e40, vpn (a := 40 * (60 * pt n + j) + i) (by omega), cl_nI (n := 40 * (60 * pt n + j) + i) (by omega), g6 i (by omega)]
            refine ⟨by omega, by omega, fun z => by omega, fun _ => ⟨by omega, 2, by omega, ?_⟩⟩
            refine ac_reach (σ := σ) (M := Mn σ st fr pt n) h47 hV60 kk3 mk3 (fun x _ _ e => Or.inr ⟨j, i, by omega, by omega, ?_, ?_⟩) (fun σ4 m4 kk4 mk4 tc4 nz => ?_)
            · rw [e21, lt_nI (by omega) (by omega)]; omega
            · rw [g6 i (by omega)]; exact e
            · rw [nI_1]
              refine ihq (i + 1) σ4 m4 (by omega) kk4 mk4 (tc3.trans tc4) (fun j' i' x hj2 i1 i2 i3 x1 x2 => tc4.ne x1 x2 (sn3 j' i' x hj2 i1 i2 i3 x1 x2)) (fun i' hi' x e x1 x2 => ?_)
              by_cases ci : i' = i
              · subst ci; exact nz x x1 x2 e
              · exact tc4.ne x1 x2 (vs i' (by omega) x e x1 x2)
        exact vars (frN f) 0 σ2 m2 (by omega) kk2 mk2 tc2 sn (fun i' hi' => absurd hi' (Nat.not_lt_zero _))
    exact calls (fr n).length 0 σ1 m (by omega) kk mk Tcr.refl (fun j' i x hj' => absurd hj' (Nat.not_lt_zero _))
end RMARKS
