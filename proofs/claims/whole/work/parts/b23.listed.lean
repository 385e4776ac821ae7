/-! the listing of failures: the reference; both -/
section LISTING2
variable {X : Cx} {d e : Nat} {κ0 κ κ1 κ' : Km} {σ0 σ σ1 σ' : Rm} {b V al S T sp z LT HT F0 n k s m p f dp hw : Nat} {st : Nat → Nat} {fr : Nat → List Frm} {pt : Nat → Nat} {w : Nat → Nat} {fs : List Frm} {x x0 x1 x2 x3 y hi : Int32} {a : List (Nat × Nat × Nat)}
/-- the reference's list -/
def TlA (σ : Rm) (a : List (Nat × Nat × Nat)) : Prop := sI σ 102 = nI a.length ∧ ∀ k, k < a.length → aI σ 99 k = nI (a.getD k (0, 0, 0)).1 ∧ aI σ 100 k = nI (a.getD k (0, 0, 0)).2.1 ∧ aI σ 101 k = nI (a.getD k (0, 0, 0)).2.2
def Tt (σ σ' : Rm) : Prop := aL σ' = aL σ ∧ ∀ k, (k < 99 ∨ 102 < k) → aI σ' k = aI σ k
theorem Tt.refl : Tt σ σ := ⟨rfl, fun _ _ => rfl⟩
theorem Tt.trans (a : Tt σ σ1) (b : Tt σ1 σ') : Tt σ σ' := ⟨b.1.trans a.1, fun k hk => (b.2 k hk).trans (a.2 k hk)⟩
theorem TlA.push (h : TlA σ a) : TlA (wS (wI (wI (wI σ 99 a.length (nI f)) 100 a.length (nI dp)) 101 a.length (nI hw)) 102 (nI (a.length + 1))) (a ++ [(f, dp, hw)]) ∧ Tt σ (wS (wI (wI (wI σ 99 a.length (nI f)) 100 a.length (nI dp)) 101 a.length (nI hw)) 102 (nI (a.length + 1))) := by
  obtain ⟨h1, h2⟩ := h
  refine ⟨⟨by rw [sI_eq, List.length_append]; rfl, fun k hk => ?_⟩, ⟨rfl, fun g g1 => by rw [aI_ne (by omega), aI_ne (by omega), aI_ne (by omega), aI_ne (by omega)]⟩⟩
  rw [List.length_append] at hk
  have hk : k < a.length + 1 := hk
  rw [aI_ne (k' := 99) (k := 102) (by decide), aI_ne (k' := 99) (k := 101) (by decide), aI_ne (k' := 99) (k := 100) (by decide), aI_ne (k' := 100) (k := 102) (by decide), aI_ne (k' := 100) (k := 101) (by decide), aI_ne (k' := 101) (k := 102) (by decide)]
  by_cases c : k = a.length
  · subst c
    rw [gd_app2, aI_eq, aI_eq, aI_eq]
    exact ⟨rfl, rfl, rfl⟩
  · rw [gd_app (by omega), aI_ni c, aI_ni c, aI_ni c, aI_ni c, aI_ni c, aI_ni c]
    exact h2 k (by omega)
theorem ac_tellF {P : Rm → Prop} {x1 x2 x3 : Int32} (h4 : sI σ 102 = nI a.length) (h : 40 ≤ a.length) (h2 : a.length ≤ 40) (q : P σ) : AC X 92 d MX13_tellFailure [vR 92, vI x1, vI x2, vI x3] σ (aRV P) := by
  refine AC_of_A rfl (Nat.le_of_ble_eq_true rfl) rfl (a_tellFailure_0 _ _ _ ⟨fun _ => ⟨rfl, q⟩, fun z => absurd ?_ z⟩)
  rw [h4, show a.length = 40 by omega]
  rfl
/-- those beneath, by the reference -/
theorem ac_kids {m dp : Nat} {P : Rm → Prop} (fl : FRl κ σ F0) (hm : m + (dp + 1) = 41) (hd : m + 2 ≤ d) (ih : ∀ f a σ1 (C : Rm → Prop), dp + 1 ≤ a.length → a.length ≤ 40 → f < F0 → TlA σ1 a → Tt σ σ1 → (∀ σ2, TlA σ2 (vis σ m f (dp + 1) 2 a) → Tt σ σ2 → C σ2) → AC X 92 (m + 1) MX13_tellFailure [vR 92, vI (nI f), vI (nI (dp + 1)), vI (nI 2)] σ1 (aRV C)) :
    ∀ r c (a : List (Nat × Nat × Nat)) σ1, 40 ≤ a.length + r → fok F0 c → dp + 1 ≤ a.length → a.length ≤ 40 → TlA σ1 a → Tt σ σ1 → (∀ σ2, TlA σ2 (kid σ (fun c a => vis σ m c (dp + 1) 2 a) r c a) → Tt σ σ2 → P σ2) → A X 92 d MX13_tellFailure 81 [(0, vR 92), (1, vI x1), (2, vI (nI dp)), (3, vI x3), (4, vI c)] [] σ1 (aRV P) := by
  intro r
  induction r with
  | zero =>
    intro c a σ1 h40 hc hdp hl la kt q
    refine a_tellFailure_81 _ _ _ _ ?_
    rw [la.1, show ((40 : Int32)) = nI 40 from rfl, le_nI (by omega) (by omega)]
    exact ⟨fun _ => a_tellFailure_117 _ _ _ _ ⟨rfl, q σ1 la kt⟩, fun _ => ⟨fun _ => a_tellFailure_117 _ _ _ _ ⟨rfl, q σ1 la kt⟩, fun z => absurd (by omega) z⟩⟩
  | succ r ihr =>
    intro c a σ1 h40 hc hdp hl la kt q
    refine a_tellFailure_81 _ _ _ _ ?_
    rw [la.1, show ((40 : Int32)) = nI 40 from rfl, le_nI (by omega) (by omega), nI_1, show ((2 : Int32)) = nI 2 from rfl]
    rcases hc with rfl | ⟨g, hg, rfl⟩
    · exact ⟨fun _ => a_tellFailure_117 _ _ _ _ ⟨rfl, q σ1 la kt⟩, fun z => absurd (by decide) z⟩
    · have hF := fl.1.2.2
      refine ⟨fun z => absurd z (nI_pos (by omega)), fun _ => ⟨fun c4 => a_tellFailure_117 _ _ _ _ ⟨rfl, q σ1 (by rw [kid_full c4]; exact la) kt⟩, fun c4 => ⟨m + 1, by omega, ?_⟩⟩⟩
      have f1 := fl.2.2 g hg
      have e : kid σ (fun c a => vis σ m c (dp + 1) 2 a) (r + 1) (nI g) a = kid σ (fun c a => vis σ m c (dp + 1) 2 a) r (aI σ 96 g) (vis σ m g (dp + 1) 2 a) := by
        show (if nI g < 0 ∨ 40 ≤ a.length then a else kid σ (fun c a => vis σ m c (dp + 1) 2 a) r (aI σ 96 (nI g : Int32).toNatClampNeg) (vis σ m (nI g : Int32).toNatClampNeg (dp + 1) 2 a)) = _
        rw [if_neg (fun z => z.elim (nI_pos (by omega)) c4), cl_nI (by omega)]
      rw [e] at q
      obtain ⟨l1, l2, l3⟩ := vis_len (σ := σ) m g (dp + 1) 2 a hl
      have l3 := l3 (by omega) (by omega)
      refine ih g a σ1 _ hdp hl hg la kt (fun σ2 la2 kt2 => ?_)
      rw [vpn (by omega), cl_nI (by omega), kt2.2 96 (by decide)]
      exact ⟨by omega, ihr (aI σ 96 g) _ σ2 (by omega) f1.2.2.1.2.2.2 (by omega) l2 la2 kt2 q⟩
theorem ac_tell (fl : FRl κ σ F0) : ∀ m f dp hw (a : List (Nat × Nat × Nat)) σ1 (C : Rm → Prop), m + dp = 41 → dp ≤ a.length → a.length ≤ 40 → f < F0 → TlA σ1 a → Tt σ σ1 → (∀ σ2, TlA σ2 (vis σ m f dp hw a) → Tt σ σ2 → C σ2) → AC X 92 (m + 1) MX13_tellFailure [vR 92, vI (nI f), vI (nI dp), vI (nI hw)] σ1 (aRV C) := by
  intro m
  induction m with
  | zero => intro f dp hw a σ1 C hm hdp hl; omega
  | succ m ih =>
    intro f dp hw a σ1 C hm hdp hl hf la kt q
    by_cases c4 : 40 ≤ a.length
    · rw [vis_full c4] at q
      exact ac_tellF (a := a) la.1 c4 hl (q σ1 la kt)
    · have hF := fl.1.2.2
      have e : vis σ (m + 1) f dp hw a = kid σ (fun c a => vis σ m c (dp + 1) 2 a) 40 (aI σ 94 f) (if aI σ 93 f < 0 then a ++ [(f, dp, hw)] else vis σ m (aI σ 93 f).toNatClampNeg (dp + 1) 1 (a ++ [(f, dp, hw)])) := if_neg c4
      rw [e] at q
      have l1 : (a ++ [(f, dp, hw)]).length = a.length + 1 := by rw [List.length_append]; rfl
      refine AC_of_A rfl (Nat.le_of_ble_eq_true rfl) rfl (a_tellFailure_0 _ _ _ ?_)
      rw [la.1, show ((40 : Int32)) = nI 40 from rfl, eq_nI (by omega) (by omega), vpn (by omega), cl_nI (n := a.length) (by omega), vpn (a := f) (by omega), cl_nI (n := f) (by omega)]
      refine ⟨fun z => by omega, fun _ => ⟨by omega, ?_⟩⟩
      rintro s3 rfl
      have e3 : sI (wI σ1 99 a.length (nI f)) 102 = nI a.length := by rw [sI_ne (by decide)]; exact la.1
      rw [e3, vpn (by omega), cl_nI (n := a.length) (by omega)]
      refine ⟨by omega, ?_⟩
      rintro s5 rfl
      have e5 : sI (wI (wI σ1 99 a.length (nI f)) 100 a.length (nI dp)) 102 = nI a.length := by rw [sI_ne (by decide)]; exact e3
      rw [e5, vpn (by omega), cl_nI (n := a.length) (by omega)]
      refine ⟨by omega, ?_⟩
      rintro s7 rfl s8 rfl
      have e7 : sI (wI (wI (wI σ1 99 a.length (nI f)) 100 a.length (nI dp)) 101 a.length (nI hw)) 102 = nI a.length := by rw [sI_ne (by decide)]; exact e5
      rw [e7, nI_1]
      obtain ⟨la2, kt2'⟩ := la.push (f := f) (dp := dp) (hw := hw)
      have kt2 := kt.trans kt2'
      have f1 := fl.2.2 f hf
      have fin : ∀ σ2 (a2 : List (Nat × Nat × Nat)), TlA σ2 a2 → Tt σ σ2 → dp + 1 ≤ a2.length → a2.length ≤ 40 → (∀ σ3, TlA σ3 (kid σ (fun c a => vis σ m c (dp + 1) 2 a) 40 (aI σ 94 f) a2) → Tt σ σ3 → C σ3) → A X 92 (m + 1 + 1) MX13_tellFailure 73 [(0, vR 92), (1, vI (nI f)), (2, vI (nI dp)), (3, vI (nI hw))] [] σ2 (aRV C) := fun σ2 a2 la3 kt3 hdp2 hl2 q2 => by
        refine a_tellFailure_73 _ _ _ ?_
        rw [vpn (by omega), cl_nI (by omega), kt3.2 94 (by decide)]
        exact ⟨by omega, ac_kids (m := m) (dp := dp) fl (by omega) (Nat.le_refl _) (fun f' a' σ1' C' g1 g2 g3 g4 g5 g6 => ih f' (dp + 1) 2 a' σ1' C' (by omega) g1 g2 g3 g4 g5 g6) 40 (aI σ 94 f) a2 σ2 (by omega) f1.2.2.1.2.1 hdp2 hl2 la3 kt3 q2⟩
      rw [kt2.2 93 (by decide)]
      refine ⟨by omega, ?_⟩
      rcases f1.2.2.1.1 with z | ⟨g, hg, z⟩
      · rw [z] at q ⊢
        rw [if_pos (show (-9 : Int32) < 0 by decide)] at q
        exact ⟨fun _ => fin _ _ la2 kt2 (by omega) (by omega) q, fun z => absurd (by decide) z⟩
      · rw [z, if_neg (nI_pos (by omega)), cl_nI (by omega)] at q
        rw [z]
        obtain ⟨v1, v2, -⟩ := vis_len (σ := σ) m g (dp + 1) 1 (a ++ [(f, dp, hw)]) (by omega)
        refine ⟨fun z => absurd z (nI_pos (by omega)), fun _ => ⟨by omega, m + 1, by omega, ?_⟩⟩
        rw [nI_1, show ((1 : Int32)) = nI 1 from rfl]
        exact ih g (dp + 1) 1 _ _ _ (by omega) (by omega) (by omega) hg la2 kt2 (fun σ2 la3 kt3 => fin σ2 _ la3 kt3 (by omega) v2 q)
/-- the latest one of both -/
def Lat (κ : Km) (σ : Rm) (F0 : Nat) : Prop := (sI σ 97 = -9 ∧ kI κ 84 2 = 0) ∨ ∃ l, l < F0 ∧ sI σ 97 = nI l ∧ kI κ 84 2 = nI (l + 1)
theorem ac_tellsF {P : Rm → Prop} (fl : FRl κ σ F0) (lt : Lat κ σ F0) (hd : 43 ≤ d) (q : ∀ σ', TlA σ' (lsn σ) → Tt σ σ' → P σ') : AC X 92 d MX13_tellFailures [vR 92] σ (aRV P) := by
  have hF := fl.1.2.2
  refine AC_of_A rfl (Nat.le_of_ble_eq_true rfl) rfl (a_tellFailures_0 ?_)
  rintro s1 rfl
  have e97 : sI (wS σ 102 0) 97 = sI σ 97 := sI_ne (by decide)
  have la : TlA (wS σ 102 0) [] := ⟨sI_eq, fun k hk => absurd hk (Nat.not_lt_zero _)⟩
  have kt : Tt σ (wS σ 102 0) := ⟨rfl, fun k hk => aI_ne (by omega)⟩
  rw [e97]
  have el : lsn σ = if sI σ 97 < 0 then [] else vis σ 41 (sI σ 97).toNatClampNeg 0 0 [] := rfl
  rw [el] at q
  rcases lt with ⟨z, -⟩ | ⟨l, hl, z, -⟩
  · rw [z] at q ⊢
    exact ⟨fun _ => a_tellFailures_22 ⟨rfl, q _ (by rw [if_pos (by decide)]; exact la) kt⟩, fun z => absurd (by decide) z⟩
  · rw [z, if_neg (nI_pos (by omega)), cl_nI (by omega)] at q
    rw [z]
    refine ⟨fun z => absurd z (nI_pos (by omega)), fun _ => ⟨42, by omega, ?_⟩⟩
    exact ac_tell fl 41 l 0 0 [] _ _ rfl (Nat.zero_le _) (Nat.zero_le _) hl la kt (fun σ2 la2 kt2 => a_tellFailures_22 ⟨rfl, q σ2 la2 kt2⟩)
def Ku (κ κ' : Km) : Prop := κ'.2 = κ.2 ∧ (∀ g, g ≠ 84 → g ≠ 86 → g ≠ 87 → g ≠ 88 → kI κ' g = kI κ g) ∧ ∀ k, k ≠ 3 → k ≠ 4 → kI κ' 84 k = kI κ 84 k
theorem kc_listed {F : Int32 → Km → Prop} (fl : FRl κ σ F0) (lt : Lat κ σ F0) (ls : Lsd κ σ) (hd : 43 ≤ d) (q : ∀ κ', LsA κ' (lsn σ) → Ku κ κ' → kI κ' 84 3 = 1 → F (nI (lsn σ).length) κ') : KC' X d MX2_listed [vR 84] κ (kRI F) := by
  have hF := fl.1.2.2
  refine KC_of_K rfl (Nat.le_of_ble_eq_true rfl) rfl (k_2_listed_0 ⟨fun c0 => ?_, fun c0 => ?_⟩)
  · rintro κ2 rfl κ3 rfl
    have e2 : kI (cI (cI κ 84 3 1) 84 4 0) 84 2 = kI κ 84 2 := by rw [kI_nk (by decide), kI_nk (by decide)]
    have la : LsA (cI (cI κ 84 3 1) 84 4 0) [] := ⟨kI_eq, fun k hk => absurd hk (Nat.not_lt_zero _)⟩
    have kt : Ku κ (cI (cI κ 84 3 1) 84 4 0) := ⟨rfl, fun g g1 _ _ _ => by rw [kI_ne g1, kI_ne g1], fun k k1 k2 => by rw [kI_nk k2, kI_nk k1]⟩
    have e3 : kI (cI (cI κ 84 3 1) 84 4 0) 84 3 = 1 := by rw [kI_nk (by decide), kI_eq]
    have el : lsn σ = if sI σ 97 < 0 then [] else vis σ 41 (sI σ 97).toNatClampNeg 0 0 [] := rfl
    refine ⟨42, by omega, ?_⟩
    rw [e2]
    rcases lt with ⟨z, z2⟩ | ⟨l, hl, z, z2⟩
    · rw [z2]
      have e0 : lsn σ = [] := by rw [el, z, if_pos (by decide)]
      refine kc_visit0 (k_2_listed_27 ⟨_, rfl, ?_⟩)
      rw [la.1]
      rw [e0] at q
      exact q _ la kt e3
    · rw [z2]
      rw [el, z, if_neg (nI_pos (by omega)), cl_nI (by omega)] at q
      have fl2 : FRl (cI (cI κ 84 3 1) 84 4 0) σ F0 := fl.fr (by rw [kI_nk (by decide), kI_nk (by decide)]) (by rw [kI_ne (by decide), kI_ne (by decide)]) rfl (fun _ _ _ => rfl)
      have w2 : kW (cI (cI κ 84 3 1) 84 4 0) = kW κ := rfl
      refine kc_visit fl2 (by rw [w2]; exact ls.1) 41 l 0 0 [] _ _ rfl (Nat.zero_le _) (Nat.zero_le _) hl la Kt.refl (fun κ2 la2 kt2 => k_2_listed_27 ⟨_, rfl, ?_⟩)
      rw [la2.1]
      exact q κ2 la2 ⟨kt2.1.trans kt.1, fun g h1 h2 h3 h4 => (kt2.2.1 g h1 h2 h3 h4).trans (kt.2.1 g h1 h2 h3 h4), fun k h1 h2 => (kt2.2.2 k h2).trans (kt.2.2 k h1 h2)⟩ ((kt2.2.2 3 (by decide)).trans e3)
  · obtain ⟨-, z | ⟨z1, z2, z3⟩⟩ := ls
    · exact absurd z c0
    · refine k_2_listed_27 ⟨_, rfl, ?_⟩
      rw [z2]
      exact q κ ⟨z2, z3⟩ ⟨rfl, fun _ _ _ _ _ => rfl, fun _ _ _ => rfl⟩ z1
end LISTING2
section LISTING3
variable {X : Cx} {d e : Nat} {κ0 κ κ1 κ' : Km} {σ0 σ σ1 σ' : Rm} {b V al S T sp z LT HT F0 n k s m p f : Nat} {st : Nat → Nat} {fr : Nat → List Frm} {pt : Nat → Nat} {w : Nat → Nat} {x x0 x1 x2 x3 y hi : Int32} {a : List (Nat × Nat × Nat)}
theorem Desk.lat (dk : Desk κ0 σ0 κ σ b V al S LT HT sp F0 z st fr pt w) : Lat κ σ F0 ∧ Lsd κ σ ∧ FRl κ σ F0 := by
  have fl := dk.f88.2.2.1
  obtain ⟨-, -, -, -, -, -, h, ls⟩ := dk
  exact ⟨h.imp id (fun ⟨l, l1, l2, l3, _⟩ => ⟨l, l1, l2, l3⟩), ls, fl⟩
/-- both have listed, or only one has -/
theorem Desk.lst (dk : Desk κ0 σ0 κ σ b V al S LT HT sp F0 z st fr pt w) (ku : Ku κ κ') (tt : Tt σ σ') (ls : Lsd κ' σ') : Desk κ0 σ0 κ' σ' b V al S LT HT sp F0 z st fr pt w := by
  obtain ⟨a, c, m⟩ := dk.bn (x := 0)
  obtain ⟨-, b5, acc, col⟩ := dk
  have es : ∀ k, k < 99 → aI σ' k = aI σ k := fun k hk => tt.2 k (Or.inl hk)
  have e79 : kI κ' 79 = kI κ 79 := ku.2.1 79 (by decide) (by decide) (by decide) (by decide)
  have ev : kV κ' = kV κ := by show κ'.2.2.2.2.2.1 = κ.2.2.2.2.2.1; rw [ku.1]
  have eh : ∀ g, 1000 ≤ g → kI κ' g = kI κ g := fun g hg => ku.2.1 g (by omega) (by omega) (by omega) (by omega)
  have a2 : Bn κ0 σ0 κ' σ' b V al S 0 sp z LT HT F0 st fr pt 0 := a.upd ku.1 (fun g h1 h2 h3 h4 h5 h6 => ku.2.1 g h2 h3 h4 h5) (ku.2.2 1 (by decide) (by decide)) (fun m k _ => by rw [eh _ (by omega)]) (by rw [e79]) (fun k hk => es k (by omega)) tt.1 (a.2.1.cg (fun k _ => by rw [e79]) ev (fun k hk => congrFun (es k (by omega)) 0)) (fun n n1 n2 => (a.2.2.1 n n1 n2).cg (fun k _ => by rw [eh _ (by omega)]) (fun k h1 h2 => by rw [es k (by omega)]) (es 19 (by omega))) (fun _ => rfl)
  obtain ⟨c1, c2, c3, c4, -⟩ := col
  refine Desk.of a2 (c.cg (es 54 (by omega)) (es 56 (by omega)) (es 57 (by omega))) (fun n n1 n2 => (m n n1 n2).cg (congrFun (es 56 (by omega)) n) (Nat.le_refl _)) (by rw [e79]; exact b5) acc ⟨?_, c2, c3, ?_, ls⟩
  · rw [es 93 (by omega), es 94 (by omega), es 95 (by omega), es 96 (by omega)]
    exact c1
  · rw [show sI σ' 97 = sI σ 97 from congrFun (es 97 (by omega)) 0, ku.2.2 2 (by decide) (by decide)]
    exact c4
theorem Tt.lsn (tt : Tt σ σ') : lsn σ' = lsn σ := lsn_cg (tt.2 93 (by decide)) (tt.2 94 (by decide)) (tt.2 96 (by decide)) (congrFun (tt.2 97 (by decide)) 0)
theorem Lsd.tt (h : Lsd κ σ) (tt : Tt σ σ') : Lsd κ σ' := by
  unfold Lsd at *
  rw [tt.lsn]; exact h
theorem LsA.lsd (la : LsA κ' (lsn σ)) (ku : Ku κ κ') (h3 : kI κ' 84 3 = 1) (ls : Lsd κ σ) (tt : Tt σ σ') : Lsd κ' σ' := by
  have ew : kW κ' = kW κ := by show κ'.2.2.1 = κ.2.2.1; rw [ku.1]
  refine ⟨by rw [ew]; exact ls.1, Or.inr ⟨h3, ?_⟩⟩
  rw [tt.lsn]
  exact la
theorem vis_fok (fl : FRl κ σ F0) : ∀ m f dp hw (a : List (Nat × Nat × Nat)), f < F0 → (∀ q, q ∈ a → q.1 < F0) → ∀ q, q ∈ vis σ m f dp hw a → q.1 < F0 := by
  have hF := fl.1.2.2
  intro m
  induction m with
  | zero => intro f dp hw a _ h; exact h
  | succ m ih =>
    intro f dp hw a hf h
    have f1 := fl.2.2 f hf
    show ∀ q, q ∈ (if 40 ≤ a.length then a else kid σ (fun c a => vis σ m c (dp + 1) 2 a) 40 (aI σ 94 f) (if aI σ 93 f < 0 then a ++ [(f, dp, hw)] else vis σ m (aI σ 93 f).toNatClampNeg (dp + 1) 1 (a ++ [(f, dp, hw)]))) → q.1 < F0
    have h2 : ∀ q, q ∈ a ++ [(f, dp, hw)] → q.1 < F0 := fun q hq => by
      rcases List.mem_append.mp hq with hq | hq
      · exact h q hq
      · rw [List.mem_singleton.mp hq]; exact hf
    have kk : ∀ r c (a : List (Nat × Nat × Nat)), fok F0 c → (∀ q, q ∈ a → q.1 < F0) → ∀ q, q ∈ kid σ (fun c a => vis σ m c (dp + 1) 2 a) r c a → q.1 < F0 := by
      intro r
      induction r with
      | zero => intro c a _ h; exact h
      | succ r ihr =>
        intro c a hc ha
        show ∀ q, q ∈ (if c < 0 ∨ 40 ≤ a.length then a else kid σ (fun c a => vis σ m c (dp + 1) 2 a) r (aI σ 96 c.toNatClampNeg) (vis σ m c.toNatClampNeg (dp + 1) 2 a)) → q.1 < F0
        by_cases c1 : c < 0 ∨ 40 ≤ a.length
        · rw [if_pos c1]; exact ha
        · rw [if_neg c1]
          rcases hc with rfl | ⟨g, hg, rfl⟩
          · exact absurd (Or.inl (by decide)) c1
          · rw [cl_nI (by omega)]
            exact ihr _ _ (fl.2.2 g hg).2.2.1.2.2.2 (ih g (dp + 1) 2 a hg ha)
    by_cases c4 : 40 ≤ a.length
    · rw [if_pos c4]; exact h
    · rw [if_neg c4]
      refine kk 40 _ _ f1.2.2.1.2.1 ?_
      rcases f1.2.2.1.1 with z | ⟨g, hg, z⟩
      · rw [z, if_pos (by decide)]; exact h2
      · rw [z, if_neg (nI_pos (by omega)), cl_nI (by omega)]
        exact ih g (dp + 1) 1 _ hg h2
theorem lsn_fok (fl : FRl κ σ F0) (lt : Lat κ σ F0) : (lsn σ).length ≤ 40 ∧ ∀ k, k < (lsn σ).length → ((lsn σ).getD k (0, 0, 0)).1 < F0 := by
  have hF := fl.1.2.2
  have el : lsn σ = if sI σ 97 < 0 then [] else vis σ 41 (sI σ 97).toNatClampNeg 0 0 [] := rfl
  have key : (lsn σ).length ≤ 40 ∧ ∀ q, q ∈ lsn σ → q.1 < F0 := by
    rcases lt with ⟨z, -⟩ | ⟨l, hl, z, -⟩
    · rw [el, z, if_pos (by decide)]
      exact ⟨Nat.zero_le _, fun q hq => absurd hq List.not_mem_nil⟩
    · rw [el, z, if_neg (nI_pos (by omega)), cl_nI (by omega)]
      exact ⟨(vis_len 41 l 0 0 [] (Nat.zero_le _)).2.1, vis_fok fl 41 l 0 0 [] hl (fun q hq => absurd hq List.not_mem_nil)⟩
  refine ⟨key.1, fun k hk => key.2 _ ?_⟩
  rw [List.getD_eq_getElem?_getD, List.getElem?_eq_getElem hk]
  exact List.getElem_mem hk
theorem failures_ok (h : Rr k κ σ) : P2I X MX11_failures MX13_failures [] κ σ (Rr (k + 1)) := by
  refine ⟨60, 60, by decide, by decide, ?_⟩
  rcases h.cases with ⟨p, hR⟩ | ⟨κ0, σ0, b, V, al, S, LT, HT, sp, F0, z, st, fr, pt, w, p0, p, dk, hb, hR⟩
  · exact KC_of_K rfl (Nat.le_of_ble_eq_true rfl) rfl (k_11_failures_0 ⟨fun _ => k_11_failures_22 _ ⟨_, rfl, AC_of_A rfl (Nat.le_of_ble_eq_true rfl) rfl (a_failures_0 ⟨fun _ => ⟨_, rfl, rfl, hR⟩, fun z => absurd p.2.2.2.2 z⟩)⟩, fun z => absurd p.2.2.2.1 z⟩)
  · obtain ⟨-, -, -, h5, h46⟩ := p
    obtain ⟨lt, ls, fl⟩ := dk.lat
    refine KC_of_K rfl (Nat.le_of_ble_eq_true rfl) rfl (k_11_failures_0 ⟨fun z => absurd (h5.symm.trans z) (by decide), fun _ => ⟨43, by omega, kc_listed fl lt ls (Nat.le_refl _) (fun κ' la ku h3 => k_11_failures_22 _ ⟨_, rfl, ?_⟩)⟩⟩)
    refine AC_of_A rfl (Nat.le_of_ble_eq_true rfl) rfl (a_failures_0 ⟨fun z => absurd (h46.symm.trans z) (by decide), fun _ => ⟨43, by omega, ac_tellsF fl lt (Nat.le_refl _) (fun σ' ta tt => ?_)⟩⟩)
    exact ⟨_, rfl, ta.1.symm, Or.inr ⟨κ0, σ0, b, V, al, S, LT, HT, sp, F0, z, st, fr, pt, w, p0, dk.lst ku tt (la.lsd ku h3 ls tt), by omega⟩⟩
/-- what is told of a failure that is listed -/
def fval (σ : Rm) (j i : Nat) : Int32 := if i = 0 then aI σ 89 ((lsn σ).getD j (0, 0, 0)).1 else if i = 1 then aI σ 90 ((lsn σ).getD j (0, 0, 0)).1 else if i = 2 then aI σ 91 ((lsn σ).getD j (0, 0, 0)).1 else if i = 3 then aI σ 92 ((lsn σ).getD j (0, 0, 0)).1 else if i = 4 then nI ((lsn σ).getD j (0, 0, 0)).2.1 else nI ((lsn σ).getD j (0, 0, 0)).2.2
theorem kc_ffact {F : Int32 → Km → Prop} {j i : Nat} (fl : FRl κ σ F0) (lt : Lat κ σ F0) (hw86 : kW κ 86 = 40 ∧ kW κ 87 = 40 ∧ kW κ 88 = 40) (la : LsA κ' (lsn σ)) (ku : Ku κ κ') (hj : j < (lsn σ).length) (hi : i ≤ 5) (q : F (fval σ j i) κ') : KC' X 1 MX2_fact [vR 84, vI (nI j), vI (nI i)] κ' (kRI F) := by
  obtain ⟨l40, lf⟩ := lsn_fok fl lt
  have hf := lf j hj
  have ew : kW κ' = kW κ := by show κ'.2.2.1 = κ.2.2.1; rw [ku.1]
  have e85 : kI κ' 85 = kI κ 85 := ku.2.1 85 (by decide) (by decide) (by decide) (by decide)
  have hF := fl.1.2.2
  have w1 := fl.2.1.1
  have w2 := fl.2.1.2.2
  obtain ⟨f1, -⟩ := fl.2.2 _ hf
  obtain ⟨a1, a2, a3⟩ := la.2 j hj
  refine KC_of_K rfl (Nat.le_of_ble_eq_true rfl) rfl (k_2_fact_0 _ _ ⟨fun z => absurd z (nI_pos (by omega)), fun _ => ?_⟩)
  rw [la.1, show ((40 : Int32)) = nI 40 from rfl, le_nI (by omega) (by omega), lt_nI (by omega) (by omega), ew, hw86.1, hw86.2.1, hw86.2.2, vpn (by omega), cl_nI (by omega), a1, a2, a3]
  refine ⟨fun z => by omega, fun _ => ⟨fun _ => ?_, fun z => absurd (by omega) z⟩⟩
  have row : ∀ i, i < 4 → fval σ j i = kI κ' 85 (8 * (((lsn σ).getD j (0, 0, 0)).1 + 1) + i) → F (fval σ j i) κ' → ∃ e8 : Nat, e8 + 1 ≤ 1 ∧ KC' X e8 MX2_get [vR 84, vI (nI (((lsn σ).getD j (0, 0, 0)).1 + 1)), vI (nI i)] κ' (kRI fun y11 κ12 => (kRI F) (.inl (some (vI y11))) κ12) := fun i hi he hq => ⟨0, by omega, kc_fget (by rw [ew]; omega) (by rw [ew]; exact w2) ⟨_, rfl, by rw [← he]; exact hq⟩⟩
  have h6 : i = 0 ∨ i = 1 ∨ i = 2 ∨ i = 3 ∨ i = 4 ∨ i = 5 := by omega
  rcases h6 with rfl | rfl | rfl | rfl | rfl | rfl
  · exact ⟨fun z => absurd z (by decide), fun z => absurd z (by decide), fun _ => ⟨by omega, row 0 (by omega) (by rw [e85]; exact f1.1.symm) q⟩⟩
  · exact ⟨fun z => absurd z (by decide), fun z => absurd z (by decide), fun _ => ⟨by omega, row 1 (by omega) (by rw [e85]; exact f1.2.1.symm) q⟩⟩
  · exact ⟨fun z => absurd z (by decide), fun z => absurd z (by decide), fun _ => ⟨by omega, row 2 (by omega) (by rw [e85]; exact f1.2.2.1.symm) q⟩⟩
  · exact ⟨fun z => absurd z (by decide), fun z => absurd z (by decide), fun _ => ⟨by omega, row 3 (by omega) (by rw [e85]; exact f1.2.2.2.symm) q⟩⟩
  · exact ⟨fun _ => ⟨by omega, _, rfl, q⟩, fun z => absurd z (by decide), fun z => absurd (Or.inl rfl) z⟩
  · exact ⟨fun z => absurd z (by decide), fun _ => ⟨by omega, _, rfl, q⟩, fun z => absurd (Or.inr rfl) z⟩
theorem ac_ffact {F : Int32 → Rm → Prop} (h46 : sI σ 46 = 1) (fl : FRl κ σ F0) (lt : Lat κ σ F0) (bad : ∀ σ', Tt σ σ' → ((∀ j, j < (lsn σ).length → x0 ≠ nI j) ∨ ∀ i, i ≤ 5 → x1 ≠ nI i) → F (-1) σ') (good : ∀ σ' j i, Tt σ σ' → j < (lsn σ).length → x0 = nI j → i ≤ 5 → x1 = nI i → F (fval σ j i) σ') : AC X 92 60 MX13_failure_ [vR 92, vI x0, vI x1] σ (aRI F) := by
  obtain ⟨l40, lf⟩ := lsn_fok fl lt
  have hF := fl.1.2.2
  refine AC_of_A rfl (Nat.le_of_ble_eq_true rfl) rfl (a_failure__0 _ _ ⟨fun z => absurd (h46.symm.trans z) (by decide), fun _ => ⟨43, by omega, ac_tellsF fl lt (Nat.le_refl _) (fun σ' ta tt => ⟨0, by omega, ac_inC ta.1 (by omega) (fun j hj e => ⟨fun z => absurd z (by decide), fun _ => ⟨0, by omega, ac_inN (m := 5) rfl (by omega) (fun i hi e2 => ⟨fun z => absurd z (by decide), fun _ => ?_⟩) (fun hz => ⟨fun _ => a_failure__37 _ _ ⟨_, rfl, bad σ' tt (Or.inr hz)⟩, fun z => absurd rfl z⟩)⟩⟩) (fun hz => ⟨fun _ => a_failure__37 _ _ ⟨_, rfl, bad σ' tt (Or.inl hz)⟩, fun z => absurd rfl z⟩)⟩)⟩⟩)
  have q := good σ' j i tt hj e hi e2
  subst e e2
  have hf := lf j hj
  obtain ⟨a1, a2, a3⟩ := ta.2 j hj
  rw [vpn (by omega), cl_nI (by omega), a1, a2, a3, vpn (by omega), cl_nI (n := ((lsn σ).getD j (0, 0, 0)).1) (by omega), tt.2 89 (by decide), tt.2 90 (by decide), tt.2 91 (by decide), tt.2 92 (by decide)]
  refine ⟨by omega, ?_⟩
  have h6 : i = 0 ∨ i = 1 ∨ i = 2 ∨ i = 3 ∨ i = 4 ∨ i = 5 := by omega
  rcases h6 with rfl | rfl | rfl | rfl | rfl | rfl
  · exact ⟨fun _ => ⟨by omega, _, rfl, q⟩, fun z => absurd z (by decide), fun z => absurd z (by decide), fun z => absurd z (by decide), fun z => absurd z (by decide), fun z => absurd (Or.inl rfl) z⟩
  · exact ⟨fun z => absurd z (by decide), fun _ => ⟨by omega, _, rfl, q⟩, fun z => absurd z (by decide), fun z => absurd z (by decide), fun z => absurd z (by decide), fun z => absurd (Or.inr (Or.inl rfl)) z⟩
  · exact ⟨fun z => absurd z (by decide), fun z => absurd z (by decide), fun _ => ⟨by omega, _, rfl, q⟩, fun z => absurd z (by decide), fun z => absurd z (by decide), fun z => absurd (Or.inr (Or.inr (Or.inl rfl))) z⟩
  · exact ⟨fun z => absurd z (by decide), fun z => absurd z (by decide), fun z => absurd z (by decide), fun _ => ⟨by omega, _, rfl, q⟩, fun z => absurd z (by decide), fun z => absurd (Or.inr (Or.inr (Or.inr (Or.inl rfl)))) z⟩
  · exact ⟨fun z => absurd z (by decide), fun z => absurd z (by decide), fun z => absurd z (by decide), fun z => absurd z (by decide), fun _ => ⟨by omega, _, rfl, q⟩, fun z => absurd (Or.inr (Or.inr (Or.inr (Or.inr rfl)))) z⟩
  · exact ⟨fun z => absurd z (by decide), fun z => absurd z (by decide), fun z => absurd z (by decide), fun z => absurd z (by decide), fun z => absurd z (by decide), fun _ => ⟨by omega, _, rfl, q⟩⟩
theorem failure_ok (h : Rr k κ σ) : P2I X MX11_failure MX13_failure_ [vI x0, vI x1] κ σ (Rr (k + 1)) := by
  refine ⟨60, 60, by decide, by decide, ?_⟩
  rcases h.cases with ⟨p, hR⟩ | ⟨κ0, σ0, b, V, al, S, LT, HT, sp, F0, z, st, fr, pt, w, p0, p, dk, hb, hR⟩
  · exact KC_of_K rfl (Nat.le_of_ble_eq_true rfl) rfl (k_11_failure_0 _ _ ⟨fun _ => ⟨_, rfl, AC_of_A rfl (Nat.le_of_ble_eq_true rfl) rfl (a_failure__0 _ _ ⟨fun _ => ⟨_, rfl, rfl, hR⟩, fun z => absurd p.2.2.2.2 z⟩)⟩, fun z => absurd p.2.2.2.1 z⟩)
  · obtain ⟨-, -, -, h5, h46⟩ := p
    obtain ⟨lt, ls, fl⟩ := dk.lat
    obtain ⟨l40, lf⟩ := lsn_fok fl lt
    have hRR : ∀ κ' σ', Ku κ κ' → Tt σ σ' → Lsd κ' σ' → Rr (k + 1) κ' σ' := fun κ' σ' ku tt l => Or.inr ⟨κ0, σ0, b, V, al, S, LT, HT, sp, F0, z, st, fr, pt, w, p0, dk.lst ku tt l, by omega⟩
    have ku0 : Ku κ κ := ⟨rfl, fun _ _ _ _ _ => rfl, fun _ _ _ => rfl⟩
    have bad : ∀ κ', Ku κ κ' → (∀ σ', Tt σ σ' → Lsd κ' σ') → ((∀ j, j < (lsn σ).length → x0 ≠ nI j) ∨ ∀ i, i ≤ 5 → x1 ≠ nI i) → AC X 92 60 MX13_failure_ [vR 92, vI x0, vI x1] σ (aRI fun y' σ' => (-1 : Int32) = y' ∧ Rr (k + 1) κ' σ') := fun κ' ku hl hz => ac_ffact h46 fl lt (fun σ' tt _ => ⟨rfl, hRR κ' σ' ku tt (hl σ' tt)⟩) (fun σ' j i tt hj e hi e2 => by
      rcases hz with hz | hz
      · exact absurd e (hz j hj)
      · exact absurd e2 (hz i hi))
    refine KC_of_K rfl (Nat.le_of_ble_eq_true rfl) rfl (k_11_failure_0 _ _ ⟨fun z => absurd (h5.symm.trans z) (by decide), fun _ => ⟨fun c => k_11_failure_37 _ _ ⟨_, rfl, bad κ ku0 (fun σ' tt => ls.tt tt) (Or.inl (fun j hj e => nI_pos (by omega) (e ▸ c)))⟩, fun c => ⟨43, by omega, kc_listed fl lt ls (Nat.le_refl _) (fun κ' la ku h3 => ?_)⟩⟩⟩)
    have hl : ∀ σ', Tt σ σ' → Lsd κ' σ' := fun σ' tt => la.lsd ku h3 ls tt
    obtain ⟨j, hj, rfl⟩ := nI_of c
    rw [le_nI (by omega) hj]
    refine ⟨fun c1 => k_11_failure_37 _ _ ⟨_, rfl, bad κ' ku hl (Or.inl (fun i hi e => by rw [eq_nI hj (by omega)] at e; omega))⟩, fun c1 => ⟨fun c2 => k_11_failure_37 _ _ ⟨_, rfl, bad κ' ku hl (Or.inr (fun i hi e => nI_pos (by omega) (e ▸ c2)))⟩, fun c2 => ?_⟩⟩
    obtain ⟨i, hi, rfl⟩ := nI_of c2
    rw [show ((5 : Int32)) = nI 5 from rfl, le_nI hi (by omega)]
    refine ⟨fun c3 => ⟨1, by omega, kc_ffact fl lt ls.1 la ku (by omega) c3 ⟨_, rfl, ?_⟩⟩, fun c3 => k_11_failure_37 _ _ ⟨_, rfl, bad κ' ku hl (Or.inr (fun i' hi' e => by rw [eq_nI hi (by omega)] at e; omega))⟩⟩
    refine ac_ffact h46 fl lt (fun σ' tt hz => ?_) (fun σ' j' i' tt hj' e hi' e2 => ?_)
    · rcases hz with hz | hz
      · exact absurd rfl (hz j (by omega))
      · exact absurd rfl (hz i c3)
    · have e1 : j = j' := by rw [eq_nI hj (by omega)] at e; exact e
      have e3 : i = i' := by rw [eq_nI hi (by omega)] at e2; exact e2
      rw [e1, e3]
      exact ⟨rfl, hRR κ' σ' ku tt (hl σ' tt)⟩
end LISTING3
