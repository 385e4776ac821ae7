/-! the listing of failures: of both -/
section LISTING
variable {X : Cx} {d e : Nat} {κ0 κ κ1 κ' : Km} {σ0 σ σ1 σ' : Rm} {b V al S T sp z LT HT F0 n k s m p f dp hw : Nat} {st : Nat → Nat} {fr : Nat → List Frm} {pt : Nat → Nat} {w : Nat → Nat} {fs : List Frm} {x x0 x1 x2 x3 y hi : Int32} {a : List (Nat × Nat × Nat)}
theorem kid_full {g : Nat → List (Nat × Nat × Nat) → List (Nat × Nat × Nat)} (h : 40 ≤ a.length) : ∀ m c, kid σ g m c a = a := by
  intro m c
  cases m with
  | zero => rfl
  | succ m => exact if_pos (Or.inr h)
theorem vis_full (h : 40 ≤ a.length) : ∀ m f dp hw, vis σ m f dp hw a = a := by
  intro m f dp hw
  cases m with
  | zero => rfl
  | succ m => exact if_pos h
theorem kid_len {g : Nat → List (Nat × Nat × Nat) → List (Nat × Nat × Nat)} (hg : ∀ c a, a.length ≤ 40 → a.length ≤ (g c a).length ∧ (g c a).length ≤ 40) : ∀ m c a, a.length ≤ 40 → a.length ≤ (kid σ g m c a).length ∧ (kid σ g m c a).length ≤ 40 := by
  intro m
  induction m with
  | zero => intro c a h; exact ⟨Nat.le_refl _, h⟩
  | succ m ih =>
    intro c a h
    show a.length ≤ (if c < 0 ∨ 40 ≤ a.length then a else kid σ g m (aI σ 96 c.toNatClampNeg) (g c.toNatClampNeg a)).length ∧ (if c < 0 ∨ 40 ≤ a.length then a else kid σ g m (aI σ 96 c.toNatClampNeg) (g c.toNatClampNeg a)).length ≤ 40
    by_cases c1 : c < 0 ∨ 40 ≤ a.length
    · rw [if_pos c1]; exact ⟨Nat.le_refl _, h⟩
    · rw [if_neg c1]
      obtain ⟨h1, h2⟩ := hg c.toNatClampNeg a h
      obtain ⟨h3, h4⟩ := ih (aI σ 96 c.toNatClampNeg) (g c.toNatClampNeg a) h2
      exact ⟨by omega, h4⟩
theorem vis_len : ∀ m f dp hw (a : List (Nat × Nat × Nat)), a.length ≤ 40 → a.length ≤ (vis σ m f dp hw a).length ∧ (vis σ m f dp hw a).length ≤ 40 ∧ (1 ≤ m → a.length < 40 → a.length + 1 ≤ (vis σ m f dp hw a).length) := by
  intro m
  induction m with
  | zero => intro f dp hw a h; exact ⟨Nat.le_refl _, h, fun z => by omega⟩
  | succ m ih =>
    intro f dp hw a h
    by_cases c1 : 40 ≤ a.length
    · rw [vis_full c1]; exact ⟨Nat.le_refl _, h, fun _ z => by omega⟩
    · have e : vis σ (m + 1) f dp hw a = kid σ (fun c a => vis σ m c (dp + 1) 2 a) 40 (aI σ 94 f) (if aI σ 93 f < 0 then a ++ [(f, dp, hw)] else vis σ m (aI σ 93 f).toNatClampNeg (dp + 1) 1 (a ++ [(f, dp, hw)])) := if_neg c1
      have l1 : (a ++ [(f, dp, hw)]).length = a.length + 1 := by rw [List.length_append]; rfl
      have h2 : a.length + 1 ≤ (if aI σ 93 f < 0 then a ++ [(f, dp, hw)] else vis σ m (aI σ 93 f).toNatClampNeg (dp + 1) 1 (a ++ [(f, dp, hw)])).length ∧ (if aI σ 93 f < 0 then a ++ [(f, dp, hw)] else vis σ m (aI σ 93 f).toNatClampNeg (dp + 1) 1 (a ++ [(f, dp, hw)])).length ≤ 40 := by
        by_cases c2 : aI σ 93 f < 0
        · rw [if_pos c2, l1]; exact ⟨Nat.le_refl _, by omega⟩
        · rw [if_neg c2]
          obtain ⟨q1, q2, -⟩ := ih (aI σ 93 f).toNatClampNeg (dp + 1) 1 (a ++ [(f, dp, hw)]) (by omega)
          exact ⟨by omega, q2⟩
      obtain ⟨h3, h4⟩ := kid_len (σ := σ) (g := fun c a => vis σ m c (dp + 1) 2 a) (fun c a ha => ⟨(ih c (dp + 1) 2 a ha).1, (ih c (dp + 1) 2 a ha).2.1⟩) 40 (aI σ 94 f) _ h2.2
      rw [e]
      exact ⟨by omega, h4, fun _ _ => by omega⟩
/-- the class's list -/
def LsA (κ : Km) (a : List (Nat × Nat × Nat)) : Prop := kI κ 84 4 = nI a.length ∧ ∀ k, k < a.length → kI κ 86 k = nI ((a.getD k (0, 0, 0)).1 + 1) ∧ kI κ 87 k = nI (a.getD k (0, 0, 0)).2.1 ∧ kI κ 88 k = nI (a.getD k (0, 0, 0)).2.2
def Kt (κ κ' : Km) : Prop := κ'.2 = κ.2 ∧ (∀ g, g ≠ 84 → g ≠ 86 → g ≠ 87 → g ≠ 88 → kI κ' g = kI κ g) ∧ ∀ k, k ≠ 4 → kI κ' 84 k = kI κ 84 k
theorem Kt.refl : Kt κ κ := ⟨rfl, fun _ _ _ _ _ => rfl, fun _ _ => rfl⟩
theorem Kt.trans (a : Kt κ κ1) (b : Kt κ1 κ') : Kt κ κ' := ⟨b.1.trans a.1, fun g h1 h2 h3 h4 => (b.2.1 g h1 h2 h3 h4).trans (a.2.1 g h1 h2 h3 h4), fun k h1 => (b.2.2 k h1).trans (a.2.2 k h1)⟩
theorem Kt.kw (h : Kt κ κ') : kW κ' = kW κ := by show κ'.2.2.1 = κ.2.2.1; rw [h.1]
theorem gd_app {c : Nat × Nat × Nat} {k : Nat} (h : k < a.length) : (a ++ [c]).getD k (0, 0, 0) = a.getD k (0, 0, 0) := by
  rw [List.getD_eq_getElem?_getD, List.getD_eq_getElem?_getD, List.getElem?_append_left h]
theorem gd_app2 {c : Nat × Nat × Nat} : (a ++ [c]).getD a.length (0, 0, 0) = c := by
  rw [List.getD_eq_getElem?_getD, List.getElem?_append_right (Nat.le_refl _), Nat.sub_self]; rfl
theorem LsA.push (h : LsA κ a) : LsA (cI (cI (cI (cI κ 86 a.length (nI (f + 1))) 87 a.length (nI dp)) 88 a.length (nI hw)) 84 4 (nI (a.length + 1))) (a ++ [(f, dp, hw)]) ∧ Kt κ (cI (cI (cI (cI κ 86 a.length (nI (f + 1))) 87 a.length (nI dp)) 88 a.length (nI hw)) 84 4 (nI (a.length + 1))) := by
  obtain ⟨h1, h2⟩ := h
  refine ⟨⟨by rw [kI_eq, List.length_append]; rfl, fun k hk => ?_⟩, ⟨rfl, fun g g1 g2 g3 g4 => by rw [kI_ne g1, kI_ne g4, kI_ne g3, kI_ne g2], fun k k2 => by rw [kI_nk k2, kI_ne (by decide), kI_ne (by decide), kI_ne (by decide)]⟩⟩
  rw [List.length_append] at hk
  have hk : k < a.length + 1 := hk
  rw [kI_ne (h' := 86) (h := 84) (by decide), kI_ne (h' := 86) (h := 88) (by decide), kI_ne (h' := 86) (h := 87) (by decide), kI_ne (h' := 87) (h := 84) (by decide), kI_ne (h' := 87) (h := 88) (by decide), kI_ne (h' := 88) (h := 84) (by decide)]
  by_cases c : k = a.length
  · subst c
    rw [gd_app2, kI_eq, kI_eq, kI_eq]
    exact ⟨rfl, rfl, rfl⟩
  · rw [gd_app (by omega), kI_nk c, kI_nk c, kI_nk c, kI_nk c, kI_nk c, kI_nk c]
    exact h2 k (by omega)
/-- nothing to visit -/
theorem kc_visit0 {C : Km → Prop} (q : C κ) : KC' X d MX2_visit [vR 84, vI 0, vI x2, vI x3] κ (kRV C) := KC_of_K rfl (Nat.le_of_ble_eq_true rfl) rfl (k_2_visit_0 _ _ _ ⟨fun _ => k_2_visit_19 _ _ _ ⟨rfl, q⟩, fun z => absurd rfl z⟩)
theorem kc_visitF {C : Km → Prop} (h4 : kI κ 84 4 = nI a.length) (h : 40 ≤ a.length) (h2 : a.length ≤ 40) (q : C κ) : KC' X d MX2_visit [vR 84, vI (nI (f + 1)), vI x2, vI x3] κ (kRV C) := by
  refine KC_of_K rfl (Nat.le_of_ble_eq_true rfl) rfl (k_2_visit_0 _ _ _ ⟨fun _ => k_2_visit_19 _ _ _ ⟨rfl, q⟩, fun _ => ⟨fun _ => k_2_visit_19 _ _ _ ⟨rfl, q⟩, fun z => absurd ?_ z⟩⟩)
  rw [h4, show ((40 : Int32)) = nI 40 from rfl, le_nI (by omega) (by omega)]
  exact h
/-- those beneath, by the class -/
theorem kc_kids {m dp : Nat} {Q : Res → Km → Prop} (fl : FRl κ σ F0) (hm : m + (dp + 1) = 41) (hd : m + 2 ≤ d) (ih : ∀ f a κ1 (C : Km → Prop), dp + 1 ≤ a.length → a.length ≤ 40 → f < F0 → LsA κ1 a → Kt κ κ1 → (∀ κ2, LsA κ2 (vis σ m f (dp + 1) 2 a) → Kt κ κ2 → C κ2) → KC' X (m + 1) MX2_visit [vR 84, vI (nI (f + 1)), vI (nI (dp + 1)), vI (nI 2)] κ1 (kRV C)) :
    ∀ r i c (a : List (Nat × Nat × Nat)) κ1, i + r = 40 → 40 ≤ a.length + r → fok F0 c → dp + 1 ≤ a.length → a.length ≤ 40 → LsA κ1 a → Kt κ κ1 → (∀ κ2, LsA κ2 (kid σ (fun c a => vis σ m c (dp + 1) 2 a) r c a) → Kt κ κ2 → Q (.inl none) κ2) → K X d MX2_visit 85 [(0, vR 84), (1, vI x1), (2, vI (nI dp)), (3, vI x3), (4, vI (fm c)), (5, vI (nI i))] [] κ1 Q := by
  intro r
  induction r with
  | zero =>
    intro i c a κ1 hi h40 hc hdp hl la kt q
    refine k_2_visit_85 _ _ _ _ _ ?_
    rw [show ((40 : Int32)) = nI 40 from rfl, le_nI (by omega) (by omega)]
    exact ⟨fun _ => k_2_visit_123 _ _ _ _ _ (q κ1 la kt), fun z => absurd (by omega) z⟩
  | succ r ihr =>
    intro i c a κ1 hi h40 hc hdp hl la kt q
    refine k_2_visit_85 _ _ _ _ _ ?_
    rw [show ((40 : Int32)) = nI 40 from rfl, le_nI (by omega) (by omega), show ((2 : Int32)) = nI 2 from rfl, nI_1, nI_1]
    refine ⟨fun z => by omega, fun _ => ?_⟩
    rcases hc with rfl | ⟨g, hg, rfl⟩
    · exact ⟨fun _ => k_2_visit_123 _ _ _ _ _ (q κ1 la kt), fun z => absurd rfl z⟩
    · have hF := fl.1.2.2
      rw [fm_nI (by omega), litI 0, eq_nI (by omega) (by omega)]
      refine ⟨fun z => by omega, fun _ => ⟨m + 1, by omega, ?_⟩⟩
      have f1 := fl.2.2 g hg
      have next : ∀ κ2 (a2 : List (Nat × Nat × Nat)), Kt κ κ2 → LsA κ2 a2 → 40 ≤ a2.length + r → dp + 1 ≤ a2.length → a2.length ≤ 40 → (∀ κ3, LsA κ3 (kid σ (fun c a => vis σ m c (dp + 1) 2 a) r (aI σ 96 g) a2) → Kt κ κ3 → Q (.inl none) κ3) → ∃ e8 : Nat, e8 + 1 ≤ d ∧ KC' X e8 MX2_get [vR 84, vI (nI (g + 1)), vI 7] κ2 (kRI fun y11 κ12 => K X d MX2_visit 85 [(0, vR 84), (1, vI x1), (2, vI (nI dp)), (3, vI x3), (4, vI y11), (5, vI (nI (i + 1)))] [] κ12 Q) := fun κ2 a2 kt2 la2 h402 hdp2 hl2 q2 => by
        refine ⟨0, by omega, ?_⟩
        rw [show ((7 : Int32)) = nI 7 from rfl]
        refine kc_fget (by rw [kt2.kw]; have := fl.2.1.1; omega) (by rw [kt2.kw]; exact fl.2.1.2.2) ?_
        rw [kt2.2.1 85 (by decide) (by decide) (by decide) (by decide), f1.2.1.2.2.2]
        exact ihr (i + 1) (aI σ 96 g) a2 κ2 (by omega) h402 f1.2.2.1.2.2.2 hdp2 hl2 la2 kt2 q2
      by_cases c4 : 40 ≤ a.length
      · rw [kid_full c4] at q
        exact kc_visitF (a := a) la.1 c4 hl (next κ1 a kt la (by omega) hdp hl (fun κ3 l3 k3 => q κ3 (by rw [kid_full c4] at l3; exact l3) k3))
      · have e : kid σ (fun c a => vis σ m c (dp + 1) 2 a) (r + 1) (nI g) a = kid σ (fun c a => vis σ m c (dp + 1) 2 a) r (aI σ 96 g) (vis σ m g (dp + 1) 2 a) := by
          show (if nI g < 0 ∨ 40 ≤ a.length then a else kid σ (fun c a => vis σ m c (dp + 1) 2 a) r (aI σ 96 (nI g : Int32).toNatClampNeg) (vis σ m (nI g : Int32).toNatClampNeg (dp + 1) 2 a)) = _
          rw [if_neg (fun z => z.elim (nI_pos (by omega)) c4), cl_nI (by omega)]
        rw [e] at q
        obtain ⟨l1, l2, l3⟩ := vis_len (σ := σ) m g (dp + 1) 2 a hl
        have l3 := l3 (by omega) (by omega)
        exact ih g a κ1 _ hdp hl hg la kt (fun κ2 la2 kt2 => next κ2 _ kt2 la2 (by omega) (by omega) l2 q)
theorem kc_visit (fl : FRl κ σ F0) (hw86 : kW κ 86 = 40 ∧ kW κ 87 = 40 ∧ kW κ 88 = 40) : ∀ m f dp hw (a : List (Nat × Nat × Nat)) κ1 (C : Km → Prop), m + dp = 41 → dp ≤ a.length → a.length ≤ 40 → f < F0 → LsA κ1 a → Kt κ κ1 → (∀ κ2, LsA κ2 (vis σ m f dp hw a) → Kt κ κ2 → C κ2) → KC' X (m + 1) MX2_visit [vR 84, vI (nI (f + 1)), vI (nI dp), vI (nI hw)] κ1 (kRV C) := by
  intro m
  induction m with
  | zero => intro f dp hw a κ1 C hm hdp hl; omega
  | succ m ih =>
    intro f dp hw a κ1 C hm hdp hl hf la kt q
    by_cases c4 : 40 ≤ a.length
    · rw [vis_full c4] at q
      exact kc_visitF (a := a) la.1 c4 hl (q κ1 la kt)
    · have hF := fl.1.2.2
      have e : vis σ (m + 1) f dp hw a = kid σ (fun c a => vis σ m c (dp + 1) 2 a) 40 (aI σ 94 f) (if aI σ 93 f < 0 then a ++ [(f, dp, hw)] else vis σ m (aI σ 93 f).toNatClampNeg (dp + 1) 1 (a ++ [(f, dp, hw)])) := if_neg c4
      rw [e] at q
      have l1 : (a ++ [(f, dp, hw)]).length = a.length + 1 := by rw [List.length_append]; rfl
      refine KC_of_K rfl (Nat.le_of_ble_eq_true rfl) rfl (k_2_visit_0 _ _ _ ?_)
      rw [show ((40 : Int32)) = nI 40 from rfl, litI 0, eq_nI (by omega) (by omega), la.1, le_nI (by omega) (by omega), lt_nI (by omega) (by omega), kt.kw, hw86.1]
      refine ⟨fun z => by omega, fun _ => ⟨fun z => absurd z c4, fun _ => ⟨fun _ => ⟨by rw [vpn (by omega)]; omega, ?_⟩, fun z => absurd (by omega) z⟩⟩⟩
      rw [cl_nI (by omega)]
      rintro κ5 rfl
      have e5 : kI (cI κ1 86 a.length (nI (f + 1))) 84 4 = nI a.length := by rw [kI_ne (by decide)]; exact la.1
      rw [e5, show kW (cI κ1 86 a.length (nI (f + 1))) 87 = 40 by rw [← hw86.2.1, ← kt.kw]; rfl, cl_nI (by omega)]
      refine ⟨by rw [vpn (by omega)]; omega, ?_⟩
      rintro κ7 rfl
      have e7 : kI (cI (cI κ1 86 a.length (nI (f + 1))) 87 a.length (nI dp)) 84 4 = nI a.length := by rw [kI_ne (by decide)]; exact e5
      rw [e7, show kW (cI (cI κ1 86 a.length (nI (f + 1))) 87 a.length (nI dp)) 88 = 40 by rw [← hw86.2.2, ← kt.kw]; rfl, cl_nI (by omega)]
      refine ⟨by rw [vpn (by omega)]; omega, ?_⟩
      rintro κ9 rfl κ10 rfl
      have e9 : kI (cI (cI (cI κ1 86 a.length (nI (f + 1))) 87 a.length (nI dp)) 88 a.length (nI hw)) 84 4 = nI a.length := by rw [kI_ne (by decide)]; exact e7
      rw [e9, nI_1, nI_1]
      obtain ⟨la2, kt2'⟩ := la.push (f := f) (dp := dp) (hw := hw)
      have kt2 := kt.trans kt2'
      have f1 := fl.2.2 f hf
      have hw85 := fl.2.1.1
      have hw85b := fl.2.1.2.2
      refine ⟨0, by omega, ?_⟩
      rw [show ((4 : Int32)) = nI 4 from rfl]
      refine kc_fget (by rw [kt2.kw]; omega) (by rw [kt2.kw]; exact hw85b) ?_
      rw [kt2.2.1 85 (by decide) (by decide) (by decide) (by decide), f1.2.1.1]
      have fin : ∀ κ2 (a2 : List (Nat × Nat × Nat)), LsA κ2 a2 → Kt κ κ2 → dp + 1 ≤ a2.length → a2.length ≤ 40 → (∀ κ3, LsA κ3 (kid σ (fun c a => vis σ m c (dp + 1) 2 a) 40 (aI σ 94 f) a2) → Kt κ κ3 → C κ3) → ∃ e22 : Nat, e22 + 1 ≤ m + 1 + 1 ∧ KC' X e22 MX2_get [vR 84, vI (nI (f + 1)), vI (nI 5)] κ2 (kRI fun y25 κ26 => K X (m + 1 + 1) MX2_visit 85 [(0, vR 84), (1, vI (nI (f + 1))), (2, vI (nI dp)), (3, vI (nI hw)), (4, vI y25), (5, vI 0)] [] κ26 (kRV C)) := fun κ2 a2 la3 kt3 hdp2 hl2 q2 => by
        refine ⟨0, by omega, kc_fget (by rw [kt3.kw]; omega) (by rw [kt3.kw]; exact hw85b) ?_⟩
        rw [kt3.2.1 85 (by decide) (by decide) (by decide) (by decide), f1.2.1.2.1, show ((0 : Int32)) = nI 0 from rfl]
        exact kc_kids (m := m) (dp := dp) fl (by omega) (Nat.le_refl _) (fun f' a' κ1' C' g1 g2 g3 g4 g5 g6 => ih f' (dp + 1) 2 a' κ1' C' (by omega) g1 g2 g3 g4 g5 g6) 40 0 (aI σ 94 f) a2 κ2 rfl (by omega) f1.2.2.1.2.1 hdp2 hl2 la3 kt3 (fun κ3 l3 k3 => ⟨rfl, q2 κ3 l3 k3⟩)
      refine ⟨m + 1, by omega, ?_⟩
      rw [show ((5 : Int32)) = nI 5 from rfl]
      rcases f1.2.2.1.1 with z | ⟨g, hg, z⟩
      · rw [z] at q ⊢
        rw [if_pos (show (-9 : Int32) < 0 by decide)] at q
        exact kc_visit0 (fin _ _ la2 kt2 (by omega) (by omega) q)
      · rw [z, if_neg (nI_pos (by omega)), cl_nI (by omega)] at q
        rw [z, fm_nI (by omega), show ((1 : Int32)) = nI 1 from rfl]
        obtain ⟨v1, v2, -⟩ := vis_len (σ := σ) m g (dp + 1) 1 (a ++ [(f, dp, hw)]) (by omega)
        exact ih g (dp + 1) 1 _ _ _ (by omega) (by omega) (by omega) hg la2 kt2 (fun κ2 la3 kt3 => fin κ2 _ la3 kt3 (by omega) v2 q)
end LISTING
