/-! A FAILURE IS RAISED: both, while it goes outwards -/
section RAISES
variable {X : Cx} {d e : Nat} {κ0 κ κ1 κ' : Km} {σ0 σ σ1 σ' : Rm} {b V al S T T' sp z LT HT LT' HT' F0 F0' v p n x x' q s g : Nat} {st : Nat → Nat} {fr : Nat → List Frm} {pt : Nat → Nat} {fs r : List Frm} {ch : List Nat} {w : Nat → Nat} {f f' f1 : Frm} {y u : Int32}
/-- a call through which a failure goes -/
def FrX (κ0 : Km) (σ0 : Rm) (F0 b : Nat) (f : Frm) : Prop := frB f < b ∧ aI σ0 21 (frB f) = nI (frN f) ∧ frS f ≤ 1 ∧ (∀ x, x ∈ frL f → ItO F0 x) ∧ ((frL f).length ≤ 24 ∧ frI f ≤ 9500) ∧ HL κ0 σ0 (Good2 κ0 σ0 (fun _ => False)) (frB f) ((frL f).map itm)
theorem FrO.frx (h : FrO κ0 σ0 F0 b f) (sta : Sta b κ0 σ0) : FrX κ0 σ0 F0 b f := by
  obtain ⟨h1, h2, h3, h4, h5⟩ := h
  obtain ⟨t1, ⟨m, m1, m2, m3, m4⟩, t3⟩ := sta
  have key : ∀ i j n s, Good2 κ0 σ0 (fun _ => False) (frB f, i, j, (frL f).map itm, n, s) → frI f ≤ i → FrX κ0 σ0 F0 b f := fun i j n s gd hi => by
    have hlt := good_lt m1 m2 gd
    obtain ⟨-, -, -, -, l5, -, l7, -⟩ := gd.loc
    have l5 : ((frL f).map itm).length ≤ 24 := l5
    rw [List.length_map] at l5
    exact ⟨h1, h2, h3, h4, ⟨l5, by omega⟩, l7⟩
  rcases h5 with ⟨_, gd⟩ | ⟨_, _, _, gd⟩ | ⟨_, _, _, i, j, L0, y, v, i2, j2, e1, _, _, _, _, _, _, gd, _⟩ | ⟨_, _, _, _, gd⟩
  · exact key _ _ _ _ gd (Nat.le_refl _)
  · exact key _ _ _ _ gd (Nat.le_refl _)
  · exact key _ _ _ _ gd (by omega)
  · exact key _ _ _ _ gd (Nat.le_refl _)
theorem FrX.up (h : FrX κ0 σ0 F0 b f) (hF : F0 ≤ F0') : FrX κ0 σ0 F0' b f := ⟨h.1, h.2.1, h.2.2.1, fun x hx => (h.2.2.2.1 x hx).up hF, h.2.2.2.2⟩
/-- both, while failure g (of the reference) goes outwards in voice v -/
def Rx (κ0 : Km) (σ0 : Rm) (κ : Km) (σ : Rm) (b V al S LT HT sp F0 : Nat) (st : Nat → Nat) (fr : Nat → List Frm) (pt : Nat → Nat) (ch : List Nat) (w : Nat → Nat) (v : Nat) (f : Frm) (r : List Frm) (g : Nat) : Prop := Bn κ0 σ0 κ σ b V al S v sp 0 LT HT F0 st fr pt v ∧ Chan σ V v st ch ∧ (∀ n, 1 ≤ n → n ≤ V → n ≠ v → Md κ0 σ0 σ F0 b n (st n) (fr n)) ∧ (1 ≤ v ∧ v ≤ V ∧ st v = 2 ∧ fr v = f :: r ∧ kI κ 79 14 = nI (g + 1) ∧ g < F0) ∧ (FrX κ0 σ0 F0 b f ∧ ∀ h, h ∈ r → frM h = 1 ∧ FrO κ0 σ0 F0 b h) ∧ Acc V S F0 LT HT st fr ∧ Col κ σ V F0 fr w (fun y => if y = g then 1 else 0)
theorem Rn.bn (h : Rn κ0 σ0 κ σ b V al S LT HT sp F0 st fr pt ch w v f r) : Bn κ0 σ0 κ σ b V al S v sp 0 LT HT F0 st fr pt x ∧ Chan σ V v st ch ∧ ∀ n, 1 ≤ n → n ≤ V → n ≠ v → Md κ0 σ0 σ F0 b n (st n) (fr n) := by
  obtain ⟨⟨a1, a2⟩, ⟨b1, b2, b3, b4, b5⟩, ⟨c1, c2, c3⟩, d1, e1, g1⟩ := h
  refine ⟨a1.bn (fun n n1 n2 => ?_), a1.2.2.2.1, fun n n1 n2 hn => ((a2 n n1 n2 hn).two (x := 0)).2⟩
  by_cases c : n = v
  · rw [c, b4]
    exact Or.inr ⟨List.cons_ne_nil _ _, c1, Or.inl c2, c3⟩
  · exact (a2 n n1 n2 c).two.1
theorem Rn.of (h : Bn κ0 σ0 κ σ b V al S v sp 0 LT HT F0 st fr pt 0) (hc : Chan σ V v st ch) (hm : ∀ n, 1 ≤ n → n ≤ V → n ≠ v → Md κ0 σ0 σ F0 b n (st n) (fr n)) (h2 : 1 ≤ v ∧ v ≤ V ∧ st v = 2 ∧ fr v = f :: r ∧ kI κ 79 14 = 0) (h3 : frM f = 0 ∧ FrO κ0 σ0 F0 b f ∧ ∀ h, h ∈ r → frM h = 1 ∧ FrO κ0 σ0 F0 b h) (ha : Acc V S F0 LT HT st fr) (hl : Col κ σ V F0 fr w (fun _ => 0)) : Rn κ0 σ0 κ σ b V al S LT HT sp F0 st fr pt ch w v f r := by
  refine ⟨⟨h.rm hc, fun n n1 n2 hn => Vfr.of (h.2.2.2.2.2.2 n n1 n2) (by omega) (hm n n1 n2 hn)⟩, h2, ?_, h3, ha, hl⟩
  have hcl := h.2.2.2.2.2.2 v h2.1 h2.2.1
  rw [h2.2.2.2.1] at hcl
  rcases hcl with ⟨z, -⟩ | ⟨_, c2, c3, c4⟩
  · exact absurd z (List.cons_ne_nil _ _)
  · exact ⟨c2, c3.elim id (fun z => absurd z.1 (by omega)), c4⟩
theorem Desk.of (h : Bn κ0 σ0 κ σ b V al S 0 sp z LT HT F0 st fr pt 0) (hc : Chan σ V 0 st []) (hm : ∀ n, 1 ≤ n → n ≤ V → Md κ0 σ0 σ F0 b n (st n) (fr n)) (h14 : kI κ 79 14 = 0) (ha : Acc V S F0 LT HT st fr) (hl : Col κ σ V F0 fr w (fun _ => 0)) : Desk κ0 σ0 κ σ b V al S LT HT sp F0 z st fr pt w :=
  ⟨⟨h.rm hc, fun n n1 n2 hn => Vfr.of (h.2.2.2.2.2.2 n n1 n2) (by omega) (hm n n1 n2)⟩, h14, ha, hl⟩
theorem Desk.bn (h : Desk κ0 σ0 κ σ b V al S LT HT sp F0 z st fr pt w) : Bn κ0 σ0 κ σ b V al S 0 sp z LT HT F0 st fr pt x ∧ Chan σ V 0 st [] ∧ ∀ n, 1 ≤ n → n ≤ V → Md κ0 σ0 σ F0 b n (st n) (fr n) := by
  obtain ⟨⟨a1, a2⟩, -⟩ := h
  exact ⟨a1.bn (fun n n1 n2 => (a2 n n1 n2 (by omega)).two.1), a1.2.2.2.1, fun n n1 n2 => ((a2 n n1 n2 (by omega)).two (x := 0)).2⟩
/-- the calls of the voice in which it is raised -/
theorem Rx.cls (h : Rx κ0 σ0 κ σ b V al S LT HT sp F0 st fr pt ch w v f r g) : VK κ v (f :: r) ∧ VRx σ v (pt v) (f :: r) ∧ aI σ 59 (pt v) = 1 ∧ (1 ≤ v ∧ v ≤ V ∧ V ≤ 60) := by
  obtain ⟨a, -, -, ⟨b1, b2, b3, b4, b5, b6⟩, -⟩ := h
  have hcl := a.2.2.2.2.2.2 v b1 b2
  rw [b4] at hcl
  rcases hcl with ⟨z, -⟩ | ⟨_, c2, c3, c4⟩
  · exact absurd z (List.cons_ne_nil _ _)
  · exact ⟨c2, c3.elim VR.vx (fun z => z.2), c4, b1, b2, a.2.1.2.2.2.2.2.2.2.1⟩
/-- the class: one act while a failure is raised -/
theorem run_raise {Q : Res → Km → Prop} (hd : 1 ≤ d) (hx : x < 200000000) (h10 : kI κ 79 10 = nI V) (hV : V ≤ 60) (hkV : V ≤ kV κ) (h13 : kI κ 79 13 = nI v) (hv : 1 ≤ v ∧ v ≤ V) (h17 : kI κ 79 17 = 0) (h14 : kI κ 79 14 = nI (g + 1)) (hg : g < 8000) (q : ∃ e, e + 1 ≤ d ∧ KC' X e MX6_unwind [vR 79, vR (1002 + 8 * v)] κ (kRV fun κ' => K X d MX6_run 2 [(0, vR 79), (1, vI (nI (x + 1)))] [] κ' Q)) : K X d MX6_run 2 [(0, vR 79), (1, vI (nI x))] [] κ Q := by
  have hH : isH κ (1002 + 8 * v) 10 := isH_voice hv.1 (by omega)
  refine k_6_run_2 _ ?_
  rw [h13, litI 200000000, le_nI (by omega) (by omega)]
  refine ⟨fun z => absurd z (by omega), fun _ => ⟨fun z => absurd z (nI_ne0 (by omega) (by omega)), fun _ => ⟨0, hd, kc_vfind h10 hV hkV (fun n n1 n2 e => ?_) (fun z => ?_)⟩⟩⟩
  · have e : v = n := by rw [eq_nI (by omega) (by omega)] at e; exact e
    subst e
    rw [h17, h14]
    refine ⟨Or.inr hH.1, fun z => absurd z (by omega), fun _ => ⟨fun _ => ⟨fun z => absurd z (nI_ne0 (by omega) (by omega)), fun _ => ⟨hH, ?_⟩⟩, fun z => absurd rfl z⟩⟩
    obtain ⟨e2, he2, hc2⟩ := q
    refine ⟨e2, he2, hc2.mono ?_⟩
    rintro r2 κ2 ⟨rfl, h3⟩
    exact ⟨rfl, k_6_run_152 _ _ (by rw [nI_1]; exact h3)⟩
  · rw [litI 1, lt_nI (by omega) (by omega), lt_nI (by omega) (by omega)] at z
    omega
/-- the reference goes on with a failure -/
abbrev RaG (X : Cx) (e v g p : Nat) (σ : Rm) (G : Rm → Prop) : Prop := A X 92 e MX13_raiseIn 7 [(0, vR 92), (1, vI (nI v)), (2, vI (nI g)), (3, vI (nI p))] [] σ (aRV G)
/-- from here on, while a failure is raised, both come to the desk -/
def RunX (X : Cx) (d e er : Nat) (κ0 : Km) (σ0 : Rm) (κ : Km) (σ : Rm) (b x B v g p : Nat) : Prop := ∀ Q : Res → Km → Prop, (∀ κ' σ' V al S LT HT sp F0 z st fr pt w, Desk κ0 σ0 κ' σ' b V al S LT HT sp F0 z st fr pt w → kI κ' 79 15 = sI σ' 78 → HT + 2 * pot V S st fr ≤ B → (∀ Q' : Res → Rm → Prop, A X 92 e MX13_goes 0 [(0, vR 92)] [] σ' Q' → RaG X er v g p σ (fun s => A X 92 e MX13_goes 0 [(0, vR 92)] [] s Q')) → Q (.inl none) κ') → K X d MX6_run 2 [(0, vR 79), (1, vI (nI x))] [] κ Q
/-- a failure that is raised goes on within both -/
def AllX (X : Cx) (d e : Nat) (κ0 : Km) (σ0 : Rm) (b P : Nat) : Prop := ∀ κ σ V al S LT HT sp F0 st fr pt ch w v f r g x er, Rx κ0 σ0 κ σ b V al S LT HT sp F0 st fr pt ch w v f r g → pot V S st fr < P → x + pot V S st fr ≤ 199000000 → 5 * ch.length ≤ er → RunX X d e er κ0 σ0 κ σ b x (HT + 2 * pot V S st fr) v g (pt v)
end RAISES
