/-! THE RUNNING STORY: failures that are under way, the listing, one voice that runs -/
section LISTS
/-- the listing of the failures, over the reference's rows: (failure, depth, way) -/
def kid (σ : Rm) (g : Nat → List (Nat × Nat × Nat) → List (Nat × Nat × Nat)) : Nat → Int32 → List (Nat × Nat × Nat) → List (Nat × Nat × Nat)
  | 0, _, a => a
  | m + 1, c, a => if c < 0 ∨ 40 ≤ a.length then a else kid σ g m (aI σ 96 c.toNatClampNeg) (g c.toNatClampNeg a)
def vis (σ : Rm) : Nat → Nat → Nat → Nat → List (Nat × Nat × Nat) → List (Nat × Nat × Nat)
  | 0, _, _, _, a => a
  | m + 1, f, dp, hw, a => if 40 ≤ a.length then a else kid σ (fun c a => vis σ m c (dp + 1) 2 a) 40 (aI σ 94 f) (if aI σ 93 f < 0 then a ++ [(f, dp, hw)] else vis σ m (aI σ 93 f).toNatClampNeg (dp + 1) 1 (a ++ [(f, dp, hw)]))
def lsn (σ : Rm) : List (Nat × Nat × Nat) := if sI σ 97 < 0 then [] else vis σ 41 (sI σ 97).toNatClampNeg 0 0 []
/-- the class keeps it -/
def Lsd (κ : Km) (σ : Rm) : Prop := (kW κ 86 = 40 ∧ kW κ 87 = 40 ∧ kW κ 88 = 40) ∧ (kI κ 84 3 = 0 ∨ (kI κ 84 3 = 1 ∧ kI κ 84 4 = nI (lsn σ).length ∧ ∀ k, k < (lsn σ).length → kI κ 86 k = nI (((lsn σ).getD k (0, 0, 0)).1 + 1) ∧ kI κ 87 k = nI ((lsn σ).getD k (0, 0, 0)).2.1 ∧ kI κ 88 k = nI ((lsn σ).getD k (0, 0, 0)).2.2))
/-- failures that a finally keeps -/
def kp1 (g : Nat) (x : Ite) : Nat := if x.1 ≠ 0 ∧ x.2.2.2.1 = 3 ∧ x.2.2.2.2 = nI (g + 1) then 1 else 0
def kpl (g : Nat) : List Ite → Nat
  | [] => 0
  | x :: r => kp1 g x + kpl g r
def kps (g : Nat) : List Frm → Nat
  | [] => 0
  | f :: r => kpl g (frL f) + kps g r
/-- colours: a failure under way has its own, all beneath it have its colour; what is over has colour 0 -/
def Col (κ : Km) (σ : Rm) (V F0 : Nat) (fr : Nat → List Frm) (w rz : Nat → Nat) : Prop := (∀ x, x < F0 → (∀ c, c < F0 → aI σ 93 x = nI c → w c = 0) ∧ (∀ c, c < F0 → aI σ 94 x = nI c → w c = w x) ∧ (∀ c, c < F0 → aI σ 95 x = nI c → w c = w x) ∧ (∀ c, c < F0 → aI σ 96 x = nI c → w c = w x)) ∧ (∀ g, g < F0 → cn (fun n => kps g (fr n)) V + rz g ≤ 1 ∧ (1 ≤ cn (fun n => kps g (fr n)) V + rz g → w g = g + 1)) ∧ (∀ n f x, 1 ≤ n → n ≤ V → f ∈ fr n → x ∈ frL f → x.1 ≠ 0 → x.2.2.2.1 = 1 → ∀ g, g < F0 → x.2.2.2.2 = nI (g + 1) → w g = 0) ∧ ((sI σ 97 = -9 ∧ kI κ 84 2 = 0) ∨ ∃ l, l < F0 ∧ sI σ 97 = nI l ∧ kI κ 84 2 = nI (l + 1) ∧ w l = 0) ∧ Lsd κ σ
end LISTS
section RUN
/-- both, while voice v runs (f its innermost call); rz: the failure that is raised -/
def Rn (κ0 : Km) (σ0 : Rm) (κ : Km) (σ : Rm) (b V al S LT HT sp F0 : Nat) (st : Nat → Nat) (fr : Nat → List Frm) (pt : Nat → Nat) (ch : List Nat) (w : Nat → Nat) (v : Nat) (f : Frm) (r : List Frm) : Prop := (RelM κ0 σ0 κ σ b V al S v sp 0 LT HT F0 st fr pt ch ∧ RelV κ0 σ0 κ σ b V F0 v st fr pt) ∧ (1 ≤ v ∧ v ≤ V ∧ st v = 2 ∧ fr v = f :: r ∧ kI κ 79 14 = 0) ∧ (VK κ v (f :: r) ∧ VR σ v (pt v) (f :: r) ∧ aI σ 59 (pt v) = 1) ∧ (frM f = 0 ∧ FrO κ0 σ0 F0 b f ∧ ∀ g, g ∈ r → frM g = 1 ∧ FrO κ0 σ0 F0 b g) ∧ Acc V S F0 LT HT st fr ∧ Col κ σ V F0 fr w (fun _ => 0)
/-- both, while the desk has the turn -/
def Desk (κ0 : Km) (σ0 : Rm) (κ : Km) (σ : Rm) (b V al S LT HT sp F0 z : Nat) (st : Nat → Nat) (fr : Nat → List Frm) (pt : Nat → Nat) (w : Nat → Nat) : Prop := (RelM κ0 σ0 κ σ b V al S 0 sp z LT HT F0 st fr pt [] ∧ RelV κ0 σ0 κ σ b V F0 0 st fr pt) ∧ kI κ 79 14 = 0 ∧ Acc V S F0 LT HT st fr ∧ Col κ σ V F0 fr w (fun _ => 0)
/-- from here on both come to the desk -/
def RunOK (X : Cx) (d e : Nat) (κ0 : Km) (σ0 : Rm) (κ : Km) (σ : Rm) (b x B : Nat) : Prop := ∀ Q : Res → Km → Prop, (∀ κ' σ' V al S LT HT sp F0 z st fr pt w, Desk κ0 σ0 κ' σ' b V al S LT HT sp F0 z st fr pt w → kI κ' 79 15 = sI σ' 78 → HT + 2 * pot V S st fr ≤ B → (∀ Q' : Res → Rm → Prop, A X 92 e MX13_goes 0 [(0, vR 92)] [] σ' Q' → A X 92 e MX13_goes 0 [(0, vR 92)] [] σ Q') → Q (.inl none) κ') → K X d MX6_run 2 [(0, vR 79), (1, vI (nI x))] [] κ Q
def AllOK (X : Cx) (d e : Nat) (κ0 : Km) (σ0 : Rm) (b P : Nat) : Prop := ∀ κ σ V al S LT HT sp F0 st fr pt ch w v f r x, Rn κ0 σ0 κ σ b V al S LT HT sp F0 st fr pt ch w v f r → pot V S st fr < P → x + pot V S st fr ≤ 199000000 → RunOK X d e κ0 σ0 κ σ b x (HT + 2 * pot V S st fr)
variable {X : Cx} {d e : Nat} {κ0 κ κ' : Km} {σ0 σ σ' : Rm} {b V al S LT HT sp F0 v p x : Nat} {st : Nat → Nat} {fr : Nat → List Frm} {pt : Nat → Nat} {ch : List Nat} {w : Nat → Nat} {f f' : Frm} {r : List Frm}
theorem Lsd.cg (h : Lsd κ σ) (e84 : kI κ' 84 3 = kI κ 84 3 ∧ kI κ' 84 4 = kI κ 84 4) (e86 : ∀ h, 86 ≤ h → h ≤ 88 → kI κ' h = kI κ h ∧ kW κ' h = kW κ h) (es : lsn σ' = lsn σ) : Lsd κ' σ' := by
  unfold Lsd
  rw [e84.1, e84.2, es, (e86 86 (by omega) (by omega)).1, (e86 87 (by omega) (by omega)).1, (e86 88 (by omega) (by omega)).1, (e86 86 (by omega) (by omega)).2, (e86 87 (by omega) (by omega)).2, (e86 88 (by omega) (by omega)).2]
  exact h
theorem kid_cg {g : Nat → List (Nat × Nat × Nat) → List (Nat × Nat × Nat)} (e6 : aI σ' 96 = aI σ 96) : ∀ m c a, kid σ' g m c a = kid σ g m c a := by
  intro m
  induction m with
  | zero => intro c a; rfl
  | succ m ih =>
    intro c a
    show (if c < 0 ∨ 40 ≤ a.length then a else kid σ' g m (aI σ' 96 c.toNatClampNeg) (g c.toNatClampNeg a)) = if c < 0 ∨ 40 ≤ a.length then a else kid σ g m (aI σ 96 c.toNatClampNeg) (g c.toNatClampNeg a)
    rw [ih, e6]
theorem vis_cg (e3 : aI σ' 93 = aI σ 93) (e4 : aI σ' 94 = aI σ 94) (e6 : aI σ' 96 = aI σ 96) : ∀ m, vis σ' m = vis σ m := by
  intro m
  induction m with
  | zero => rfl
  | succ m ih =>
    funext f dp hw a
    show (if 40 ≤ a.length then a else kid σ' (fun c a => vis σ' m c (dp + 1) 2 a) 40 (aI σ' 94 f) (if aI σ' 93 f < 0 then a ++ [(f, dp, hw)] else vis σ' m (aI σ' 93 f).toNatClampNeg (dp + 1) 1 (a ++ [(f, dp, hw)]))) = _
    rw [ih, e3, e4, kid_cg e6]
    rfl
theorem lsn_cg (e3 : aI σ' 93 = aI σ 93) (e4 : aI σ' 94 = aI σ 94) (e6 : aI σ' 96 = aI σ 96) (e7 : sI σ' 97 = sI σ 97) : lsn σ' = lsn σ := by
  unfold lsn
  rw [e7, vis_cg e3 e4 e6]
/-- one voice's calls are others: no guard keeps another failure -/
theorem Col.loc {rz : Nat → Nat} {fs : List Frm} (h : Col κ σ V F0 fr w rz) (ek : kI κ' 84 = kI κ 84) (e86 : ∀ h, 86 ≤ h → h ≤ 88 → kI κ' h = kI κ h ∧ kW κ' h = kW κ h) (es : ∀ k, 88 ≤ k → k ≤ 97 → aI σ' k = aI σ k) (hk : ∀ g, kps g fs = kps g (fr v)) (h1 : ∀ f x, f ∈ fs → x ∈ frL f → x.1 ≠ 0 → x.2.2.2.1 = 1 → ∃ f0, f0 ∈ fr v ∧ x ∈ frL f0) (hv : 1 ≤ v ∧ v ≤ V) : Col κ' σ' V F0 (un fr v fs) w rz := by
  obtain ⟨c1, c2, c3, c4, c5⟩ := h
  have e97 : sI σ' 97 = sI σ 97 := congrFun (es 97 (by omega) (by omega)) 0
  have ef : ∀ g, (fun n => kps g (un fr v fs n)) = fun n => kps g (fr n) := fun g => by
    funext n
    by_cases c : n = v
    · rw [c, un_eq, hk]
    · rw [un_ne c]
  refine ⟨fun x hx => ?_, fun g hg => ?_, fun n f x n1 n2 hf hx x1 x2 g hg e => ?_, ?_, c5.cg ⟨by rw [ek], by rw [ek]⟩ e86 (lsn_cg (es 93 (by omega) (by omega)) (es 94 (by omega) (by omega)) (es 96 (by omega) (by omega)) e97)⟩
  · rw [es 93 (by omega) (by omega), es 94 (by omega) (by omega), es 95 (by omega) (by omega), es 96 (by omega) (by omega)]
    exact c1 x hx
  · rw [ef g]
    exact c2 g hg
  · by_cases c : n = v
    · rw [c, un_eq] at hf
      obtain ⟨f0, a1, a2⟩ := h1 f x hf hx x1 x2
      exact c3 v f0 x hv.1 hv.2 a1 a2 x1 x2 g hg e
    · rw [un_ne c] at hf
      exact c3 n f x n1 n2 hf hx x1 x2 g hg e
  · rw [e97, ek]
    exact c4
/-- ONE VOICE HAS DONE AN ACT OF ITS OWN -/
theorem Rn.loc (h : Rn κ0 σ0 κ σ b V al S LT HT sp F0 st fr pt ch w v f r) (ko : Vo v κ κ') (ro : Ro (pt v) σ σ') (vk : VK κ' v (f' :: r)) (vr : VR σ' v (pt v) (f' :: r)) (m0 : frM f' = 0) (fo : FrO κ0 σ0 F0 b f') (ha : frS f' ≤ frS f) (hw : fwt f' < fwt f) (hk : ∀ g, kpl g (frL f') = kpl g (frL f)) (h1 : ∀ x, x ∈ frL f' → x.1 ≠ 0 → x.2.2.2.1 = 1 → x ∈ frL f) :
    Rn κ0 σ0 κ' σ' b V al S LT HT sp F0 st (un fr v (f' :: r)) pt ch w v f' r ∧ pot V S st (un fr v (f' :: r)) < pot V S st fr := by
  obtain ⟨⟨a1, a2⟩, ⟨b1, b2, b3, b4, b5⟩, ⟨c1, c2, c3⟩, ⟨d1, d2, d3⟩, e1, g1⟩ := h
  have hne : fr v ≠ [] := by rw [b4]; exact List.cons_ne_nil _ _
  have hhv : 1 ≤ v ∧ v ≤ V := ⟨b1, b2⟩
  have hac := e1.loc (fs := f' :: r) hhv (by rw [b4]; show frS f' + arm r ≤ frS f + arm r; omega) (by rw [b4]; show fwt f' + fws r ≤ fwt f + fws r; omega)
  have hp := hac.2
  rw [b4] at hp
  have hp : pot V S st (un fr v (f' :: r)) + (fwt f + fws r) = pot V S st fr + (fwt f' + fws r) := hp
  have e59 : ∀ k, k < 60 ∨ 74 < k → aI σ' k = aI σ k := fun k hk => ro.s hk
  refine ⟨⟨⟨a1.vo hhv ko ro hne (List.cons_ne_nil _ _), a2.vo a1 hhv hne ko ro⟩, ⟨b1, b2, b3, un_eq, by rw [(ko.h (h := 79) (by omega) (by omega)).1]; exact b5⟩, ⟨vk, vr, by rw [e59 59 (by omega)]; exact c3⟩, ⟨m0, fo, d3⟩, hac.1, g1.loc (ko.h (h := 84) (by omega) (by omega)).1 (fun h h1 h2 => ⟨(ko.h (h := h) (by omega) (by omega)).1, (ko.h (h := h) (by omega) (by omega)).2.2⟩) (fun k k1 k2 => e59 k (by omega)) (fun g => ?_) (fun f0 x hf hx x1 x2 => ?_) hhv⟩, by omega⟩
  · rw [b4]
    show kpl g (frL f') + kps g r = kpl g (frL f) + kps g r
    rw [hk g]
  · rw [b4]
    rcases List.mem_cons.mp hf with e | hf
    · rw [e] at hx
      exact ⟨f, List.mem_cons_self .., h1 x hx x1 x2⟩
    · exact ⟨f0, List.mem_cons_of_mem _ hf, hx⟩
/-- the reference's act, taken for itself -/
theorem ref_ex {Pp : Rm → Prop} (h77 : sI σ 77 = nI v) (hv : 1 ≤ v ∧ v ≤ 60) (h : A X 92 e MX13_goesOn 0 [(0, vR 92)] [] σ (fun r s => r = .inl none ∧ Pp s)) : ∃ σ1, Pp σ1 ∧ ∀ Q' : Res → Rm → Prop, A X 92 (e + 1) MX13_goes 0 [(0, vR 92)] [] σ1 Q' → A X 92 (e + 1) MX13_goes 0 [(0, vR 92)] [] σ Q' := by
  obtain ⟨r, σ1, hA, rfl, hP⟩ := h
  exact ⟨σ1, hP, fun Q' h' => goes_act h77 hv ⟨e, Nat.le_refl _, AC_of_A rfl (Nat.le_of_ble_eq_true rfl) rfl ⟨_, σ1, hA, rfl, h'⟩⟩⟩
end RUN
