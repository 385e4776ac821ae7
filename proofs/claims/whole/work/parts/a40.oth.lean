/-! changes outside of all voices; TELL -/
section OTH
variable {X : Cx} {d e ew : Nat} {κ0 κ κ' : Km} {σ0 σ σ' : Rm} {b V al S T LT HT LT' HT' sp F0 F0' z v p x n : Nat} {st : Nat → Nat} {fr : Nat → List Frm} {pt : Nat → Nat} {ch : List Nat} {w rz : Nat → Nat} {r fs : List Frm} {f f' : Frm} {H : Nat → Prop}
variable {bd i j nv s md i' j' s' md' : Nat} {pl : Int32} {vs : Nat → Int32} {L : List Ite} {O : List Int32} {y u : Int32}
def aOt (k : Nat) : Prop := 80 ≤ k ∧ k ≤ 97
theorem RelM.oth (h : RelM κ0 σ0 κ σ b V al S T sp z LT HT F0 st fr pt ch) (kf : KF H κ κ') (rg : RG κ κ') (hH : ∀ g, H g → 80 ≤ g ∧ g ≤ 85) (af : AF aOt σ σ') (ln : Lns κ' σ' LT' HT') (fl : FRl κ' σ' F0') : RelM κ0 σ0 κ' σ' b V al S T sp z LT' HT' F0' st fr pt ch := by
  obtain ⟨⟨⟨k1, k2, k3⟩, sta, rg0⟩, a4, a5, a6, a7, a8, a9⟩ := h
  have e : ∀ g, (g < 80 ∨ 85 < g) → kI κ' g = kI κ g ∧ kL κ' g = kL κ g ∧ kW κ' g = kW κ g := fun g hg => kf.1 g (fun z => by have := hH g z; omega)
  have ea : ∀ k, k < 80 → aI σ' k = aI σ k := fun k hk => (af k (fun z => by have := z.1; omega)).1
  have es : ∀ k, k < 80 → sI σ' k = sI σ k := fun k hk => congrFun (ea k hk) 0
  refine ⟨⟨⟨fun g hg => ?_, ⟨kf.2.2.1.trans k2.1, k2.2.cg (Nat.le_of_eq kf.2.2.2.symm) (fun m k _ => by rw [(e (1002 + 8 * m) (by omega)).1]) (by rw [(e 79 (by omega)).1]) (fun k hk => (af k (fun z => by have z1 := z.1; have z2 := z.2; omega)).1)⟩, fun k h1 h2 => ?_⟩, sta, rg0.trans rg⟩, ?_, fun n n1 n2 => ?_, a6.cg (ea 54 (by omega)) (ea 56 (by omega)) (ea 57 (by omega)), ?_, ln, fl⟩
  · have hg' := hg
    unfold hCd at hg'
    obtain ⟨e1, e2, e3⟩ := e g (by omega)
    rw [e1, e2, e3]
    exact k1 g hg
  · rw [ea k (by omega), (af k (fun z => by have := z.1; omega)).2]
    exact k3 k h1 h2
  · unfold Stg
    rw [(e 79 (by omega)).1, es 47 (by omega), es 48 (by omega), es 75 (by omega), es 76 (by omega), es 77 (by omega), es 79 (by omega), kf.2.2.2]
    exact a4
  · unfold Vof
    rw [(e (1002 + 8 * n) (by omega)).1, ea 19 (by omega), ea 49 (by omega), ea 50 (by omega), ea 51 (by omega), ea 52 (by omega), ea 53 (by omega), ea 54 (by omega), ea 55 (by omega), ea 57 (by omega)]
    exact a5 n n1 n2
  · obtain ⟨r1, r2, r3, r4, r5, r6⟩ := a7
    refine ⟨r1, r2, fun k hk => ?_, fun n n1 n2 => ?_, r5, fun q hq => ?_⟩
    · rw [(e (1004 + 8 * k) (by omega)).2.2]; exact r3 k hk
    · rw [(e (1002 + 8 * n + 1) (by omega)).2.2]; exact r4 n n1 n2
    · rw [ea 59 (by omega)]; exact r6 q hq
theorem ItO.up {x : Ite} (h : ItO F0 x) (hF : F0 ≤ F0') : ItO F0' x := h.imp id (fun ⟨a, c, q⟩ => ⟨a, c, fun z => by obtain ⟨f, h1, h2⟩ := q z; exact ⟨f, by omega, h2⟩⟩)
theorem FrO.up (h : FrO κ0 σ0 F0 b f) (hF : F0 ≤ F0') : FrO κ0 σ0 F0' b f := ⟨h.1, h.2.1, h.2.2.1, fun x hx => (h.2.2.2.1 x hx).up hF, h.2.2.2.2⟩
theorem FsO.up {m : Nat} : ∀ fs : List Frm, FsO κ0 σ0 F0 b m fs → F0 ≤ F0' → FsO κ0 σ0 F0' b m fs := by
  intro fs
  cases fs with
  | nil => intro h _; exact h
  | cons f r => intro h hF; exact ⟨h.1, h.2.1.up hF, fun g hg => ⟨(h.2.2 g hg).1, (h.2.2 g hg).2.up hF⟩⟩
theorem VR.cg {q : Nat} (h : VR σ n q fs) (ea : ∀ k, 56 ≤ k → k ≤ 74 → k ≠ 57 → aI σ' k = aI σ k) : VR σ' n q fs :=
  h.fr (by rw [ea 58 (by omega) (by omega) (by omega)]) ⟨by rw [ea 60 (by omega) (by omega) (by omega)], by rw [ea 68 (by omega) (by omega) (by omega)], by rw [ea 73 (by omega) (by omega) (by omega)]⟩ ⟨fun k i h1 h2 _ => by rw [ea k (by omega) (by omega) (by omega)], fun i _ => by rw [ea 66 (by omega) (by omega) (by omega)], fun i _ => by rw [ea 67 (by omega) (by omega) (by omega)], fun k i h1 h2 _ => by rw [ea k (by omega) (by omega) (by omega)], fun i _ => by rw [ea 74 (by omega) (by omega) (by omega)]⟩
theorem Vfr.cg {s q : Nat} (h : Vfr κ0 σ0 κ σ F0 b n s fs q) (e1 : kI κ' (1002 + 8 * n) = kI κ (1002 + 8 * n)) (e2 : kI κ' (1002 + 8 * n + 1) = kI κ (1002 + 8 * n + 1)) (e3 : kW κ' (1002 + 8 * n + 1) = kW κ (1002 + 8 * n + 1)) (e4 : kV κ ≤ kV κ') (ea : ∀ k, 56 ≤ k → k ≤ 74 → k ≠ 57 → aI σ' k = aI σ k) (hF : F0 ≤ F0') : Vfr κ0 σ0 κ' σ' F0' b n s fs q := by
  rcases h with ⟨h1, h2, h3, h4, h5⟩ | ⟨h1, h2, h3, h4, m, h5, h6, h7, h8⟩
  · exact Or.inl ⟨h1, h2, by rw [e3]; exact h3, by rw [ea 58 (by omega) (by omega) (by omega)]; exact h4, by rw [e1]; exact h5⟩
  · exact Or.inr ⟨h1, h2.fr e1 e2 e3 e4, h3.cg ea, by rw [ea 59 (by omega) (by omega) (by omega)]; exact h4, m, h5.up _ hF, h6, h7, by rw [ea 56 (by omega) (by omega) (by omega)]; exact h8⟩
theorem RelV.oth (h : RelV κ0 σ0 κ σ b V F0 v st fr pt) (kf : KF H κ κ') (hH : ∀ g, H g → 80 ≤ g ∧ g ≤ 85) (af : AF aOt σ σ') (hF : F0 ≤ F0') : RelV κ0 σ0 κ' σ' b V F0' v st fr pt := fun n n1 n2 hn => by
  have e : ∀ g, 85 < g → kI κ' g = kI κ g ∧ kL κ' g = kL κ g ∧ kW κ' g = kW κ g := fun g hg => kf.1 g (fun z => by have := hH g z; omega)
  exact (h n n1 n2 hn).cg (e _ (by omega)).1 (e _ (by omega)).1 (e _ (by omega)).2.2 (by rw [kf.2.2.2]; exact Nat.le_refl _) (fun k h1 h2 _ => (af k (fun z => by have := z.1; omega)).1) hF
theorem Col.cg (h : Col κ σ V F0 fr w rz) (ek : kI κ' 84 = kI κ 84) (e86 : ∀ h, 86 ≤ h → h ≤ 88 → kI κ' h = kI κ h ∧ kW κ' h = kW κ h) (es : ∀ k, 88 ≤ k → k ≤ 97 → aI σ' k = aI σ k) : Col κ' σ' V F0 fr w rz := by
  obtain ⟨c1, c2, c3, c4, c5⟩ := h
  have e97 : sI σ' 97 = sI σ 97 := congrFun (es 97 (by omega) (by omega)) 0
  refine ⟨fun x hx => ?_, c2, c3, ?_, c5.cg ⟨by rw [ek], by rw [ek]⟩ e86 (lsn_cg (es 93 (by omega) (by omega)) (es 94 (by omega) (by omega)) (es 96 (by omega) (by omega)) e97)⟩
  · rw [es 93 (by omega) (by omega), es 94 (by omega) (by omega), es 95 (by omega) (by omega), es 96 (by omega) (by omega)]
    exact c1 x hx
  · rw [e97, ek]
    exact c4
theorem Rn.oth (h : Rn κ0 σ0 κ σ b V al S LT HT sp F0 st fr pt ch w v f r) (kf : KF H κ κ') (rg : RG κ κ') (hH : ∀ g, H g → 80 ≤ g ∧ g ≤ 83) (af : AF (fun k => 80 ≤ k ∧ k ≤ 85) σ σ') (ln : Lns κ' σ' LT' HT') (acc : Acc V S F0 LT' HT' st fr) : Rn κ0 σ0 κ' σ' b V al S LT' HT' sp F0 st fr pt ch w v f r := by
  obtain ⟨⟨a1, a2⟩, ⟨b1, b2, b3, b4, b5⟩, ⟨c1, c2, c3⟩, d1, e1, g1⟩ := h
  have e : ∀ g, (g < 80 ∨ 83 < g) → kI κ' g = kI κ g ∧ kL κ' g = kL κ g ∧ kW κ' g = kW κ g := fun g hg => kf.1 g (fun z => by have := hH g z; omega)
  have ea : ∀ k, (k < 80 ∨ 85 < k) → aI σ' k = aI σ k := fun k hk => (af k (fun z => by have := z.1; have := z.2; omega)).1
  have af2 : AF aOt σ σ' := fun k hk => af k (fun z => hk ⟨z.1, by have := z.2; omega⟩)
  have hH2 : ∀ g, H g → 80 ≤ g ∧ g ≤ 85 := fun g hg => ⟨(hH g hg).1, by have := (hH g hg).2; omega⟩
  refine ⟨⟨a1.oth kf rg hH2 af2 ln (a1.2.2.2.2.2.2.fr (by rw [(e 84 (by omega)).1]) (e 85 (by omega)).1 (e 85 (by omega)).2.2 (fun k h1 h2 => ea k (by omega))), a2.oth kf hH2 af2 (Nat.le_refl _)⟩, ⟨b1, b2, b3, b4, by rw [(e 79 (by omega)).1]; exact b5⟩, ⟨c1.fr (e _ (by omega)).1 (e _ (by omega)).1 (e _ (by omega)).2.2 (by rw [kf.2.2.2]; exact Nat.le_refl _), c2.cg (fun k h1 h2 _ => ea k (by omega)), by rw [ea 59 (by omega)]; exact c3⟩, d1, acc, g1.cg (e 84 (by omega)).1 (fun h h1 h2 => ⟨(e h (by omega)).1, (e h (by omega)).2.2⟩) (fun k h1 h2 => ea k (by omega))⟩
/-- a line is told -/
theorem Lns.tell {g : Nat → Int32} (h : Lns κ σ LT HT) (hp : PrC κ 80 LT g) (hr : PRr σ 80 81 82 LT g) (po : Po 80 κ κ') (af : AF (fun k => k = 80 ∨ k = 81 ∨ k = 82) σ σ') (hp' : PrC κ' 80 (LT + 1) (padd LT g (nI v) y)) (hr' : PRr σ' 80 81 82 (LT + 1) (padd LT g (nI v) y)) : Lns κ' σ' (LT + 1) HT := by
  obtain ⟨-, ⟨g2, b1, b2⟩, R, c0, c1, c2, c3, c4⟩ := h
  have e : ∀ k, k ≠ 80 → k ≠ 81 → kI κ' k = kI κ k ∧ kL κ' k = kL κ k ∧ kW κ' k = kW κ k := fun k h1 h2 => po.1.1 k (fun z => z.elim h1 h2)
  have ea : ∀ k, 82 < k → aI σ' k = aI σ k := fun k hk => (af k (fun z => by rcases z with z | z | z <;> omega)).1
  refine ⟨⟨_, hp', hr'⟩, ⟨g2, b1.fr (e 82 (by decide) (by decide)).1 (e 83 (by decide) (by decide)).1 (e 83 (by decide) (by decide)).2.2, b2.fr (ea 83 (by decide)) (ea 84 (by decide)) (ea 85 (by decide))⟩, R, ?_⟩
  rw [(e 79 (by decide) (by decide)).1, (e 91 (by decide) (by decide)).1, (e 91 (by decide) (by decide)).2.2, show sI σ' 87 = sI σ 87 from congrFun (ea 87 (by decide)) 0, ea 86 (by decide)]
  exact ⟨c0, c1, c2, c3, c4⟩
end OTH
