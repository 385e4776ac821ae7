/-! a failure leaves a voice: it comes out; one that is closed -/
section RXOUT
variable {X : Cx} {d e er : Nat} {κ0 κ κ1 κ2 κ' : Km} {σ0 σ σ1 σ2 σ' : Rm} {b V al S T sp z LT HT F0 v p n x q s r g : Nat} {st : Nat → Nat} {fr fr' : Nat → List Frm} {pt : Nat → Nat} {fs rr : List Frm} {ch cr : List Nat} {w rz rz' : Nat → Nat} {f f1 : Frm} {y u : Int32} {C : Km → Prop} {D : Rm → Prop}
theorem run_desk {Q : Res → Km → Prop} (h13 : kI κ 79 13 = 0) (hx : x < 200000000) (q : Q (.inl none) κ) : K X d MX6_run 2 [(0, vR 79), (1, vI (nI x))] [] κ Q := by
  refine k_6_run_2 _ ?_
  rw [h13, litI 200000000, le_nI (by omega) (by omega)]
  exact ⟨fun z => absurd z (by omega), fun _ => ⟨fun _ => k_6_run_158 _ q, fun z => absurd rfl z⟩⟩
/-- the failure comes out: both come to the desk -/
theorem rx_desk (hx : x + pot V S st fr ≤ 199000000) (rf : ∃ σ1, D σ1 ∧ ∀ G : Rm → Prop, G σ1 → RaG X er v g p σ G)
    (cl : ∀ Q : Res → Km → Prop, (∀ κ', C κ' → K X d MX6_run 2 [(0, vR 79), (1, vI (nI (x + 1)))] [] κ' Q) → K X d MX6_run 2 [(0, vR 79), (1, vI (nI x))] [] κ Q)
    (dk : ∀ κ' σ', C κ' → D σ' → ∃ V' al' S' LT' HT' sp' F0' z' st' fr' pt' w', Desk κ0 σ0 κ' σ' b V' al' S' LT' HT' sp' F0' z' st' fr' pt' w' ∧ kI κ' 79 15 = sI σ' 78 ∧ HT' + 2 * pot V' S' st' fr' ≤ HT + 2 * pot V S st fr) : RunX X d e er κ0 σ0 κ σ b x (HT + 2 * pot V S st fr) v g p := by
  intro Q hQ
  obtain ⟨σ1, hD, adv⟩ := rf
  refine cl Q (fun κ' hC => ?_)
  obtain ⟨V', al', S', LT', HT', sp', F0', z', st', fr', pt', w', hd, h15, hb⟩ := dk κ' σ1 hC hD
  exact run_desk hd.1.1.2.1.2.2.2.1.1 (by omega) (hQ _ _ _ _ _ _ _ _ _ _ _ _ _ _ hd h15 hb (fun Q' hq => adv _ hq))
/-- the failure comes out -/
theorem Col.out (h : Col κ σ V F0 fr w rz) (hF : F0 ≤ 7900) (hz : rz g = 1) (hg : g < F0) (e2 : kI κ' 84 2 = nI (g + 1)) (e3 : kI κ' 84 3 = 0) (e86 : ∀ h, 86 ≤ h → h ≤ 88 → kI κ' h = kI κ h ∧ kW κ' h = kW κ h) (es : ∀ k, 93 ≤ k → k ≤ 96 → aI σ' k = aI σ k) (e97 : sI σ' 97 = nI g) (hk : ∀ y, y < F0 → cn (fun n => kps y (fr' n)) V + rz' y ≤ cn (fun n => kps y (fr n)) V + if y = g then 0 else rz y) (h1 : ∀ n f x, 1 ≤ n → n ≤ V → f ∈ fr' n → x ∈ frL f → x.1 ≠ 0 → x.2.2.2.1 = 1 → x.2.2.2.2 = nI (g + 1) ∨ ∃ m f0, 1 ≤ m ∧ m ≤ V ∧ f0 ∈ fr m ∧ x ∈ frL f0) : Col κ' σ' V F0 fr' (whi w g) rz' := by
  have wg : w g = g + 1 := (h.2.1 g hg).2 (by omega)
  obtain ⟨c1, c2, c3, c4, c5⟩ := h.white (κ' := κ) (σ' := σ) hF rfl (fun _ _ _ => ⟨rfl, rfl⟩) (fun _ _ _ => rfl) hz hg hk h1
  refine ⟨fun x hx => ?_, c2, c3, Or.inr ⟨g, hg, e97, e2, whi_g wg⟩, ⟨?_, Or.inl e3⟩⟩
  · rw [es 93 (by omega) (by omega), es 94 (by omega) (by omega), es 95 (by omega) (by omega), es 96 (by omega) (by omega)]
    exact c1 x hx
  · rw [(e86 86 (by omega) (by omega)).2, (e86 87 (by omega) (by omega)).2, (e86 88 (by omega) (by omega)).2]
    exact c5.1
theorem Bn.al1 (a : Bn κ0 σ0 κ σ b V al S T sp z LT HT F0 st fr pt x) (hv : 1 ≤ v ∧ v ≤ V) (hs : st v < 4) : 1 ≤ al := by
  rw [a.2.2.2.1.1]
  have e := cn_up (g := aliv st) (g' := un (aliv st) v 0) (n := v) (fun k hk => un_ne hk) V hv.1 hv.2
  rw [un_eq] at e
  have hf : aliv st v = 1 := if_pos hs
  omega
theorem rx_B0 (h : Rx κ0 σ0 κ σ b V al S LT HT sp F0 st fr pt [v] w v f [] g) (hx : x + pot V S st fr ≤ 199000000) (hd : 7 ≤ d) (her : 5 ≤ er) (hg : noG (frL f)) (hc : aI σ 57 v = 0 ∨ aI σ 89 g ≠ 14) : RunX X d e er κ0 σ0 κ σ b x (HT + 2 * pot V S st fr) v g (pt v) := by
  have hcl := h.cls
  obtain ⟨bd, i, j, pl, nv, vs, L, O, s, md⟩ := f
  obtain ⟨q1, q2, q3, q4, q5, q6, q7, q8⟩ := h.num
  have h' := h
  obtain ⟨a, c, m, ⟨b1, b2, b3, b4, b5, b6⟩, fx, acc, col⟩ := h'
  obtain ⟨h54, -⟩ := c.res
  have h54 : aI σ 54 v = nI 0 := h54
  obtain ⟨v1, v2, v3, v4, v5, v6, v7, v8, v9⟩ := a.2.2.1 v b1 b2
  obtain ⟨cl, cl1, cl2, cl3⟩ := v9
  have hA := a.al1 ⟨b1, b2⟩ (by omega)
  have hT : HT < 2000000000 := by have := acc.2.2; omega
  obtain ⟨gg, p1, p2⟩ := a.hp
  have e5 : ∀ k, k ≠ 60 → aI (wI σ 60 (pt v) 0) k = aI σ k := fun k hk => aI_ne hk
  have eE : ∀ k, k ≠ 48 → k ≠ 49 → k ≠ 58 → k ≠ 59 → k ≠ 60 → aI (enR (wI σ 60 (pt v) 0) v al 5) k = aI σ k := fun k k1 k2 k3 k4 k5 => by rw [enR_k k1 k2 k3 k4, e5 k k5]
  obtain ⟨σ2, hd2, hh⟩ := ac_exV (ac_hand (X := X) (F := fun s => HdR (enR (wI σ 60 (pt v) 0) v al 5) s HT (nI v) (nI 0)) (p2.fr (eE 83 (by decide) (by decide) (by decide) (by decide) (by decide)) (eE 84 (by decide) (by decide) (by decide) (by decide) (by decide)) (eE 85 (by decide) (by decide) (by decide) (by decide) (by decide))) hT (fun s hs => hs))
  refine rx_desk (C := fun κ' => ∃ κ2, HdC (enK κ v sp 5) κ2 HT (nI v) (nI 0) ∧ κ' = cI (cI (cI (cI (cI κ2 79 13 0) 79 15 2) 84 2 (nI (g + 1))) 84 3 0) 79 14 0) (D := fun σ' => σ' = wS (wS (wS σ2 77 0) 78 2) 97 (nI g)) hx ⟨_, rfl, fun G hG => ?_⟩
    (h.run (by omega) (by omega) ⟨5, by omega, kc_unwindB (el := 4) hcl.1 hg (by omega) (by omega) (by omega) (kc_leaveN a ⟨b1, b2⟩ b5 b6 (by
      rcases hc with z | z
      · left; rw [cl2]; rw [cl3] at z; exact z
      · exact Or.inr z) (v6.1.trans h54) (Nat.zero_le _) hT (fun _ κ2 hd2 => ⟨κ2, hd2, rfl⟩) (fun z => by omega))⟩) ?_
  · refine ra_B hcl.2.1 hg (by omega) (el := er - 1) (by omega) ?_
    exact ac_leavesN (z := cl) (r := 0) (σ2 := σ2) (al := al) ⟨b1, by omega⟩ (by rw [e5 58 (by decide)]; exact hcl.2.1.2.1) q4 (by rw [show sI (wI σ 60 (pt v) 0) 48 = sI σ 48 from congrFun (e5 48 (by decide)) 0]; exact a.2.1.2.1.2) hA (by rw [e5 57 (by decide)]; exact cl3) cl1 (by omega) (by
      rw [e5 89 (by decide)]
      rcases hc with z | z
      · left
        rw [cl3] at z
        have := (nI_eq (a := cl) (b := 0) (by omega) (by omega)).mp z
        exact this
      · exact Or.inr z) (by rw [e5 54 (by decide)]; exact h54) (by omega) hh (by omega) (fun _ => hG) (fun z => by omega)
  · rintro κ' σ' ⟨κ2, hK, rfl⟩ rfl
    obtain ⟨⟨hB, hs2, hk2, hk79⟩, ⟨hac, hpt, hHT⟩, hkps⟩ := h.left (s := 5) ⟨by omega, by omega⟩ (Nat.zero_le _) (Or.inl rfl) hK hd2
    have hB2 := ((((((hB.kx (g := 79) (k := 15) (y := 2) (Or.inl ⟨rfl, Or.inr rfl⟩)).rx (k := 78) (i := 0) (y := 2) (Or.inr (Or.inl rfl))).kx (g := 84) (k := 2) (y := nI (g + 1)) (Or.inr (Or.inl ⟨rfl, by decide⟩))).kx (g := 84) (k := 3) (y := 0) (Or.inr (Or.inl ⟨rfl, by decide⟩))).rx (k := 97) (i := 0) (y := nI g) (Or.inr (Or.inr (Or.inl rfl)))).kx (g := 79) (k := 14) (y := 0) (Or.inl ⟨rfl, Or.inl rfl⟩))
    have es : ∀ k, k ≠ 48 → k ≠ 49 → k ≠ 58 → k ≠ 59 → k ≠ 60 → k ≠ 77 → k ≠ 78 → k ≠ 83 → k ≠ 84 → k ≠ 85 → k ≠ 97 → aI (wS (wS (wS σ2 77 0) 78 2) 97 (nI g)) k = aI σ k := fun k k1 k2 k3 k4 k5 k6 k6b k7 k8 k9 k10 => by rw [aI_ne k10, aI_ne k6b, aI_ne k6, hs2 k k1 k2 k3 k4 k5 k7 k8 k9]
    have hch := c.back (s := 5) (σ' := wS (wS (wS σ2 77 0) 78 2) 97 (nI g)) (Or.inr (by omega)) (fun z => by omega) (fun x _ => congrFun (es 54 (by decide) (by decide) (by decide) (by decide) (by decide) (by decide) (by decide) (by decide) (by decide) (by decide) (by decide)) x) (congrFun (es 54 (by decide) (by decide) (by decide) (by decide) (by decide) (by decide) (by decide) (by decide) (by decide) (by decide) (by decide)) v) (es 56 (by decide) (by decide) (by decide) (by decide) (by decide) (by decide) (by decide) (by decide) (by decide) (by decide) (by decide)) (es 57 (by decide) (by decide) (by decide) (by decide) (by decide) (by decide) (by decide) (by decide) (by decide) (by decide) (by decide))
    rw [if_pos rfl] at hch
    have e84 : ∀ h, 84 < h → h ≤ 88 → kI (cI (cI (cI (cI (cI κ2 79 13 0) 79 15 2) 84 2 (nI (g + 1))) 84 3 0) 79 14 0) h = kI κ h ∧ kW (cI (cI (cI (cI (cI κ2 79 13 0) 79 15 2) 84 2 (nI (g + 1))) 84 3 0) 79 14 0) h = kW κ h := fun h h1 h2 => by
      have := hk2 h (by omega) (by omega) (by omega) (by omega) (by omega) (by omega)
      exact ⟨by rw [kI_ne (by omega), kI_ne (by omega), kI_ne (by omega), kI_ne (by omega), kI_ne (by omega), this.1], this.2⟩
    refine ⟨V, al - 1, S, LT, HT + 1, sp + 1, F0, 0, un st v 5, un fr v [], pt, whi w g, Desk.of hB2 hch (fun n n1 n2 => ?_) kI_eq hac ?_, ?_, hHT⟩
    · by_cases cv : n = v
      · rw [cv, un_eq, un_eq]
        exact Or.inl ⟨Or.inr (by omega), rfl⟩
      · rw [un_ne cv, un_ne cv]
        exact (m n n1 n2 cv).cg (congrFun (es 56 (by decide) (by decide) (by decide) (by decide) (by decide) (by decide) (by decide) (by decide) (by decide) (by decide) (by decide)) n) (Nat.le_refl _)
    · refine col.out q7.2 (if_pos rfl) b6 (by rw [kI_ne (by decide), kI_nk (by decide), kI_eq]) (by rw [kI_ne (by decide), kI_eq]) (fun h h1 h2 => e84 h (by omega) (by omega)) (fun k k1 k2 => es k (by omega) (by omega) (by omega) (by omega) (by omega) (by omega) (by omega) (by omega) (by omega) (by omega) (by omega)) sI_eq (fun y _ => by
        have := hkps y
        by_cases cy : y = g
        · rw [if_pos cy]; omega
        · rw [if_neg cy, if_neg cy]; omega) (fun n f0 it n1 n2 hf hi i1 i2 => ?_)
      by_cases cv : n = v
      · rw [cv, un_eq] at hf
        exact absurd hf List.not_mem_nil
      · rw [un_ne cv] at hf
        exact Or.inr ⟨n, f0, n1, n2, hf, hi⟩
    · rw [kI_nk (by decide), kI_ne (by decide), kI_ne (by decide), kI_eq, sI_ne (by decide), sI_eq]
end RXOUT
