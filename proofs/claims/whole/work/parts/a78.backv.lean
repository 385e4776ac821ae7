/-! the turn goes back to one that waits (by gen_k78.py) -/
section BACKV
variable {X : Cx} {d e ec : Nat} {κ0 κ κa κb κ' : Km} {σ0 σ σa σ1 σ' : Rm} {b V al S T sp z LT HT F0 v p n x q s w k al1 sp1 : Nat} {st st1 : Nat → Nat} {fr fr1 : Nat → List Frm} {pt : Nat → Nat} {fs r rr : List Frm} {ch cr : List Nat} {wc : Nat → Nat} {f f' f1 f1' : Frm} {y u en how cl : Int32} {Cg : Km → Prop} {Dg : Rm → Prop}
theorem VR.uneach {bd i j nv s md i' s' md' : Nat} {pl : Int32} {vs : Nat → Int32} {L : List Ite} {O : List Int32} (h : VR σ n p ((bd, i, j, pl, nv, vs, L ++ [(0, 0, 0, 0, y)], O, s, md) :: r)) (hi : i' < 20000) : VR σ n p ((bd, i', j, pl, nv, vs, L, O, s', md') :: r) := (h.vx.uneach hi).vr h.2.2.1.2.2
theorem rn_back1 {b1 i1 j1 n1 s1' m : Nat} {p1 : Int32} {w1 : Nat → Int32} {L1 : List Ite} {O1 : List Int32} (h29 : kI κ0 69 i1 ≠ 29) (h30 : kI κ0 69 i1 ≠ 30)
    (all : AllOK X d (e + 1) κ0 σ0 b (pot V S st fr)) {kk : Nat} (hkk : 1 ≤ kk ∧ kk ≤ 100) (hx : x + pot V S st fr ≤ 199000000) (hd : 7 ≤ d) (hec : 1 ≤ ec) (hB0 : HT < 2000000000) (hfo : FrO κ0 σ0 F0 b (b1, i1 + 1, j1, p1, n1, w1, L1, O1, 1, 1)) (hrr : ∀ h, h ∈ rr → frM h = 1 ∧ FrO κ0 σ0 F0 b h) (sta : Sta b κ0 σ0) (cf0 : kI κ0 68 2 = nI m ∧ m ≤ 9500)
    (clg : ∀ Q : Res → Km → Prop, (∀ κg, Cg κg → KC' X 5 MX6_goBack [vR 79, vR (1002 + 8 * v), vI y, vI how] κg (kRV fun κ' => K X d MX6_run 2 [(0, vR 79), (1, vI (nI (x + kk)))] [] κ' Q)) → K X d MX6_run 2 [(0, vR 79), (1, vI (nI x))] [] κ Q)
    (rfg : ∀ P : Rm → Prop, (∀ σg σ2, Dg σg → HdR σg σ2 HT (nI v) (nI w) → AC X 92 ec MX13_comes [vR 92, vI (nI w), vI y, vI en, vI cl] σ2 (aRV P)) → ∃ σ1, P σ1 ∧ ∀ Q' : Res → Rm → Prop, A X 92 (e + 1) MX13_goes 0 [(0, vR 92)] [] σ1 Q' → A X 92 (e + 1) MX13_goes 0 [(0, vR 92)] [] σ Q')
    (dg : ∀ σg, Dg σg → VR σg w (pt w) ((b1, i1 + 1, j1, p1, n1, w1, L1, O1, 1, 1) :: rr) ∧ aI σg 56 w = nI 1 ∧ (1 ≤ w ∧ w ≤ 60) ∧ ∀ k, 1 ≤ k → k ≤ 46 → aI σg k = aI σ0 k)
    (jn : ∀ κg σg, Cg κg → Dg σg → ∃ al1 sp1 st1 fr1 wc1 cl1, Bk κ0 σ0 κg σg b V al1 S LT HT sp1 F0 st1 fr1 pt (w :: cr) wc1 v cl1 ∧ fr1 w = (b1, i1 + 1, j1, p1, n1, w1, L1, O1, 1, 1) :: rr ∧ pot V S st1 fr1 + kk ≤ pot V S st fr) : RunOK X d (e + 1) κ0 σ0 κ σ b x (HT + 2 * pot V S st fr) := by
  obtain ⟨c68, hm9⟩ := cf0
  obtain ⟨gd1, hlt, hO1⟩ : Good2 κ0 σ0 (fun _ => False) (b1, i1 + 1, j1, L1.map itm, O1.length + 1, 1) ∧ i1 + 1 < m ∧ O1.length < 150 := by
    rcases hfo.2.2.2.2 with ⟨z, _⟩ | ⟨_, _, _, gd⟩ | ⟨z, _⟩ | ⟨z, _⟩
    · exact absurd z (show ¬ (1 : Nat) = 0 by decide)
    · obtain ⟨-, -, -, -, -, l6, -⟩ := gd.loc
      have l6 : O1.length + 1 ≤ 150 := l6
      exact ⟨gd, good_lt c68 hm9 gd, by omega⟩
    · exact absurd z (show ¬ (1 : Nat) = 2 by decide)
    · exact absurd z (show ¬ (1 : Nat) = 3 by decide)
  have fo1 : FrO κ0 σ0 F0 b (b1, i1 + 1, j1, p1, n1, w1, L1, O1 ++ [y], 1, 0) := ⟨hfo.1, hfo.2.1, by show 1 ≤ 1; omega, hfo.2.2.2.1, Or.inl ⟨rfl, by
    show Good2 κ0 σ0 (fun _ => False) (b1, i1 + 1, j1, L1.map itm, (O1 ++ [y]).length, 1)
    rw [List.length_append]
    exact gd1⟩⟩
  intro Q hQ
  obtain ⟨σ1, ⟨σg, σ2, hDg, hR, ro1, vr1⟩, adv⟩ := rfg (fun σ' => ∃ σg σ2, Dg σg ∧ HdR σg σ2 HT (nI v) (nI w) ∧ Ro (pt w) (wI (wS σ2 77 (nI w)) 49 w 2) σ' ∧ VR σ' w (pt w) ((b1, i1 + 1, j1, p1, n1, w1, L1, O1 ++ [y], 1, 0) :: rr)) (fun σg σ2 hDg hR => by
    obtain ⟨vr, h56, hw60, hco⟩ := dg σg hDg
    have e2 : ∀ k, k ≠ 83 → k ≠ 84 → k ≠ 85 → aI σ2 k = aI σg k := fun k h1 h2 h3 => (hR.1 k (by omega)).1
    have vr2 : VR σ2 w (pt w) ((b1, i1 + 1, j1, p1, n1, w1, L1, O1, 1, 1) :: rr) := vr.cg1 (fun k h1 h2 => e2 k (by omega) (by omega) (by omega))
    have va : VR (wI (wS σ2 77 (nI w)) 49 w 2) w (pt w) ((b1, i1 + 1, j1, p1, n1, w1, L1, O1, 1, 1) :: rr) := vr2.cg1 (fun k h1 h2 => by rw [aI_ne (by omega), aI_ne (by omega)])
    have hp12 : pt w < 12 := vr.1.1
    have h60 : rr.length + 1 ≤ 60 := vr.1.2.2.2
    have hL24 := vr.2.2.2.2.1.2.1
    have hI20 := vr.2.2.2.2.1.2.2.2.2.1
    have hO2 : O1.length < 150 := hO1
    refine ac_comesV (j := 0) (mm := 1) hw60 vr2.vx (by rw [e2 56 (by decide) (by decide) (by decide)]; exact h56) (by omega) hec (fun _ => ?_) (fun z => by omega) (fun z => absurd rfl z)
    exact ac_push (i' := i1 + 1) (s' := 1) (md' := 0) va hO2 hI20 (fun σ' ro vr' => ⟨σg, σ2, hDg, hR, ro, vr'⟩))
  refine clg Q (fun κg hCg => ?_)
  obtain ⟨al1, sp1, st1, fr1, wc1, cl1, ⟨hB, ⟨v1, v2, v3, v4, v5⟩, ⟨r1, r2, r3⟩, hch, hmd, hac, hcol⟩, hfr, hpt⟩ := jn κg σg hCg hDg
  have r1 : aI σg 54 v = nI w := r1
  have r2 : w ≤ V := r2
  obtain ⟨rw1, rwv, rw3⟩ := r3 (List.cons_ne_nil _ _)
  have rw1 : 1 ≤ w := rw1
  have rwv : w ≠ v := rwv
  have rw3 : st1 w = 3 := rw3
  obtain ⟨s1, s2, s3, s4, s5, s6, s7, s8, s9, s10, s11, s12, s13, s14, s15⟩ := hB.2.1
  obtain ⟨gg, pp1, pp2⟩ := hB.hp
  have vof := hB.2.2.1 v v1 v2
  obtain ⟨m', cf⟩ := hB.cf
  have em : m' = m := by
    have h1 := cf.2.2.1
    rw [c68] at h1
    exact ((nI_eq (by omega) (by have := cf.2.1; omega)).mp h1).symm
  subst em
  have hcl := hB.2.2.2.2.2.2 w rw1 r2
  rw [hfr] at hcl
  have vkg : VK κg w ((b1, i1 + 1, j1, p1, n1, w1, L1, O1, 1, 1) :: rr) := by
    rcases hcl with ⟨z, -⟩ | ⟨-, z, -⟩
    · exact absurd z (List.cons_ne_nil _ _)
    · exact z
  have hz := (dg σg hDg).1.bd.2.2
  -- both, behind the handing
  have joint : ∀ κ1, HdC κg κ1 HT (nI v) (nI w) → Bn κ0 σ0 (cI (cI κ1 79 13 (nI w)) (1002 + 8 * w) 1 (nI 2)) (wI (wS σ2 77 (nI w)) 49 w (nI 2)) b V al1 S w sp1 0 LT (HT + 1) F0 (un st1 w 2) fr1 pt 0 ∧ VK (cI (cI κ1 79 13 (nI w)) (1002 + 8 * w) 1 (nI 2)) w ((b1, i1 + 1, j1, p1, n1, w1, L1, O1, 1, 1) :: rr) ∧ CF κ0 (cI (cI κ1 79 13 (nI w)) (1002 + 8 * w) 1 (nI 2)) m' := fun κ1 hK => by
    have hb := ((hB.hand hK hR).turn (T' := w) r2).sst (n := w) (s := 2) (by omega) (by rw [rw3]; exact ⟨fun _ => by omega, fun _ => by omega⟩)
    refine ⟨hb, ?_, cf.cg (fun g h1 h2 => ?_)⟩
    · have hcl2 := hb.2.2.2.2.2.2 w rw1 r2
      rw [hfr] at hcl2
      rcases hcl2 with ⟨z, -⟩ | ⟨-, z, -⟩
      · exact absurd z (List.cons_ne_nil _ _)
      · exact z
    · obtain ⟨z1, z2, z3⟩ := hK.1.1.1 g (by omega)
      exact ⟨by rw [kI_ne (by omega), kI_ne (by omega), z1], z3⟩
  have fin : ∀ κ1 κ', HdC κg κ1 HT (nI v) (nI w) → Vo w (cI (cI κ1 79 13 (nI w)) (1002 + 8 * w) 1 (nI 2)) κ' → VK κ' w ((b1, i1 + 1, j1, p1, n1, w1, L1, O1 ++ [y], 1, 0) :: rr) → K X d MX6_run 2 [(0, vR 79), (1, vI (nI (x + kk)))] [] κ' Q := fun κ1 κ' hK ko vk => by
    obtain ⟨hb, -, -⟩ := joint κ1 hK
    have es : ∀ k, k ≠ 49 → k ≠ 77 → k ≠ 83 → k ≠ 84 → k ≠ 85 → aI (wI (wS σ2 77 (nI w)) 49 w (nI 2)) k = aI σg k := fun k k1 k2 k3 k4 k5 => by rw [aI_ne k1, aI_ne k2, (hR.1 k (by omega)).1]
    have ek : ∀ h, h ≠ 79 → h ≠ 82 → h ≠ 83 → h ≠ 1002 + 8 * w → kI (cI (cI κ1 79 13 (nI w)) (1002 + 8 * w) 1 (nI 2)) h = kI κg h ∧ kW (cI (cI κ1 79 13 (nI w)) (1002 + 8 * w) 1 (nI 2)) h = kW κg h := fun h h1 h2 h3 h4 => by
      obtain ⟨z1, z2, z3⟩ := hK.1.1.1 h (by omega)
      exact ⟨by rw [kI_ne h4, kI_ne h1, z1], z3⟩
    have ct := cnt_st (V := V) (S := S) (n := w) (s := 2) (st := st1) (fr := fr1) ⟨rw1, r2⟩ (by omega) (by omega)
    rw [if_neg (List.cons_ne_nil _ _)] at hch
    have hch : Chan σg V w (un st1 w 2) (w :: cr) := hch
    obtain ⟨hR2, hp2⟩ := Rn.wake hb (hch.cg (es 54 (by decide) (by decide) (by decide) (by decide) (by decide)) (es 56 (by decide) (by decide) (by decide) (by decide) (by decide)) (es 57 (by decide) (by decide) (by decide) (by decide) (by decide))) (fun n n1 n2 hn => by
      rw [un_ne hn]
      exact (hmd n n1 n2).cg (congrFun (es 56 (by decide) (by decide) (by decide) (by decide) (by decide)) n) (Nat.le_refl _)) ⟨rw1, r2, un_eq, hfr, by
        rw [kI_ne (by omega), kI_nk (by decide), (hK.1.1.1 79 (by decide)).1]; exact v3⟩ ko ro1 vk vr1 ⟨rfl, fo1, hrr⟩ ⟨by rw [ct.1]; exact hac.1, by rw [ct.2]; exact hac.2.1, by rw [ct.2]; exact hac.2.2⟩ (hcol.cg (ek 84 (by omega) (by omega) (by omega) (by omega)).1 (fun h h1 h2 => ek h (by omega) (by omega) (by omega) (by omega)) (fun k k1 k2 => es k (by omega) (by omega) (by omega) (by omega) (by omega))) (Nat.le_refl _) (Nat.le_refl _) (fun g _ => Nat.le_refl _) (fun it hi _ _ => hi)
    have hp2 : pot V S (un st1 w 2) (un fr1 w ((b1, i1 + 1, j1, p1, n1, w1, L1, O1 ++ [y], 1, 0) :: rr)) + fwt (b1, i1 + 1, j1, p1, n1, w1, L1, O1, 1, 1) = pot V S (un st1 w 2) fr1 + fwt (b1, i1 + 1, j1, p1, n1, w1, L1, O1 ++ [y], 1, 0) := hp2
    have hwt : fwt (b1, i1 + 1, j1, p1, n1, w1, L1, O1 ++ [y], 1, 0) + 1 ≤ fwt (b1, i1 + 1, j1, p1, n1, w1, L1, O1, 1, 1) + 1 := Nat.le_refl _
    have hb3 := hac.2.2
    refine all _ _ _ _ _ _ _ _ _ _ _ _ _ _ _ _ _ _ hR2 (by omega) (by omega) Q (fun κ2 σ2' V2 al2 S2 LT2 HT2 sp2 F2 z2 st2 fr2 pt2 w2 dk e15 hb2 adv' => hQ κ2 σ2' V2 al2 S2 LT2 HT2 sp2 F2 z2 st2 fr2 pt2 w2 dk e15 (by omega) (fun Q' hq => adv Q' (adv' Q' hq)))
  refine kc_goBackV (V := V) (w := w) (i := i1) (κ0 := κ0) (m := m') (isH_voice v1 (by omega)) vof.1 (vof.2.2.2.2.2.1.1.trans r1) ⟨rw1, r2⟩ pp1 hB0 s1.1 s8 s9 cf vkg (by omega) rfl (by omega) (fun z => absurd z h29) (fun z => absurd z h30) (fun _ _ κ1 hK => ?_)
  obtain ⟨-, vka, -⟩ := joint κ1 hK
  have hz : tsz 0 ((b1, i1 + 1, j1, p1, n1, w1, L1, O1, 1, 1) :: rr) ≤ 15720 := hz
  exact vk_push (b' := b1) (j' := j1) (s' := 1) (md' := 0) vka (by omega) (fun κ' ko vk => fin κ1 κ' hK ko vk)
theorem rn_back3 {b1 i1 j1 n1 s1' m : Nat} {p1 : Int32} {w1 : Nat → Int32} {L1 : List Ite} {O1 : List Int32} 
    (all : AllOK X d (e + 1) κ0 σ0 b (pot V S st fr)) {kk : Nat} (hkk : 1 ≤ kk ∧ kk ≤ 100) (hx : x + pot V S st fr ≤ 199000000) (hd : 7 ≤ d) (hec : 1 ≤ ec) (hB0 : HT < 2000000000) (hfo : FrO κ0 σ0 F0 b (b1, i1 + 1, j1, p1, n1, w1, L1, O1, s1', 3)) (hrr : ∀ h, h ∈ rr → frM h = 1 ∧ FrO κ0 σ0 F0 b h) (sta : Sta b κ0 σ0) (cf0 : kI κ0 68 2 = nI m ∧ m ≤ 9500)
    (clg : ∀ Q : Res → Km → Prop, (∀ κg, Cg κg → KC' X 5 MX6_goBack [vR 79, vR (1002 + 8 * v), vI y, vI how] κg (kRV fun κ' => K X d MX6_run 2 [(0, vR 79), (1, vI (nI (x + kk)))] [] κ' Q)) → K X d MX6_run 2 [(0, vR 79), (1, vI (nI x))] [] κ Q)
    (rfg : ∀ P : Rm → Prop, (∀ σg σ2, Dg σg → HdR σg σ2 HT (nI v) (nI w) → AC X 92 ec MX13_comes [vR 92, vI (nI w), vI y, vI en, vI cl] σ2 (aRV P)) → ∃ σ1, P σ1 ∧ ∀ Q' : Res → Rm → Prop, A X 92 (e + 1) MX13_goes 0 [(0, vR 92)] [] σ1 Q' → A X 92 (e + 1) MX13_goes 0 [(0, vR 92)] [] σ Q')
    (dg : ∀ σg, Dg σg → VR σg w (pt w) ((b1, i1 + 1, j1, p1, n1, w1, L1, O1, s1', 3) :: rr) ∧ aI σg 56 w = nI 3 ∧ (1 ≤ w ∧ w ≤ 60) ∧ ∀ k, 1 ≤ k → k ≤ 46 → aI σg k = aI σ0 k)
    (jn : ∀ κg σg, Cg κg → Dg σg → ∃ al1 sp1 st1 fr1 wc1 cl1, Bk κ0 σ0 κg σg b V al1 S LT HT sp1 F0 st1 fr1 pt (w :: cr) wc1 v cl1 ∧ fr1 w = (b1, i1 + 1, j1, p1, n1, w1, L1, O1, s1', 3) :: rr ∧ pot V S st1 fr1 + kk ≤ pot V S st fr) : RunOK X d (e + 1) κ0 σ0 κ σ b x (HT + 2 * pot V S st fr) := by
  obtain ⟨c68, hm9⟩ := cf0
  obtain ⟨h29, hlt, hs0, hO0, gd1⟩ : kI κ0 69 i1 = 29 ∧ i1 + 1 < m ∧ s1' = 0 ∧ O1 = [] ∧ Good2 κ0 σ0 (fun _ => False) (b1, i1 + 1, j1, L1.map itm, 0, 0) := by
    rcases hfo.2.2.2.2 with ⟨z, _⟩ | ⟨z, _⟩ | ⟨z, _⟩ | ⟨_, z1, z2, ⟨i, z3, z4⟩, gd⟩
    · exact absurd z (show ¬ (3 : Nat) = 0 by decide)
    · exact absurd z (show ¬ (3 : Nat) = 1 by decide)
    · exact absurd z (show ¬ (3 : Nat) = 2 by decide)
    · have z3 : i1 + 1 = i + 1 := z3
      have z5 : i1 = i := by omega
      rw [← z5] at z4
      exact ⟨z4, good_lt c68 hm9 gd, z1, z2, gd⟩
  have fo1 : FrO κ0 σ0 F0 b (b1, i1 + 1, j1, p1, n1, w1, L1, O1, s1', 0) := ⟨hfo.1, hfo.2.1, hfo.2.2.1, hfo.2.2.2.1, Or.inl ⟨rfl, by
    show Good2 κ0 σ0 (fun _ => False) (b1, i1 + 1, j1, L1.map itm, O1.length, s1')
    rw [hs0, hO0]
    exact gd1⟩⟩
  intro Q hQ
  obtain ⟨σ1, ⟨σg, σ2, hDg, hR, ro1, vr1⟩, adv⟩ := rfg (fun σ' => ∃ σg σ2, Dg σg ∧ HdR σg σ2 HT (nI v) (nI w) ∧ Ro (pt w) (wI (wS σ2 77 (nI w)) 49 w 2) σ' ∧ VR σ' w (pt w) ((b1, i1 + 1, j1, p1, n1, w1, L1, O1, s1', 0) :: rr)) (fun σg σ2 hDg hR => by
    obtain ⟨vr, h56, hw60, hco⟩ := dg σg hDg
    have e2 : ∀ k, k ≠ 83 → k ≠ 84 → k ≠ 85 → aI σ2 k = aI σg k := fun k h1 h2 h3 => (hR.1 k (by omega)).1
    have vr2 : VR σ2 w (pt w) ((b1, i1 + 1, j1, p1, n1, w1, L1, O1, s1', 3) :: rr) := vr.cg1 (fun k h1 h2 => e2 k (by omega) (by omega) (by omega))
    have va : VR (wI (wS σ2 77 (nI w)) 49 w 2) w (pt w) ((b1, i1 + 1, j1, p1, n1, w1, L1, O1, s1', 3) :: rr) := vr2.cg1 (fun k h1 h2 => by rw [aI_ne (by omega), aI_ne (by omega)])
    have hp12 : pt w < 12 := vr.1.1
    have h60 : rr.length + 1 ≤ 60 := vr.1.2.2.2
    have hL24 := vr.2.2.2.2.1.2.1
    have hI20 := vr.2.2.2.2.1.2.2.2.2.1
    refine ac_comesV (j := 0) (mm := 3) hw60 vr2.vx (by rw [e2 56 (by decide) (by decide) (by decide)]; exact h56) (by omega) hec (fun z => by omega) (fun z => by omega) (fun _ _ => ⟨σg, σ2, hDg, hR, Ro.refl, va.gho hI20⟩))
  refine clg Q (fun κg hCg => ?_)
  obtain ⟨al1, sp1, st1, fr1, wc1, cl1, ⟨hB, ⟨v1, v2, v3, v4, v5⟩, ⟨r1, r2, r3⟩, hch, hmd, hac, hcol⟩, hfr, hpt⟩ := jn κg σg hCg hDg
  have r1 : aI σg 54 v = nI w := r1
  have r2 : w ≤ V := r2
  obtain ⟨rw1, rwv, rw3⟩ := r3 (List.cons_ne_nil _ _)
  have rw1 : 1 ≤ w := rw1
  have rwv : w ≠ v := rwv
  have rw3 : st1 w = 3 := rw3
  obtain ⟨s1, s2, s3, s4, s5, s6, s7, s8, s9, s10, s11, s12, s13, s14, s15⟩ := hB.2.1
  obtain ⟨gg, pp1, pp2⟩ := hB.hp
  have vof := hB.2.2.1 v v1 v2
  obtain ⟨m', cf⟩ := hB.cf
  have em : m' = m := by
    have h1 := cf.2.2.1
    rw [c68] at h1
    exact ((nI_eq (by omega) (by have := cf.2.1; omega)).mp h1).symm
  subst em
  have hcl := hB.2.2.2.2.2.2 w rw1 r2
  rw [hfr] at hcl
  have vkg : VK κg w ((b1, i1 + 1, j1, p1, n1, w1, L1, O1, s1', 3) :: rr) := by
    rcases hcl with ⟨z, -⟩ | ⟨-, z, -⟩
    · exact absurd z (List.cons_ne_nil _ _)
    · exact z
  have hz := (dg σg hDg).1.bd.2.2
  -- both, behind the handing
  have joint : ∀ κ1, HdC κg κ1 HT (nI v) (nI w) → Bn κ0 σ0 (cI (cI κ1 79 13 (nI w)) (1002 + 8 * w) 1 (nI 2)) (wI (wS σ2 77 (nI w)) 49 w (nI 2)) b V al1 S w sp1 0 LT (HT + 1) F0 (un st1 w 2) fr1 pt 0 ∧ VK (cI (cI κ1 79 13 (nI w)) (1002 + 8 * w) 1 (nI 2)) w ((b1, i1 + 1, j1, p1, n1, w1, L1, O1, s1', 3) :: rr) ∧ CF κ0 (cI (cI κ1 79 13 (nI w)) (1002 + 8 * w) 1 (nI 2)) m' := fun κ1 hK => by
    have hb := ((hB.hand hK hR).turn (T' := w) r2).sst (n := w) (s := 2) (by omega) (by rw [rw3]; exact ⟨fun _ => by omega, fun _ => by omega⟩)
    refine ⟨hb, ?_, cf.cg (fun g h1 h2 => ?_)⟩
    · have hcl2 := hb.2.2.2.2.2.2 w rw1 r2
      rw [hfr] at hcl2
      rcases hcl2 with ⟨z, -⟩ | ⟨-, z, -⟩
      · exact absurd z (List.cons_ne_nil _ _)
      · exact z
    · obtain ⟨z1, z2, z3⟩ := hK.1.1.1 g (by omega)
      exact ⟨by rw [kI_ne (by omega), kI_ne (by omega), z1], z3⟩
  have fin : ∀ κ1 κ', HdC κg κ1 HT (nI v) (nI w) → Vo w (cI (cI κ1 79 13 (nI w)) (1002 + 8 * w) 1 (nI 2)) κ' → VK κ' w ((b1, i1 + 1, j1, p1, n1, w1, L1, O1, s1', 0) :: rr) → K X d MX6_run 2 [(0, vR 79), (1, vI (nI (x + kk)))] [] κ' Q := fun κ1 κ' hK ko vk => by
    obtain ⟨hb, -, -⟩ := joint κ1 hK
    have es : ∀ k, k ≠ 49 → k ≠ 77 → k ≠ 83 → k ≠ 84 → k ≠ 85 → aI (wI (wS σ2 77 (nI w)) 49 w (nI 2)) k = aI σg k := fun k k1 k2 k3 k4 k5 => by rw [aI_ne k1, aI_ne k2, (hR.1 k (by omega)).1]
    have ek : ∀ h, h ≠ 79 → h ≠ 82 → h ≠ 83 → h ≠ 1002 + 8 * w → kI (cI (cI κ1 79 13 (nI w)) (1002 + 8 * w) 1 (nI 2)) h = kI κg h ∧ kW (cI (cI κ1 79 13 (nI w)) (1002 + 8 * w) 1 (nI 2)) h = kW κg h := fun h h1 h2 h3 h4 => by
      obtain ⟨z1, z2, z3⟩ := hK.1.1.1 h (by omega)
      exact ⟨by rw [kI_ne h4, kI_ne h1, z1], z3⟩
    have ct := cnt_st (V := V) (S := S) (n := w) (s := 2) (st := st1) (fr := fr1) ⟨rw1, r2⟩ (by omega) (by omega)
    rw [if_neg (List.cons_ne_nil _ _)] at hch
    have hch : Chan σg V w (un st1 w 2) (w :: cr) := hch
    obtain ⟨hR2, hp2⟩ := Rn.wake hb (hch.cg (es 54 (by decide) (by decide) (by decide) (by decide) (by decide)) (es 56 (by decide) (by decide) (by decide) (by decide) (by decide)) (es 57 (by decide) (by decide) (by decide) (by decide) (by decide))) (fun n n1 n2 hn => by
      rw [un_ne hn]
      exact (hmd n n1 n2).cg (congrFun (es 56 (by decide) (by decide) (by decide) (by decide) (by decide)) n) (Nat.le_refl _)) ⟨rw1, r2, un_eq, hfr, by
        rw [kI_ne (by omega), kI_nk (by decide), (hK.1.1.1 79 (by decide)).1]; exact v3⟩ ko ro1 vk vr1 ⟨rfl, fo1, hrr⟩ ⟨by rw [ct.1]; exact hac.1, by rw [ct.2]; exact hac.2.1, by rw [ct.2]; exact hac.2.2⟩ (hcol.cg (ek 84 (by omega) (by omega) (by omega) (by omega)).1 (fun h h1 h2 => ek h (by omega) (by omega) (by omega) (by omega)) (fun k k1 k2 => es k (by omega) (by omega) (by omega) (by omega) (by omega))) (Nat.le_refl _) (Nat.le_refl _) (fun g _ => Nat.le_refl _) (fun it hi _ _ => hi)
    have hp2 : pot V S (un st1 w 2) (un fr1 w ((b1, i1 + 1, j1, p1, n1, w1, L1, O1, s1', 0) :: rr)) + fwt (b1, i1 + 1, j1, p1, n1, w1, L1, O1, s1', 3) = pot V S (un st1 w 2) fr1 + fwt (b1, i1 + 1, j1, p1, n1, w1, L1, O1, s1', 0) := hp2
    have hwt : fwt (b1, i1 + 1, j1, p1, n1, w1, L1, O1, s1', 0) + 1 ≤ fwt (b1, i1 + 1, j1, p1, n1, w1, L1, O1, s1', 3) + 1 := Nat.le_refl _
    have hb3 := hac.2.2
    refine all _ _ _ _ _ _ _ _ _ _ _ _ _ _ _ _ _ _ hR2 (by omega) (by omega) Q (fun κ2 σ2' V2 al2 S2 LT2 HT2 sp2 F2 z2 st2 fr2 pt2 w2 dk e15 hb2 adv' => hQ κ2 σ2' V2 al2 S2 LT2 HT2 sp2 F2 z2 st2 fr2 pt2 w2 dk e15 (by omega) (fun Q' hq => adv Q' (adv' Q' hq)))
  refine kc_goBackV (V := V) (w := w) (i := i1) (κ0 := κ0) (m := m') (isH_voice v1 (by omega)) vof.1 (vof.2.2.2.2.2.1.1.trans r1) ⟨rw1, r2⟩ pp1 hB0 s1.1 s8 s9 cf vkg (by omega) h29 (by omega) (fun _ κ1 hK => ?_) (fun z => absurd z (by decide)) (fun z => absurd rfl z)
  obtain ⟨-, vka, -⟩ := joint κ1 hK
  exact fin κ1 _ hK Vo.refl vka.gho
theorem rn_back2e {b1 i1 j1 n1 s1' m : Nat} {p1 : Int32} {w1 : Nat → Int32} {L1 : List Ite} {O1 : List Int32} {i2 j2 vv : Nat} {y0 : Int32} (h69 : kI κ0 69 i1 = 30) (hvv : vv < n1) (h14 : aI σ0 14 j1 = nI vv) (h69b : kI κ0 69 (i1 + 1) = 3) (h70b : kI κ0 70 (i1 + 1) = nI vv) (gd1 : Good2 κ0 σ0 (fun _ => False) (b1, i1 + 2, j1 + 1, (L1 ++ [(0, 0, 0, 0, y0)]).map itm, 0, 0)) (h70 : kI κ0 70 i1 = nI i2) (h16 : aI σ0 16 j1 = nI j2) (hi2 : i1 < i2) (gd2 : Good2 κ0 σ0 (fun _ => False) (b1, i2, j2, L1.map itm, 0, 0)) (hhow : how = 1) (hen : en ≠ 0)
    (all : AllOK X d (e + 1) κ0 σ0 b (pot V S st fr)) {kk : Nat} (hkk : 1 ≤ kk ∧ kk ≤ 100) (hx : x + pot V S st fr ≤ 199000000) (hd : 7 ≤ d) (hec : 1 ≤ ec) (hB0 : HT < 2000000000) (hfo : FrO κ0 σ0 F0 b (b1, i1 + 1, j1 + 1, p1, n1, w1, L1 ++ [(0, 0, 0, 0, y0)], [], 1, 2)) (hrr : ∀ h, h ∈ rr → frM h = 1 ∧ FrO κ0 σ0 F0 b h) (sta : Sta b κ0 σ0) (cf0 : kI κ0 68 2 = nI m ∧ m ≤ 9500)
    (clg : ∀ Q : Res → Km → Prop, (∀ κg, Cg κg → KC' X 5 MX6_goBack [vR 79, vR (1002 + 8 * v), vI y, vI how] κg (kRV fun κ' => K X d MX6_run 2 [(0, vR 79), (1, vI (nI (x + kk)))] [] κ' Q)) → K X d MX6_run 2 [(0, vR 79), (1, vI (nI x))] [] κ Q)
    (rfg : ∀ P : Rm → Prop, (∀ σg σ2, Dg σg → HdR σg σ2 HT (nI v) (nI w) → AC X 92 ec MX13_comes [vR 92, vI (nI w), vI y, vI en, vI cl] σ2 (aRV P)) → ∃ σ1, P σ1 ∧ ∀ Q' : Res → Rm → Prop, A X 92 (e + 1) MX13_goes 0 [(0, vR 92)] [] σ1 Q' → A X 92 (e + 1) MX13_goes 0 [(0, vR 92)] [] σ Q')
    (dg : ∀ σg, Dg σg → VR σg w (pt w) ((b1, i1 + 1, j1 + 1, p1, n1, w1, L1 ++ [(0, 0, 0, 0, y0)], [], 1, 2) :: rr) ∧ aI σg 56 w = nI 2 ∧ (1 ≤ w ∧ w ≤ 60) ∧ ∀ k, 1 ≤ k → k ≤ 46 → aI σg k = aI σ0 k)
    (jn : ∀ κg σg, Cg κg → Dg σg → ∃ al1 sp1 st1 fr1 wc1 cl1, Bk κ0 σ0 κg σg b V al1 S LT HT sp1 F0 st1 fr1 pt (w :: cr) wc1 v cl1 ∧ fr1 w = (b1, i1 + 1, j1 + 1, p1, n1, w1, L1 ++ [(0, 0, 0, 0, y0)], [], 1, 2) :: rr ∧ pot V S st1 fr1 + kk ≤ pot V S st fr) : RunOK X d (e + 1) κ0 σ0 κ σ b x (HT + 2 * pot V S st fr) := by
  obtain ⟨c68, hm9⟩ := cf0
  have hlt := good_lt c68 hm9 gd1
  have hlt2 := good_lt c68 hm9 gd2
  have lj1 : j1 + 1 + 1 < 12000 := gd1.loc.2.2.2.1
  have lj2 : j2 + 1 < 12000 := gd2.loc.2.2.2.1
  have fo1 : FrO κ0 σ0 F0 b (b1, i2, j2, p1, n1, w1, L1, [], 0, 0) := ⟨hfo.1, hfo.2.1, by show 0 ≤ 1; omega, fun it hi => hfo.2.2.2.1 it (List.mem_append_left _ hi), Or.inl ⟨rfl, gd2⟩⟩
  intro Q hQ
  obtain ⟨σ1, ⟨σg, σ2, hDg, hR, ro1, vr1⟩, adv⟩ := rfg (fun σ' => ∃ σg σ2, Dg σg ∧ HdR σg σ2 HT (nI v) (nI w) ∧ Ro (pt w) (wI (wS σ2 77 (nI w)) 49 w 2) σ' ∧ VR σ' w (pt w) ((b1, i2, j2, p1, n1, w1, L1, [], 0, 0) :: rr)) (fun σg σ2 hDg hR => by
    obtain ⟨vr, h56, hw60, hco⟩ := dg σg hDg
    have e2 : ∀ k, k ≠ 83 → k ≠ 84 → k ≠ 85 → aI σ2 k = aI σg k := fun k h1 h2 h3 => (hR.1 k (by omega)).1
    have vr2 : VR σ2 w (pt w) ((b1, i1 + 1, j1 + 1, p1, n1, w1, L1 ++ [(0, 0, 0, 0, y0)], [], 1, 2) :: rr) := vr.cg1 (fun k h1 h2 => e2 k (by omega) (by omega) (by omega))
    have va : VR (wI (wS σ2 77 (nI w)) 49 w 2) w (pt w) ((b1, i1 + 1, j1 + 1, p1, n1, w1, L1 ++ [(0, 0, 0, 0, y0)], [], 1, 2) :: rr) := vr2.cg1 (fun k h1 h2 => by rw [aI_ne (by omega), aI_ne (by omega)])
    have hp12 : pt w < 12 := vr.1.1
    have h60 : rr.length + 1 ≤ 60 := vr.1.2.2.2
    have hL24 := vr.2.2.2.2.1.2.1
    have hI20 := vr.2.2.2.2.1.2.2.2.2.1
    refine ac_comesV (j := j1) (mm := 2) hw60 vr2.vx (by rw [e2 56 (by decide) (by decide) (by decide)]; exact h56) (by omega) hec (fun z => by omega) (fun _ => ⟨rfl, by omega, fun z => absurd z hen, fun _ => ?_⟩) (fun _ z => absurd rfl z)
    rw [e2 16 (by decide) (by decide) (by decide), hco 16 (by omega) (by omega), h16]
    obtain ⟨va2, ra2⟩ := va.act (i' := i1 + 1) (j' := j2) (s' := 0) (md' := 0) hI20 (by omega)
    exact ⟨σg, σ2, hDg, hR, ra2, va2.uneach (i' := i2) (s' := 0) (md' := 0) (by omega)⟩)
  refine clg Q (fun κg hCg => ?_)
  obtain ⟨al1, sp1, st1, fr1, wc1, cl1, ⟨hB, ⟨v1, v2, v3, v4, v5⟩, ⟨r1, r2, r3⟩, hch, hmd, hac, hcol⟩, hfr, hpt⟩ := jn κg σg hCg hDg
  have r1 : aI σg 54 v = nI w := r1
  have r2 : w ≤ V := r2
  obtain ⟨rw1, rwv, rw3⟩ := r3 (List.cons_ne_nil _ _)
  have rw1 : 1 ≤ w := rw1
  have rwv : w ≠ v := rwv
  have rw3 : st1 w = 3 := rw3
  obtain ⟨s1, s2, s3, s4, s5, s6, s7, s8, s9, s10, s11, s12, s13, s14, s15⟩ := hB.2.1
  obtain ⟨gg, pp1, pp2⟩ := hB.hp
  have vof := hB.2.2.1 v v1 v2
  obtain ⟨m', cf⟩ := hB.cf
  have em : m' = m := by
    have h1 := cf.2.2.1
    rw [c68] at h1
    exact ((nI_eq (by omega) (by have := cf.2.1; omega)).mp h1).symm
  subst em
  have hcl := hB.2.2.2.2.2.2 w rw1 r2
  rw [hfr] at hcl
  have vkg : VK κg w ((b1, i1 + 1, j1 + 1, p1, n1, w1, L1 ++ [(0, 0, 0, 0, y0)], [], 1, 2) :: rr) := by
    rcases hcl with ⟨z, -⟩ | ⟨-, z, -⟩
    · exact absurd z (List.cons_ne_nil _ _)
    · exact z
  have hz := (dg σg hDg).1.bd.2.2
  -- both, behind the handing
  have joint : ∀ κ1, HdC κg κ1 HT (nI v) (nI w) → Bn κ0 σ0 (cI (cI κ1 79 13 (nI w)) (1002 + 8 * w) 1 (nI 2)) (wI (wS σ2 77 (nI w)) 49 w (nI 2)) b V al1 S w sp1 0 LT (HT + 1) F0 (un st1 w 2) fr1 pt 0 ∧ VK (cI (cI κ1 79 13 (nI w)) (1002 + 8 * w) 1 (nI 2)) w ((b1, i1 + 1, j1 + 1, p1, n1, w1, L1 ++ [(0, 0, 0, 0, y0)], [], 1, 2) :: rr) ∧ CF κ0 (cI (cI κ1 79 13 (nI w)) (1002 + 8 * w) 1 (nI 2)) m' := fun κ1 hK => by
    have hb := ((hB.hand hK hR).turn (T' := w) r2).sst (n := w) (s := 2) (by omega) (by rw [rw3]; exact ⟨fun _ => by omega, fun _ => by omega⟩)
    refine ⟨hb, ?_, cf.cg (fun g h1 h2 => ?_)⟩
    · have hcl2 := hb.2.2.2.2.2.2 w rw1 r2
      rw [hfr] at hcl2
      rcases hcl2 with ⟨z, -⟩ | ⟨-, z, -⟩
      · exact absurd z (List.cons_ne_nil _ _)
      · exact z
    · obtain ⟨z1, z2, z3⟩ := hK.1.1.1 g (by omega)
      exact ⟨by rw [kI_ne (by omega), kI_ne (by omega), z1], z3⟩
  have fin : ∀ κ1 κ', HdC κg κ1 HT (nI v) (nI w) → Vo w (cI (cI κ1 79 13 (nI w)) (1002 + 8 * w) 1 (nI 2)) κ' → VK κ' w ((b1, i2, j2, p1, n1, w1, L1, [], 0, 0) :: rr) → K X d MX6_run 2 [(0, vR 79), (1, vI (nI (x + kk)))] [] κ' Q := fun κ1 κ' hK ko vk => by
    obtain ⟨hb, -, -⟩ := joint κ1 hK
    have es : ∀ k, k ≠ 49 → k ≠ 77 → k ≠ 83 → k ≠ 84 → k ≠ 85 → aI (wI (wS σ2 77 (nI w)) 49 w (nI 2)) k = aI σg k := fun k k1 k2 k3 k4 k5 => by rw [aI_ne k1, aI_ne k2, (hR.1 k (by omega)).1]
    have ek : ∀ h, h ≠ 79 → h ≠ 82 → h ≠ 83 → h ≠ 1002 + 8 * w → kI (cI (cI κ1 79 13 (nI w)) (1002 + 8 * w) 1 (nI 2)) h = kI κg h ∧ kW (cI (cI κ1 79 13 (nI w)) (1002 + 8 * w) 1 (nI 2)) h = kW κg h := fun h h1 h2 h3 h4 => by
      obtain ⟨z1, z2, z3⟩ := hK.1.1.1 h (by omega)
      exact ⟨by rw [kI_ne h4, kI_ne h1, z1], z3⟩
    have ct := cnt_st (V := V) (S := S) (n := w) (s := 2) (st := st1) (fr := fr1) ⟨rw1, r2⟩ (by omega) (by omega)
    rw [if_neg (List.cons_ne_nil _ _)] at hch
    have hch : Chan σg V w (un st1 w 2) (w :: cr) := hch
    obtain ⟨hR2, hp2⟩ := Rn.wake hb (hch.cg (es 54 (by decide) (by decide) (by decide) (by decide) (by decide)) (es 56 (by decide) (by decide) (by decide) (by decide) (by decide)) (es 57 (by decide) (by decide) (by decide) (by decide) (by decide))) (fun n n1 n2 hn => by
      rw [un_ne hn]
      exact (hmd n n1 n2).cg (congrFun (es 56 (by decide) (by decide) (by decide) (by decide) (by decide)) n) (Nat.le_refl _)) ⟨rw1, r2, un_eq, hfr, by
        rw [kI_ne (by omega), kI_nk (by decide), (hK.1.1.1 79 (by decide)).1]; exact v3⟩ ko ro1 vk vr1 ⟨rfl, fo1, hrr⟩ ⟨by rw [ct.1]; exact hac.1, by rw [ct.2]; exact hac.2.1, by rw [ct.2]; exact hac.2.2⟩ (hcol.cg (ek 84 (by omega) (by omega) (by omega) (by omega)).1 (fun h h1 h2 => ek h (by omega) (by omega) (by omega) (by omega)) (fun k k1 k2 => es k (by omega) (by omega) (by omega) (by omega) (by omega))) (Nat.zero_le _) (by
      rw [fwt_e, fwt_e, gws_app]
      omega) (fun g _ => by
      show kpl g L1 ≤ kpl g (L1 ++ [(0, 0, 0, 0, y0)])
      rw [kpl_app]
      exact Nat.le_add_right _ _) (fun it hi _ _ => List.mem_append_left _ hi)
    have hp2 : pot V S (un st1 w 2) (un fr1 w ((b1, i2, j2, p1, n1, w1, L1, [], 0, 0) :: rr)) + fwt (b1, i1 + 1, j1 + 1, p1, n1, w1, L1 ++ [(0, 0, 0, 0, y0)], [], 1, 2) = pot V S (un st1 w 2) fr1 + fwt (b1, i2, j2, p1, n1, w1, L1, [], 0, 0) := hp2
    have hwt : fwt (b1, i2, j2, p1, n1, w1, L1, [], 0, 0) + 1 ≤ fwt (b1, i1 + 1, j1 + 1, p1, n1, w1, L1 ++ [(0, 0, 0, 0, y0)], [], 1, 2) + 1 := by
      rw [fwt_e, fwt_e, gws_app]
      omega
    have hb3 := hac.2.2
    refine all _ _ _ _ _ _ _ _ _ _ _ _ _ _ _ _ _ _ hR2 (by omega) (by omega) Q (fun κ2 σ2' V2 al2 S2 LT2 HT2 sp2 F2 z2 st2 fr2 pt2 w2 dk e15 hb2 adv' => hQ κ2 σ2' V2 al2 S2 LT2 HT2 sp2 F2 z2 st2 fr2 pt2 w2 dk e15 (by omega) (fun Q' hq => adv Q' (adv' Q' hq)))
  refine kc_goBackV (V := V) (w := w) (i := i1) (κ0 := κ0) (m := m') (isH_voice v1 (by omega)) vof.1 (vof.2.2.2.2.2.1.1.trans r1) ⟨rw1, r2⟩ pp1 hB0 s1.1 s8 s9 cf vkg (by omega) h69 (by omega) (fun z => absurd z (by decide)) (fun _ _ κ1 hK => ?_) (fun _ z => absurd ⟨rfl, hhow⟩ z)
  obtain ⟨-, vka, cfa⟩ := joint κ1 hK
  refine vk_popE (j' := j2) (s' := 0) (md' := 0) vka (fun κ3 ko vk => ⟨vk.pc9, cfa.cg (fun g h1 h2 => ⟨(ko.h (h := g) (by omega) (by omega)).1, (ko.h (h := g) (by omega) (by omega)).2.2⟩), ?_⟩)
  rw [h70]
  exact fin κ1 _ hK (ko.trans (Vo.reg (by decide))) (VK.pc (b' := b1) (j' := j2) (s' := 0) (md' := 0) vk)
theorem rn_back2y {b1 i1 j1 n1 s1' m : Nat} {p1 : Int32} {w1 : Nat → Int32} {L1 : List Ite} {O1 : List Int32} {i2 j2 vv : Nat} {y0 : Int32} (h69 : kI κ0 69 i1 = 30) (hvv : vv < n1) (h14 : aI σ0 14 j1 = nI vv) (h69b : kI κ0 69 (i1 + 1) = 3) (h70b : kI κ0 70 (i1 + 1) = nI vv) (gd1 : Good2 κ0 σ0 (fun _ => False) (b1, i1 + 2, j1 + 1, (L1 ++ [(0, 0, 0, 0, y0)]).map itm, 0, 0)) (h70 : kI κ0 70 i1 = nI i2) (h16 : aI σ0 16 j1 = nI j2) (hi2 : i1 < i2) (gd2 : Good2 κ0 σ0 (fun _ => False) (b1, i2, j2, L1.map itm, 0, 0)) (hhow : how ≠ 1) (hen : en = 0)
    (all : AllOK X d (e + 1) κ0 σ0 b (pot V S st fr)) {kk : Nat} (hkk : 1 ≤ kk ∧ kk ≤ 100) (hx : x + pot V S st fr ≤ 199000000) (hd : 7 ≤ d) (hec : 1 ≤ ec) (hB0 : HT < 2000000000) (hfo : FrO κ0 σ0 F0 b (b1, i1 + 1, j1 + 1, p1, n1, w1, L1 ++ [(0, 0, 0, 0, y0)], [], 1, 2)) (hrr : ∀ h, h ∈ rr → frM h = 1 ∧ FrO κ0 σ0 F0 b h) (sta : Sta b κ0 σ0) (cf0 : kI κ0 68 2 = nI m ∧ m ≤ 9500)
    (clg : ∀ Q : Res → Km → Prop, (∀ κg, Cg κg → KC' X 5 MX6_goBack [vR 79, vR (1002 + 8 * v), vI y, vI how] κg (kRV fun κ' => K X d MX6_run 2 [(0, vR 79), (1, vI (nI (x + kk)))] [] κ' Q)) → K X d MX6_run 2 [(0, vR 79), (1, vI (nI x))] [] κ Q)
    (rfg : ∀ P : Rm → Prop, (∀ σg σ2, Dg σg → HdR σg σ2 HT (nI v) (nI w) → AC X 92 ec MX13_comes [vR 92, vI (nI w), vI y, vI en, vI cl] σ2 (aRV P)) → ∃ σ1, P σ1 ∧ ∀ Q' : Res → Rm → Prop, A X 92 (e + 1) MX13_goes 0 [(0, vR 92)] [] σ1 Q' → A X 92 (e + 1) MX13_goes 0 [(0, vR 92)] [] σ Q')
    (dg : ∀ σg, Dg σg → VR σg w (pt w) ((b1, i1 + 1, j1 + 1, p1, n1, w1, L1 ++ [(0, 0, 0, 0, y0)], [], 1, 2) :: rr) ∧ aI σg 56 w = nI 2 ∧ (1 ≤ w ∧ w ≤ 60) ∧ ∀ k, 1 ≤ k → k ≤ 46 → aI σg k = aI σ0 k)
    (jn : ∀ κg σg, Cg κg → Dg σg → ∃ al1 sp1 st1 fr1 wc1 cl1, Bk κ0 σ0 κg σg b V al1 S LT HT sp1 F0 st1 fr1 pt (w :: cr) wc1 v cl1 ∧ fr1 w = (b1, i1 + 1, j1 + 1, p1, n1, w1, L1 ++ [(0, 0, 0, 0, y0)], [], 1, 2) :: rr ∧ pot V S st1 fr1 + kk ≤ pot V S st fr) : RunOK X d (e + 1) κ0 σ0 κ σ b x (HT + 2 * pot V S st fr) := by
  obtain ⟨c68, hm9⟩ := cf0
  have hlt := good_lt c68 hm9 gd1
  have hlt2 := good_lt c68 hm9 gd2
  have lj1 : j1 + 1 + 1 < 12000 := gd1.loc.2.2.2.1
  have lj2 : j2 + 1 < 12000 := gd2.loc.2.2.2.1
  have fo1 : FrO κ0 σ0 F0 b (b1, i1 + 2, j1 + 1, p1, n1, ud w1 vv y, L1 ++ [(0, 0, 0, 0, y0)], [], 0, 0) := ⟨hfo.1, hfo.2.1, by show 0 ≤ 1; omega, hfo.2.2.2.1, Or.inl ⟨rfl, gd1⟩⟩
  intro Q hQ
  obtain ⟨σ1, ⟨σg, σ2, hDg, hR, ro1, vr1⟩, adv⟩ := rfg (fun σ' => ∃ σg σ2, Dg σg ∧ HdR σg σ2 HT (nI v) (nI w) ∧ Ro (pt w) (wI (wS σ2 77 (nI w)) 49 w 2) σ' ∧ VR σ' w (pt w) ((b1, i1 + 2, j1 + 1, p1, n1, ud w1 vv y, L1 ++ [(0, 0, 0, 0, y0)], [], 0, 0) :: rr)) (fun σg σ2 hDg hR => by
    obtain ⟨vr, h56, hw60, hco⟩ := dg σg hDg
    have e2 : ∀ k, k ≠ 83 → k ≠ 84 → k ≠ 85 → aI σ2 k = aI σg k := fun k h1 h2 h3 => (hR.1 k (by omega)).1
    have vr2 : VR σ2 w (pt w) ((b1, i1 + 1, j1 + 1, p1, n1, w1, L1 ++ [(0, 0, 0, 0, y0)], [], 1, 2) :: rr) := vr.cg1 (fun k h1 h2 => e2 k (by omega) (by omega) (by omega))
    have va : VR (wI (wS σ2 77 (nI w)) 49 w 2) w (pt w) ((b1, i1 + 1, j1 + 1, p1, n1, w1, L1 ++ [(0, 0, 0, 0, y0)], [], 1, 2) :: rr) := vr2.cg1 (fun k h1 h2 => by rw [aI_ne (by omega), aI_ne (by omega)])
    have hp12 : pt w < 12 := vr.1.1
    have h60 : rr.length + 1 ≤ 60 := vr.1.2.2.2
    have hL24 := vr.2.2.2.2.1.2.1
    have hI20 := vr.2.2.2.2.1.2.2.2.2.1
    have hn12 : n1 ≤ 12 := vr.2.2.2.2.1.1
    refine ac_comesV (j := j1) (mm := 2) hw60 vr2.vx (by rw [e2 56 (by decide) (by decide) (by decide)]; exact h56) (by omega) hec (fun z => by omega) (fun _ => ⟨rfl, by omega, fun _ => ⟨vv, ?_, by omega, ?_⟩, fun z => absurd hen z⟩) (fun _ z => absurd rfl z)
    · rw [e2 14 (by decide) (by decide) (by decide), hco 14 (by omega) (by omega), h14]
    · obtain ⟨va2, ra2⟩ := va.var (w := vv) (x := y) (i' := i1 + 2) (s' := 0) (md' := 0) (by omega) hvv
      exact ⟨σg, σ2, hDg, hR, ra2, va2⟩)
  refine clg Q (fun κg hCg => ?_)
  obtain ⟨al1, sp1, st1, fr1, wc1, cl1, ⟨hB, ⟨v1, v2, v3, v4, v5⟩, ⟨r1, r2, r3⟩, hch, hmd, hac, hcol⟩, hfr, hpt⟩ := jn κg σg hCg hDg
  have r1 : aI σg 54 v = nI w := r1
  have r2 : w ≤ V := r2
  obtain ⟨rw1, rwv, rw3⟩ := r3 (List.cons_ne_nil _ _)
  have rw1 : 1 ≤ w := rw1
  have rwv : w ≠ v := rwv
  have rw3 : st1 w = 3 := rw3
  obtain ⟨s1, s2, s3, s4, s5, s6, s7, s8, s9, s10, s11, s12, s13, s14, s15⟩ := hB.2.1
  obtain ⟨gg, pp1, pp2⟩ := hB.hp
  have vof := hB.2.2.1 v v1 v2
  obtain ⟨m', cf⟩ := hB.cf
  have em : m' = m := by
    have h1 := cf.2.2.1
    rw [c68] at h1
    exact ((nI_eq (by omega) (by have := cf.2.1; omega)).mp h1).symm
  subst em
  have hcl := hB.2.2.2.2.2.2 w rw1 r2
  rw [hfr] at hcl
  have vkg : VK κg w ((b1, i1 + 1, j1 + 1, p1, n1, w1, L1 ++ [(0, 0, 0, 0, y0)], [], 1, 2) :: rr) := by
    rcases hcl with ⟨z, -⟩ | ⟨-, z, -⟩
    · exact absurd z (List.cons_ne_nil _ _)
    · exact z
  have hz := (dg σg hDg).1.bd.2.2
  -- both, behind the handing
  have joint : ∀ κ1, HdC κg κ1 HT (nI v) (nI w) → Bn κ0 σ0 (cI (cI κ1 79 13 (nI w)) (1002 + 8 * w) 1 (nI 2)) (wI (wS σ2 77 (nI w)) 49 w (nI 2)) b V al1 S w sp1 0 LT (HT + 1) F0 (un st1 w 2) fr1 pt 0 ∧ VK (cI (cI κ1 79 13 (nI w)) (1002 + 8 * w) 1 (nI 2)) w ((b1, i1 + 1, j1 + 1, p1, n1, w1, L1 ++ [(0, 0, 0, 0, y0)], [], 1, 2) :: rr) ∧ CF κ0 (cI (cI κ1 79 13 (nI w)) (1002 + 8 * w) 1 (nI 2)) m' := fun κ1 hK => by
    have hb := ((hB.hand hK hR).turn (T' := w) r2).sst (n := w) (s := 2) (by omega) (by rw [rw3]; exact ⟨fun _ => by omega, fun _ => by omega⟩)
    refine ⟨hb, ?_, cf.cg (fun g h1 h2 => ?_)⟩
    · have hcl2 := hb.2.2.2.2.2.2 w rw1 r2
      rw [hfr] at hcl2
      rcases hcl2 with ⟨z, -⟩ | ⟨-, z, -⟩
      · exact absurd z (List.cons_ne_nil _ _)
      · exact z
    · obtain ⟨z1, z2, z3⟩ := hK.1.1.1 g (by omega)
      exact ⟨by rw [kI_ne (by omega), kI_ne (by omega), z1], z3⟩
  have fin : ∀ κ1 κ', HdC κg κ1 HT (nI v) (nI w) → Vo w (cI (cI κ1 79 13 (nI w)) (1002 + 8 * w) 1 (nI 2)) κ' → VK κ' w ((b1, i1 + 2, j1 + 1, p1, n1, ud w1 vv y, L1 ++ [(0, 0, 0, 0, y0)], [], 0, 0) :: rr) → K X d MX6_run 2 [(0, vR 79), (1, vI (nI (x + kk + 1)))] [] κ' Q := fun κ1 κ' hK ko vk => by
    obtain ⟨hb, -, -⟩ := joint κ1 hK
    have es : ∀ k, k ≠ 49 → k ≠ 77 → k ≠ 83 → k ≠ 84 → k ≠ 85 → aI (wI (wS σ2 77 (nI w)) 49 w (nI 2)) k = aI σg k := fun k k1 k2 k3 k4 k5 => by rw [aI_ne k1, aI_ne k2, (hR.1 k (by omega)).1]
    have ek : ∀ h, h ≠ 79 → h ≠ 82 → h ≠ 83 → h ≠ 1002 + 8 * w → kI (cI (cI κ1 79 13 (nI w)) (1002 + 8 * w) 1 (nI 2)) h = kI κg h ∧ kW (cI (cI κ1 79 13 (nI w)) (1002 + 8 * w) 1 (nI 2)) h = kW κg h := fun h h1 h2 h3 h4 => by
      obtain ⟨z1, z2, z3⟩ := hK.1.1.1 h (by omega)
      exact ⟨by rw [kI_ne h4, kI_ne h1, z1], z3⟩
    have ct := cnt_st (V := V) (S := S) (n := w) (s := 2) (st := st1) (fr := fr1) ⟨rw1, r2⟩ (by omega) (by omega)
    rw [if_neg (List.cons_ne_nil _ _)] at hch
    have hch : Chan σg V w (un st1 w 2) (w :: cr) := hch
    obtain ⟨hR2, hp2⟩ := Rn.wake hb (hch.cg (es 54 (by decide) (by decide) (by decide) (by decide) (by decide)) (es 56 (by decide) (by decide) (by decide) (by decide) (by decide)) (es 57 (by decide) (by decide) (by decide) (by decide) (by decide))) (fun n n1 n2 hn => by
      rw [un_ne hn]
      exact (hmd n n1 n2).cg (congrFun (es 56 (by decide) (by decide) (by decide) (by decide) (by decide)) n) (Nat.le_refl _)) ⟨rw1, r2, un_eq, hfr, by
        rw [kI_ne (by omega), kI_nk (by decide), (hK.1.1.1 79 (by decide)).1]; exact v3⟩ ko ro1 vk vr1 ⟨rfl, fo1, hrr⟩ ⟨by rw [ct.1]; exact hac.1, by rw [ct.2]; exact hac.2.1, by rw [ct.2]; exact hac.2.2⟩ (hcol.cg (ek 84 (by omega) (by omega) (by omega) (by omega)).1 (fun h h1 h2 => ek h (by omega) (by omega) (by omega) (by omega)) (fun k k1 k2 => es k (by omega) (by omega) (by omega) (by omega) (by omega))) (Nat.zero_le _) (by
      rw [fwt_e, fwt_e]
      omega) (fun g _ => Nat.le_refl _) (fun it hi _ _ => hi)
    have hp2 : pot V S (un st1 w 2) (un fr1 w ((b1, i1 + 2, j1 + 1, p1, n1, ud w1 vv y, L1 ++ [(0, 0, 0, 0, y0)], [], 0, 0) :: rr)) + fwt (b1, i1 + 1, j1 + 1, p1, n1, w1, L1 ++ [(0, 0, 0, 0, y0)], [], 1, 2) = pot V S (un st1 w 2) fr1 + fwt (b1, i1 + 2, j1 + 1, p1, n1, ud w1 vv y, L1 ++ [(0, 0, 0, 0, y0)], [], 0, 0) := hp2
    have hwt : fwt (b1, i1 + 2, j1 + 1, p1, n1, ud w1 vv y, L1 ++ [(0, 0, 0, 0, y0)], [], 0, 0) + 2 ≤ fwt (b1, i1 + 1, j1 + 1, p1, n1, w1, L1 ++ [(0, 0, 0, 0, y0)], [], 1, 2) + 1 := by
      rw [fwt_e, fwt_e]
      omega
    have hb3 := hac.2.2
    refine all _ _ _ _ _ _ _ _ _ _ _ _ _ _ _ _ _ _ hR2 (by omega) (by omega) Q (fun κ2 σ2' V2 al2 S2 LT2 HT2 sp2 F2 z2 st2 fr2 pt2 w2 dk e15 hb2 adv' => hQ κ2 σ2' V2 al2 S2 LT2 HT2 sp2 F2 z2 st2 fr2 pt2 w2 dk e15 (by omega) (fun Q' hq => adv Q' (adv' Q' hq)))
  have hn12 : n1 ≤ 12 := (dg σg hDg).1.2.2.2.2.1.1
  refine kc_goBackV (V := V) (w := w) (i := i1) (κ0 := κ0) (m := m') (isH_voice v1 (by omega)) vof.1 (vof.2.2.2.2.2.1.1.trans r1) ⟨rw1, r2⟩ pp1 hB0 s1.1 s8 s9 cf vkg (by omega) h69 (by omega) (fun z => absurd z (by decide)) (fun _ z => absurd z hhow) (fun _ _ κ1 hK => ?_)
  obtain ⟨hb, vka, cfa⟩ := joint κ1 hK
  have hz : tsz 0 ((b1, i1 + 1, j1 + 1, p1, n1, w1, L1 ++ [(0, 0, 0, 0, y0)], [], 1, 2) :: rr) ≤ 15720 := hz
  have hz2 : tsz 0 rr + (4 + n1 + psz (L1 ++ [(0, 0, 0, 0, y0)]) + 0) ≤ 15720 := hz
  refine vk_push (b' := b1) (j' := j1 + 1) (s' := 1) (md' := 0) vka (by omega) (fun κ2 ko vk => ?_)
  have es : ∀ k, k ≠ 49 → k ≠ 77 → k ≠ 83 → k ≠ 84 → k ≠ 85 → aI (wI (wS σ2 77 (nI w)) 49 w (nI 2)) k = aI σg k := fun k k1 k2 k3 k4 k5 => by rw [aI_ne k1, aI_ne k2, (hR.1 k (by omega)).1]
  have hch2 := hch
  rw [if_neg (List.cons_ne_nil _ _)] at hch2
  have hch2 : Chan σg V w (un st1 w 2) (w :: cr) := hch2
  have rm := hb.rm (hch2.cg (es 54 (by decide) (by decide) (by decide) (by decide) (by decide)) (es 56 (by decide) (by decide) (by decide) (by decide) (by decide)) (es 57 (by decide) (by decide) (by decide) (by decide) (by decide)))
  have rm2 := rm.vo (fs := (b1, i1 + 1, j1 + 1, p1, n1, w1, L1 ++ [(0, 0, 0, 0, y0)], [] ++ [y], 1, 0) :: rr) ⟨rw1, r2⟩ ko (Ro.refl (p := pt w)) (by rw [hfr]; exact List.cons_ne_nil _ _) (List.cons_ne_nil _ _)
  refine rm2.act (i := i1 + 1) (a := 3) (C := fun κ' => Vo w (cI (cI κ1 79 13 (nI w)) (1002 + 8 * w) 1 (nI 2)) κ' ∧ VK κ' w ((b1, i1 + 2, j1 + 1, p1, n1, ud w1 vv y, L1 ++ [(0, 0, 0, 0, y0)], [], 0, 0) :: rr)) (by rw [(ko.h (h := 79) (by omega) (by omega)).1, kI_ne (by omega), kI_nk (by decide), (hK.1.1.1 79 (by decide)).1]; exact v3) ⟨rw1, r2⟩ vk (by rw [c68, lt_nI (by omega) (by omega)]; omega) (by omega) (by omega) (by omega) (by decide) h69b (fun κ4 vo4 vk4 => ⟨4, by omega, by
    rw [h70b]
    exact wk_store vk4 (by
      show tsz 0 rr + (4 + n1 + psz (L1 ++ [(0, 0, 0, 0, y0)]) + 0) ≤ 16000
      omega) hvv (fun κ5 vo5 vk5 => ⟨rfl, (ko.trans vo4).trans vo5, vk5⟩)⟩) Q (fun κ5 hc5 => fin κ1 κ5 hK hc5.1 hc5.2)
end BACKV
