/-! the turn is given: the relation -/
section GIVES3
variable {X : Cx} {d e er : Nat} {κ0 κ κa κb κc κ1 κ' : Km} {σ0 σ σa σc σr σ1 σ' : Rm} {b V al S T sp z LT HT F0 v p n x q g k s1 sc kn nw a0 j2 : Nat} {st : Nat → Nat} {fr fr' : Nat → List Frm} {pt : Nat → Nat} {fs fs0 r rr : List Frm} {y u arg fm0 : Int32} {f1 : Frm}
theorem cn_mono {g g' : Nat → Nat} : ∀ m, (∀ n, 1 ≤ n → n ≤ m → g n ≤ g' n) → cn g m ≤ cn g' m := by
  intro m
  induction m with
  | zero => intro _; exact Nat.le_refl _
  | succ m ih =>
    intro h
    show cn g m + g (m + 1) ≤ cn g' m + g' (m + 1)
    have h1 := ih (fun n h1 h2 => h n h1 (by omega))
    have h2 := h (m + 1) (by omega) (Nat.le_refl _)
    omega
/-- what the new calls of a voice must be -/
def GvN (κ0 : Km) (σ0 : Rm) (F0 b : Nat) (s1 : Nat) (fs0 fs : List Frm) : Prop := ∃ f r, fs = f :: r ∧ (frM f = 0 ∧ FrO κ0 σ0 F0 b f ∧ ∀ h, h ∈ r → frM h = 1 ∧ FrO κ0 σ0 F0 b h) ∧ vA 2 fs ≤ vA s1 fs0 ∧ vW 2 fs ≤ vW s1 fs0 ∧ (∀ y, kps y fs = kps y fs0) ∧ ∀ f0 it, f0 ∈ fs → it ∈ frL f0 → ∃ f2, f2 ∈ fs0 ∧ it ∈ frL f2
theorem giv_of (a : Bn κ0 σ0 κ σ b V al S T sp z LT HT F0 st fr pt 0) (hn : 1 ≤ n ∧ n ≤ V) (hs : st n ≤ 1) (hm : ∀ m, 1 ≤ m → m ≤ V → fr m ≠ [] → st m < 4) (md : Md κ0 σ0 σ F0 b n (st n) (fr n)) :
    ∃ sc arg kn nw a0 j2 p, GivK κ0 κ b HT n sp (st n) sc arg (fr n) ∧ GivR σ0 σ HT n p (st n) sc arg (fr n) ∧ BdA κ0 σ0 b sc kn nw a0 j2 ∧ (∀ y, ∃ fs, GvF (st n) (fr n) y (cal0 sc a0 j2 nw kn arg) fs ∧ GvN κ0 σ0 F0 b (st n) (fr n) fs) ∧ (st n = 1 → p = pt n) ∧ (st n = 0 → fr n = [] ∧ cn (hasF fr) V < 12) := by
  obtain ⟨⟨⟨k1, k2, k3⟩, sta, rg⟩, ⟨s1, s2, s3, s4, s5, s6, s7, s8, s9, s10, s11, s12, s13, s14, s15⟩, a5, hrows, a8, a9, a10⟩ := a
  obtain ⟨r1, r2, r3, r4, r5, r6⟩ := hrows
  obtain ⟨v1, ⟨v2, v2b, v3⟩, ⟨sc, c1, c2, c3, c4⟩, v4, -, -, -, -, -⟩ := a5 n hn.1 hn.2
  obtain ⟨⟨t1, t2, t3, t4, t5⟩, ⟨m, m1, m2, -⟩, -, tb⟩ := id sta
  obtain ⟨ks, kn, nw, a0, j2, q1, q2, q3, q4, q5, ⟨w2, w4, w5, w6, -⟩, ⟨u1, u2, u3, u4⟩, a9', j9, gd2⟩ := tb sc c1
  have hks : ks = 1 := by
    rw [(k3 19 (by omega) (by omega)).1, u1] at c4
    exact (nI_eq (b := 1) (by omega) (by omega)).mp c4
  have hb : BdA κ0 σ0 b sc kn nw a0 j2 := ⟨⟨c1, t4, q3 hks, q5, a9', j9⟩, ⟨t1, w4, w5, w6⟩, ⟨u2, u3, u4⟩, gd2⟩
  have h8 : ∀ k, kI κ (1000 + 8 * sc) k = kI κ0 (1000 + 8 * sc) k := fun k => by rw [(k1 (1000 + 8 * sc) (Or.inr (Or.inr (by omega)))).1]
  have h67 : kI κ 67 2 = kI κ0 67 2 := by rw [(k1 67 (Or.inr (Or.inl (by omega)))).1]
  obtain ⟨g1, pp1, pp2⟩ := a8.2.1
  have hcl := a10 n hn.1 hn.2
  have hw := hcl.wid
  by_cases cs : st n = 0
  · -- it begins
    have hf : fr n = [] := by
      rcases md with ⟨-, z⟩ | ⟨z, -⟩
      · exact z
      · omega
    have hc : cn (hasF fr) V < 12 := by
      have e1 := cn_up (g := aliv st) (g' := un (aliv st) n 0) (n := n) (fun k hk => un_ne hk) V hn.1 hn.2
      rw [un_eq] at e1
      have e2 : aliv st n = 1 := if_pos (by omega)
      have e3 : cn (hasF fr) V ≤ cn (un (aliv st) n 0) V := cn_mono V (fun m m1 m2 => by
        by_cases c : m = n
        · rw [c, un_eq, hasF_nil hf]
          exact Nat.le_refl _
        · rw [un_ne c]
          by_cases c2 : fr m = []
          · rw [hasF_nil c2]; exact Nat.zero_le _
          · rw [hasF_one c2, show aliv st m = 1 from if_pos (hm m m1 m2 c2)]
            exact Nat.le_refl _)
      omega
    obtain ⟨p, p1, p2, p3⟩ := free_part (κ := κ) (al := al) (sp := sp) (st := st) (pt := pt) ⟨r1, r2, r3, r4, r5, r6⟩ hc
    refine ⟨sc, aI σ 51 n, kn, nw, a0, j2, p, ⟨⟨g1, pp1⟩, ⟨v1, v2, c2, v4⟩, ⟨h67, by rw [k2.1]; exact t5, h8⟩, ⟨hn.1, by omega, by omega⟩, fun z => by omega, fun _ => ?_⟩, ⟨⟨g1, pp2⟩, ⟨v2b, c3, rfl⟩, ⟨(k3 20 (by omega) (by omega)).1, (k3 23 (by omega) (by omega)).1⟩, fun z => by omega, fun _ => ⟨p1, p2, p3⟩⟩, hb, fun y => ⟨[cal0 sc a0 j2 nw kn (aI σ 51 n)], Or.inl ⟨cs, rfl⟩, _, [], rfl, ⟨rfl, ⟨c1, u3, Nat.zero_le _, fun x hx => absurd hx List.not_mem_nil, Or.inl ⟨rfl, gd2⟩⟩, fun h hh => absurd hh List.not_mem_nil⟩, ?_, ?_, fun y => ?_, fun f0 it hf0 hi => ?_⟩, fun z => by omega, fun _ => ⟨hf, hc⟩⟩
    · rcases hcl with ⟨z1, z2, z3, z4⟩ | ⟨z1, -⟩
      · exact ⟨by rw [cel3]; exact z2, z4, s6, s14, fun z => by have := (r3 (sp - 1) (by omega)).1 (by omega); omega⟩
      · exact absurd hf z1
    · rw [cs, hf]
      show 0 + 0 + 0 ≤ 0 + 1
      omega
    · rw [cs, hf, vW_pos (by omega), fws_cons]
      show (9600 - a0) + 22000 * 0 + 0 + 0 ≤ 0 + 9800
      omega
    · rw [hf]
      rfl
    · rw [List.mem_singleton.mp hf0] at hi
      exact absurd hi List.not_mem_nil
  · -- at a yield
    have cs1 : st n = 1 := by omega
    rcases md with ⟨z, -⟩ | ⟨-, mm, mf, mf1, -⟩
    · omega
    · have em := mf1 cs1
      subst em
      rcases hcl with ⟨z, -⟩ | ⟨z1, vk, vr, z4⟩
      · exact absurd z mf.ne
      · have vr : VR σ n (pt n) (fr n) := vr.elim id (fun z => absurd z.1 (by omega))
        have hbd := vr.bd
        cases hfn : fr n with
        | nil => exact absurd hfn z1
        | cons f r =>
          rw [hfn] at mf vr vk hbd
          obtain ⟨bd, i, j, pl, nv, vs, L, O, s, md0⟩ := f
          obtain ⟨e1, fo, e3⟩ := mf
          have e1 : md0 = 1 := e1
          subst e1
          obtain ⟨o1, o2, o3, o4, o5⟩ := fo
          obtain ⟨gd, hs1, hO1, hi9⟩ : Good2 κ0 σ0 (fun _ => False) (bd, i, j, L.map itm, O.length + 1, 1) ∧ s = 1 ∧ O.length < 150 ∧ i < 9500 := by
            rcases o5 with ⟨z, _⟩ | ⟨_, hs1, _, gd⟩ | ⟨z, _⟩ | ⟨z, _⟩
            · exact absurd z (show ¬ (1 : Nat) = 0 by decide)
            · obtain ⟨-, -, -, -, -, l6, -⟩ := gd.loc
              have l6 : O.length + 1 ≤ 150 := l6
              have : i < m := good_lt m1 m2 gd
              exact ⟨gd, hs1, by omega, by omega⟩
            · exact absurd z (show ¬ (1 : Nat) = 2 by decide)
            · exact absurd z (show ¬ (1 : Nat) = 3 by decide)
          subst hs1
          have hrl : r.length + 1 ≤ 60 := vr.1.2.2.2
          refine ⟨sc, aI σ 51 n, kn, nw, a0, j2, pt n, ⟨⟨g1, pp1⟩, ⟨v1, v2, c2, v4⟩, ⟨h67, by rw [k2.1]; exact t5, h8⟩, ⟨hn.1, by omega, by omega⟩, fun _ => vk, fun z => by omega⟩, ⟨⟨g1, pp2⟩, ⟨v2b, c3, rfl⟩, ⟨(k3 20 (by omega) (by omega)).1, (k3 23 (by omega) (by omega)).1⟩, fun _ => vr, fun z => by omega⟩, hb, fun y => ⟨(bd, i, j, pl, nv, vs, L, O ++ [y], 1, 0) :: r, Or.inr ⟨cs1, bd, i, j, pl, nv, vs, L, O, r, rfl, rfl, hi9, hO1, by omega, by omega⟩, _, r, rfl, ⟨rfl, ⟨o1, o2, o3, o4, Or.inl ⟨rfl, ?_⟩⟩, e3⟩, ?_, ?_, fun y => rfl, fun f0 it hf0 hi => ?_⟩, fun _ => rfl, fun z => by omega⟩
          · show Good2 κ0 σ0 (fun _ => False) (bd, i, j, L.map itm, (O ++ [y]).length, 1)
            rw [List.length_append]
            exact gd
          · rw [cs1, vA_pos (by omega), vA_pos (by omega)]
            exact Nat.le_refl _
          · rw [cs1, vW_pos (by omega), vW_pos (by omega)]
            exact Nat.le_refl _
          · rcases List.mem_cons.mp hf0 with e | hf0
            · rw [e] at hi
              exact ⟨_, List.mem_cons_self .., hi⟩
            · exact ⟨f0, List.mem_cons_of_mem _ hf0, hi⟩
theorem Bn.give (h : Bn κ0 σ0 κ σ b V al S T sp z LT HT F0 st fr pt 0) (hn : 1 ≤ n ∧ n ≤ V) (hs : st n ≤ 1) (hk : GvC κ κ' HT n sp (st n) fm0 fs) (hr : GvR σ σ' HT n p (st n) fm0 fs) (h1 : st n = 1 → p = pt n ∧ fr n ≠ []) (h0 : st n = 0 → (fr n = [] ∧ cn (hasF fr) V < 12) ∧ p < 12 ∧ aI σ 59 p = 0) (hne : fs ≠ []) : ∃ sp', Bn κ0 σ0 κ' σ' b V al S n sp' z LT (HT + 1) F0 (un st n 2) (un fr n fs) (un pt n p) 0 := by
  obtain ⟨κ1, κ3, hd, hc, vk, rfl⟩ := hk
  obtain ⟨σ1, hdr, hcr, vr⟩ := hr
  have a1 := (h.hand hd hdr).turn (T' := n) hn.2
  have a2 : Bn κ0 σ0 (cI (cI κ1 79 13 (nI n)) (1002 + 8 * n) 1 2) (wI (wS σ1 77 (nI n)) 49 n 2) b V al S n sp z LT (HT + 1) F0 (un st n 2) fr pt 0 := a1.sst (n := n) (s := 2) (by omega) (by omega)
  have vk2 : VK (cI κ3 (1002 + 8 * n) 1 2) n fs := vk.reg (by decide)
  rcases hc with ⟨c1, vo⟩ | ⟨c0, bf⟩
  · obtain ⟨e1, e2⟩ := h1 c1
    subst e1
    rcases hcr with ⟨-, ro⟩ | ⟨z, -⟩
    · have h59 : aI σ 59 (pt n) = 1 := by
        rcases h.2.2.2.2.2.2 n hn.1 hn.2 with ⟨z, -⟩ | ⟨-, -, -, z⟩
        · exact absurd z e2
        · exact z
      refine ⟨sp, ?_⟩
      rw [un_self]
      exact a2.loc (x' := 0) hn (Or.inl rfl) (Vo.par vo) ro vk2 (Or.inl vr) (by rw [aI_ne (by decide), aI_ne (by decide), (hdr.1 59 (by decide)).1]; exact h59) e2 hne
    · omega
  · obtain ⟨⟨e1, e2⟩, e3, e4⟩ := h0 c0
    rcases hcr with ⟨z, -⟩ | ⟨-, ro⟩
    · omega
    · exact ⟨sp - 1, a2.beg hn e1 e2 bf.par e3 (by rw [aI_ne (by decide), aI_ne (by decide), (hdr.1 59 (by decide)).1]; exact e4) ro vk2 vr hne⟩
end GIVES3
