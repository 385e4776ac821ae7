/-! try: handlers, guards, segments -/
section TRY
variable {N b P : Nat} {κ κ0 κn κj κk κb κd κ' κF : Km} {σ σ0 σn σj σk σb σd σ' σF : Rm}
/-- many loops at once -/
theorem Good2.set {A Z : Pt → Prop} (h : ∀ z, Z z → Good1 κF σF (fun y => A y ∨ Z y) z) {x : Pt} (g : Good2 κF σF (fun y => A y ∨ Z y) x) : Good2 κF σF A x := by
  refine ⟨Good2 κF σF (fun y => A y ∨ Z y), fun y hy => ?_, g⟩
  rcases hy.un with (c | c) | c
  · exact Or.inl c
  · exact Or.inr (h y c)
  · exact Or.inr c
/-- one catch, from its handler to the next -/
def C1 (κ : Km) (σ : Rm) (W : Pt → Prop) (b : Nat) (L : List Itm) (t h0 c h h' : Nat) : Prop := kI κ 69 h = 41 ∧ ((kI κ 70 h = -1 ∧ aI σ 30 c = -9) ∨ ∃ x, x < 1000000000 ∧ kI κ 70 h = nI x ∧ aI σ 30 c = nI x) ∧ (∃ v, v < nvB σ b ∧ aI σ 31 c = nI v ∧ kI κ 69 (h + 2) = 3 ∧ kI κ 70 (h + 2) = nI v) ∧ (∃ jc, aI σ 32 c = nI jc ∧ W (b, h + 3, jc, L ++ [(1, t, h0, 1)], 0, 0)) ∧ aI σ 33 c = nI (ccn L) ∧ kI κ 70 (h + 1) = nI h' ∧ h < h'
/-- the first catches of a try -/
def Chp (κ : Km) (σ : Rm) (W : Pt → Prop) (b : Nat) (L : List Itm) (t h0 : Nat) : List Nat → Nat → Nat → Prop
  | [], h, e => h = e
  | c :: cs, h, e => ∃ h', C1 κ σ W b L t h0 c h h' ∧ Chp κ σ W b L t h0 cs h' e
theorem Chp.app {W : Pt → Prop} {L : List Itm} {t h0 c e e' : Nat} (x : C1 κ σ W b L t h0 c e e') : ∀ (cs : List Nat) (h : Nat), Chp κ σ W b L t h0 cs h e → Chp κ σ W b L t h0 (cs ++ [c]) h e' := by
  intro cs
  induction cs with
  | nil =>
    intro h hh
    have hh : h = e := hh
    subst hh
    exact ⟨e', x, rfl⟩
  | cons d cs ih =>
    rintro h ⟨h', a, r⟩
    exact ⟨h', a, ih h' r⟩
theorem Chp.chn {W : Pt → Prop} {L : List Itm} {t h0 e : Nat} (x : Chn κ σ W b L t h0 [] e) : ∀ (cs : List Nat) (h : Nat), Chp κ σ W b L t h0 cs h e → Chn κ σ W b L t h0 cs h := by
  intro cs
  induction cs with
  | nil =>
    intro h hh
    have hh : h = e := hh
    rw [hh]
    exact x
  | cons d cs ih =>
    rintro h ⟨h', ⟨a1, a2, a3, a4, a5, a6, a7⟩, r⟩
    exact ⟨a1, a2, a3, a4, a5, h', a6, a7, ih h' r⟩
/-- a guard stands around -/
theorem HL.guard {W : Pt → Prop} {L : List Itm} {t h0 ph : Nat} (h : HL κF σF W b L) (ht : t < 1000) (hp : ph ≤ 2) (hd : ph < 2 → Hd κF σF W b L t h0) : HL κF σF W b (L ++ [(1, t, h0, ph)]) := by
  intro L0 t' g ph' r e
  rcases List.eq_nil_or_concat r with rfl | ⟨r', x, rfl⟩
  · have e2 := List.append_inj_left' e rfl
    have e3 := List.append_inj_right' e rfl
    have e4 : ((1, t, h0, ph) : Itm) = (1, t', g, ph') := (List.cons.inj e3).1
    have e5 : t = t' := congrArg (fun z : Itm => z.2.1) e4
    have e6 : h0 = g := congrArg (fun z : Itm => z.2.2.1) e4
    have e7 : ph = ph' := congrArg (fun z : Itm => z.2.2.2) e4
    subst e2 e5 e6 e7
    exact ⟨ht, hp, hd⟩
  · have e1 : L ++ [(1, t, h0, ph)] = (L0 ++ (1, t', g, ph') :: r') ++ [x] := by rw [e]; simp
    have e2 := List.append_inj_left' e1 rfl
    exact h L0 t' g ph' r' e2
theorem GC.guard {A : Pt → Prop} {L : List Itm} {t h0 ph : Nat} (h : GC κF σF A b L) (hl : L.length + 1 ≤ 24) (ht : t < 1000) (hp : ph ≤ 2) (hd : ph < 2 → Hd κF σF (Good2 κF σF A) b L t h0) : GC κF σF A b (L ++ [(1, t, h0, ph)]) := ⟨by rw [List.length_append]; exact hl, h.2.guard ht hp hd⟩
/-- the rows are still there, but for the arguments of the JUMPs that leave, which are e now -/
def Agl (lv : List Nat) (e : Nat) (κ1 : Km) (σ1 : Rm) (κ2 : Km) (σ2 : Rm) (κ' : Km) (σ' : Rm) : Prop :=
  (∀ k, iC κ1 ≤ k → k < iC κ2 → kI κ' 69 k = kI κ2 69 k ∧ (k ∉ lv → kI κ' 70 k = kI κ2 70 k)) ∧ (∀ q, rJ σ1 ≤ q → q < rJ σ2 → aI σ' 13 q = aI σ2 13 q ∧ aI σ' 14 q = aI σ2 14 q ∧ aI σ' 15 q = aI σ2 15 q ∧ aI σ' 16 q = aI σ2 16 q) ∧
  (∀ u, rU σ1 ≤ u → u < rU σ2 → aI σ' 42 u = aI σ2 42 u ∧ aI σ' 43 u = aI σ2 43 u) ∧ (∀ u, rA σ1 ≤ u → u < rA σ2 → aI σ' 38 u = aI σ2 38 u ∧ aI σ' 39 u = aI σ2 39 u ∧ aI σ' 40 u = aI σ2 40 u) ∧
  (∀ t, rT σ1 < t → t < rT σ2 → aI σ' 27 t = aI σ2 27 t ∧ aI σ' 28 t = aI σ2 28 t) ∧ (∀ c, rC σ1 ≤ c → c < rC σ2 → aI σ' 30 c = aI σ2 30 c ∧ aI σ' 31 c = aI σ2 31 c ∧ aI σ' 32 c = aI σ2 32 c ∧ aI σ' 33 c = aI σ2 33 c ∧ aI σ' 45 c = aI σ2 45 c) ∧ ∀ k, k ∈ lv → kI κ' 70 k = nI e
theorem Agl.sub {lv : List Nat} {e : Nat} (h : Agl lv e κ σ κn σn κ' σ') (t1 : T0 b κ σ κk σk) (hT : rT σ < rT σk) (t2 : T0 b κb σb κn σn) (ag : Agr κk σk κb σb κn σn) (hl : ∀ k, k ∈ lv → k < iC κk ∨ iC κb ≤ k) : Agr κk σk κb σb κ' σ' := by
  obtain ⟨h1, h2, h3, h4, h5, h6, h7⟩ := h
  obtain ⟨-, -, -, s1, s2, s3, s4, s5, s6⟩ := t1
  obtain ⟨-, -, -, e1, e2, e3, e4, e5, e6⟩ := t2
  obtain ⟨g1, g2, g3, g4, g5, g6⟩ := ag
  refine ⟨fun k l1 l2 => ?_, fun k l1 l2 => ?_, fun k l1 l2 => ?_, fun k l1 l2 => ?_, fun k l1 l2 => ?_, fun k l1 l2 => ?_⟩
  · have x := g1 k l1 l2
    have y := h1 k (by omega) (by omega)
    have hk : k ∉ lv := fun z => by have := hl k z; omega
    exact ⟨y.1.trans x.1, (y.2 hk).trans x.2⟩
  · have x := g2 k l1 l2
    have y := h2 k (by omega) (by omega)
    exact ⟨y.1.trans x.1, y.2.1.trans x.2.1, y.2.2.1.trans x.2.2.1, y.2.2.2.trans x.2.2.2⟩
  · have x := g3 k l1 l2
    have y := h3 k (by omega) (by omega)
    exact ⟨y.1.trans x.1, y.2.trans x.2⟩
  · have x := g4 k l1 l2
    have y := h4 k (by omega) (by omega)
    exact ⟨y.1.trans x.1, y.2.1.trans x.2.1, y.2.2.trans x.2.2⟩
  · have x := g5 k l1 l2
    have y := h5 k (by omega) (by omega)
    exact ⟨y.1.trans x.1, y.2.trans x.2⟩
  · have x := g6 k l1 l2
    have y := h6 k (by omega) (by omega)
    exact ⟨y.1.trans x.1, y.2.1.trans x.2.1, y.2.2.1.trans x.2.2.1, y.2.2.2.1.trans x.2.2.2.1, y.2.2.2.2.trans x.2.2.2.2⟩
theorem Agl.back {lv : List Nat} {e p : Nat} (h : Agl (p :: lv) e κ σ κj σj κ' σ') (t : Tr b κn σn κj σj) (hp : iC κn ≤ p) : Agl lv e κ σ κn σn κ' σ' := by
  obtain ⟨h1, h2, h3, h4, h5, h6, h7⟩ := h
  obtain ⟨-, -, ⟨b1, b2, b3, b4, b5, b6, b7, b8, b9, b10, b11, b12⟩, -⟩ := t
  refine ⟨fun k l1 l2 => ?_, fun k l1 l2 => ?_, fun k l1 l2 => ?_, fun k l1 l2 => ?_, fun k l1 l2 => ?_, fun k l1 l2 => ?_, fun k hk => h7 k (List.mem_cons_of_mem _ hk)⟩
  · have x := b7 k l2
    have y := h1 k l1 (by omega)
    refine ⟨y.1.trans x.1, fun hk => (y.2 (fun z => ?_)).trans x.2⟩
    rcases List.mem_cons.mp z with z | z
    · omega
    · exact hk z
  · have x := b8 k l2
    have y := h2 k l1 (by omega)
    exact ⟨y.1.trans x.1, y.2.1.trans x.2.1, y.2.2.1.trans x.2.2.1, y.2.2.2.trans x.2.2.2⟩
  · have x := b9 k l2
    have y := h3 k l1 (by omega)
    exact ⟨y.1.trans x.1, y.2.trans x.2⟩
  · have x := b10 k l2
    have y := h4 k l1 (by omega)
    exact ⟨y.1.trans x.1, y.2.1.trans x.2.1, y.2.2.trans x.2.2⟩
  · have x := b11 k l2
    have y := h5 k l1 (by omega)
    exact ⟨y.1.trans x.1, y.2.trans x.2⟩
  · have x := b12 k l2
    have y := h6 k l1 (by omega)
    exact ⟨y.1.trans x.1, y.2.1.trans x.2.1, y.2.2.1.trans x.2.2.1, y.2.2.2.1.trans x.2.2.2.1, y.2.2.2.2.trans x.2.2.2.2⟩
/-- catches behind: of this try, or of later ones -/
def Lt (t : Nat) (σ1 σ' : Rm) : Prop := ∀ c, rC σ1 ≤ c → c < rC σ' → ∃ u, aI σ' 45 c = nI u ∧ (u = t ∨ rT σ1 ≤ u) ∧ u < 1000
/-- the end of the handlers -/
def Ex (κF : Km) (σF : Rm) (A : Pt → Prop) (b : Nat) (L : List Itm) (t h0 e : Nat) : Prop := (kI κF 69 e = 43 ∧ ∃ jf, aI σF 27 t = nI jf ∧ Good2 κF σF A (b, e + 1, jf, L ++ [(1, t, h0, 2)], 0, 0)) ∨ (kI κF 69 e = 44 ∧ aI σF 27 t = -9 ∧ ∃ jb, aI σF 28 t = nI jb ∧ Good2 κF σF A (b, e + 1, jb, L, 0, 0))
theorem Ex.weak {A A' : Pt → Prop} {L : List Itm} {t h0 e : Nat} (ha : ∀ y, A y → A' y) (h : Ex κF σF A b L t h0 e) : Ex κF σF A' b L t h0 e := by
  rcases h with ⟨a, jf, c, d⟩ | ⟨a, c, jb, d, g⟩
  · exact Or.inl ⟨a, jf, c, d.weak ha⟩
  · exact Or.inr ⟨a, c, jb, d, g.weak ha⟩
theorem leave_g {k j t h0 ph e : Nat} {L : List Itm} {A : Pt → Prop} (hb : b < 12) (hi : k < 9900) (hj : j < 11990) (o : kI κF 69 k = 15 ∧ nI k < kI κF 68 2 ∧ kI κF 70 k = nI e ∧ aI σF 13 j = 29 ∧ aI σF 14 j = nI t) (hlt : k < e) (hp : ph < 2) (hg : GC κF σF A b (L ++ [(1, t, h0, ph)])) (x : Ex κF σF A b L t h0 e) : Good1 κF σF A (b, k, j, L ++ [(1, t, h0, ph)], 0, 0) :=
  mkG hb hi o.2.1 hj (by omega) hg (Or.inr (Or.inr (Or.inr (Or.inr (Or.inr (Or.inr (Or.inr (Or.inr (Or.inr (Or.inr (Or.inr (Or.inr (Or.inr (Or.inr (Or.inr (Or.inr (Or.inr (Or.inr (Or.inr (Or.inl ⟨rfl, o.1, o.2.2.2.1, L, t, h0, ph, e, rfl, hp, o.2.2.2.2, o.2.2.1, hlt, x⟩))))))))))))))))))))
/-- what the catches read so far say of any end -/
def CS (b : Nat) (κ : Km) (σ : Rm) (h0 : Nat) (κn : Km) (σn : Rm) (lv : List Nat) : Prop :=
  ∀ (e : Nat) (κ' : Km) (σ' : Rm) (κF : Km) (σF : Rm) (vr br : Nat → Nat → Prop), Fnc σF vr br b → Ext κF σF vr br b κ σ κ' σ' → T0 b κn σn κ' σ' → Agl lv e κ σ κn σn κ' σ' → Lt (rT σ) σn σ' → iC κn ≤ e → rT σ' ≤ 1000 → ∀ L : List Itm, ecn L = rE σ → ccn L = rK σ → L.length + 1 ≤ oC κ →
    ∃ (cs : List Nat) (Z : Pt → Prop), cs.Pairwise (· < ·) ∧ (∀ c, c ∈ cs ↔ (rC σ ≤ c ∧ c < rC σn ∧ aI σ' 45 c = nI (rT σ))) ∧ cs.length ≤ rC σn - rC σ ∧ (∀ W : Pt → Prop, (∀ z, Z z → W z) → Chp κF σF W b L (rT σ) h0 cs h0 (iC κn)) ∧ ∀ A : Pt → Prop, GC κF σF A b (L ++ [(1, rT σ, h0, 1)]) → Ex κF σF A b L (rT σ) h0 e → ∀ z, Z z → Good1 κF σF A z
theorem cs_nil {lv : List Nat} (tcB : Tc σk σ0) (ck : rC σk = rC σ) (tk : rT σk = rT σ + 1) (hT : rT σ < 1000) : CS b κ σ (iC κ0) κ0 σ0 lv := by
  intro e κ' σ' κF σF vr br hf he t' ag lt hie h1000 L l1 l2 l3
  refine ⟨[], fun _ => False, List.Pairwise.nil, fun c => ⟨fun z => absurd z (List.not_mem_nil), fun ⟨c1, c2, c3⟩ => ?_⟩, Nat.zero_le _, fun W _ => rfl, fun A _ _ z hz => hz.elim⟩
  obtain ⟨u, u1, u2, u3, u4⟩ := tcB c (by omega) c2
  have e2 := (ag.2.2.2.2.2.1 c c1 c2).2.2.2.2
  have := (nI_eq (a := rT σ) (b := u) (by omega) (by omega)).mp (c3.symm.trans (e2.trans u1))
  omega
theorem cs_step {h0 v tok : Nat} {lv : List Nat} {y x30 : Int32} (cs : CS b κ σ h0 κn σn lv) (tn : T0 b κ σ κn σn) (tcN : Tc σ σn) (hT : rT σ < rT σn) (trn : Tr b κn σn κj σj) (tnk : T0 b κn σn κk σk) (blk : ST N b P 0 κk σk κb σb) (tbj : T0 b κb σb κj σj) (agB : Agr κk σk κb σb κj σj) (lvb : ∀ k, k ∈ lv → k < iC κn)
    (ik : iC κk = iC κn + 3) (ck : rC σk = rC σn + 1) (tk : rT σk = rT σn) (ij : iC κj = iC κb + 1) (jj : rJ σj = rJ σb + 1) (cj : rC σj = rC σb) (tj : rT σj = rT σb) (ok : oC κk = oC κ) (ek : rE σk = rE σ) (kk : rK σk = rK σ + 1) (hib : iC κb < 9900) (hjb : rJ σb < 11990)
    (o1 : kI κj 69 (iC κn) = 41 ∧ kI κj 70 (iC κn) = y) (o2 : kI κj 69 (iC κn + 1) = 42 ∧ kI κj 70 (iC κn + 1) = nI (iC κj)) (o3 : kI κj 69 (iC κn + 2) = 3 ∧ kI κj 70 (iC κn + 2) = -1 - nI tok)
    (oc : aI σj 30 (rC σn) = x30 ∧ aI σj 31 (rC σn) = nI v ∧ aI σj 32 (rC σn) = nI (rJ σk) ∧ aI σj 33 (rC σn) = nI (rK σ) ∧ aI σj 45 (rC σn) = nI (rT σ)) (oj : kI κj 69 (iC κb) = 15 ∧ aI σj 13 (rJ σb) = 29 ∧ aI σj 14 (rJ σb) = nI (rT σ))
    (num : (y = -1 ∧ x30 = -9) ∨ ∃ x, x < 1000000000 ∧ y = nI x ∧ x30 = nI x) (nf : cV κd b ≤ rV σd) (td : T0 b κd σd κj σj) (u13 : rV σd = cV κd b → VnR κd b tok v) (ht : tok < 3001) : CS b κ σ h0 κj σj (iC κb :: lv) := by
  have lB := blk.2.1.2.2.1.1
  have lB2 := blk.2.1.2.2.1.2.1
  have lB3 := blk.2.1.2.2.1.2.2.1
  have lB4 := blk.2.1.2.2.1.2.2.2.1
  intro e κ' σ' κF σF vr br hf he t' ag lt hie h1000 L l1 l2 l3
  have tn1 := tn.2.2.2.1
  have tn2 := tn.2.2.2.2.1
  have tn4 := tn.2.2.2.2.2.2.1
  have nk2 := tnk.2.2.2.2.1
  have f1 := t'.2.2.2.1
  have f2 := t'.2.2.2.2.1
  have f3 := t'.2.2.2.2.2.1
  have f4 := t'.2.2.2.2.2.2.1
  have agN : Agl lv e κ σ κn σn κ' σ' := ag.back trn (by omega)
  have row45 : ∀ c, rC σ ≤ c → c < rC σj → aI σ' 45 c = aI σj 45 c := fun c d1 d2 => (ag.2.2.2.2.2.1 c d1 d2).2.2.2.2
  have new45 : aI σ' 45 (rC σn) = nI (rT σ) := (row45 _ tn4 (by omega)).trans oc.2.2.2.2
  have blk45 : ∀ c, rC σk ≤ c → c < rC σb → ∃ u, aI σ' 45 c = nI u ∧ rT σk ≤ u ∧ u < rT σb ∧ u < 1000 := fun c d1 d2 => by
    obtain ⟨u, u1, u2, u3, u4⟩ := blk.2.2.1.1 c d1 d2
    exact ⟨u, (row45 c (by omega) (by omega)).trans ((agB.2.2.2.2.2 c d1 d2).2.2.2.2.trans u1), u2, u3, u4⟩
  have old45 : ∀ c, rC σ ≤ c → c < rC σn → ∃ u, aI σ' 45 c = nI u ∧ rT σ ≤ u ∧ u < rT σn ∧ u < 1000 := fun c d1 d2 => by
    obtain ⟨u, u1, u2, u3, u4⟩ := tcN c d1 d2
    exact ⟨u, (agN.2.2.2.2.2.1 c d1 d2).2.2.2.2.trans u1, u2, u3, u4⟩
  have ltN : Lt (rT σ) σn σ' := fun c d1 d2 => by
    by_cases c1 : c = rC σn
    · subst c1
      exact ⟨_, new45, Or.inl rfl, by omega⟩
    · by_cases c2 : c < rC σb
      · obtain ⟨u, u1, u2, u3, u4⟩ := blk45 c (by omega) c2
        exact ⟨u, u1, Or.inr (by omega), u4⟩
      · obtain ⟨u, u1, u2, u3⟩ := lt c (by omega) d2
        exact ⟨u, u1, by omega, u3⟩
  obtain ⟨cs, Z, z1, z2, z2b, z3, z4⟩ := cs e κ' σ' κF σF vr br hf he (trn.t0.trans t') agN ltN (by omega) h1000 L l1 l2 l3
  have agB' : Agr κk σk κb σb κ' σ' := ag.sub (tn.trans tnk) (by omega) tbj agB (fun k hk => by
    rcases List.mem_cons.mp hk with z | z
    · omega
    · have := lvb k z; omega)
  have heB : Ext κF σF vr br b κk σk κb σb := he.mid (tn.trans tnk) (tbj.trans t') agB' (fun c u d1 d2 d3 d4 d5 d6 => by
    by_cases c1 : c < rC σn
    · obtain ⟨w, w1, w2, w3, w4⟩ := old45 c d1 c1
      have := (nI_eq (a := u) (b := w) (by omega) (by omega)).mp (d4.symm.trans w1)
      omega
    · by_cases c2 : c = rC σn
      · subst c2
        have := (nI_eq (a := u) (b := rT σ) (by omega) (by omega)).mp (d4.symm.trans new45)
        omega
      · by_cases c3 : c < rC σb
        · exact ⟨by omega, c3⟩
        · obtain ⟨w, w1, w2, w3⟩ := lt c (by omega) d2
          have := (nI_eq (a := u) (b := w) (by omega) (by omega)).mp (d4.symm.trans w1)
          omega) (by omega) blk.1.1.2.2.2.2.cv
  have nin : ∀ k, iC κn ≤ k → k < iC κb → k ∉ iC κb :: lv := fun k d1 d2 z => by
    rcases List.mem_cons.mp z with z | z
    · omega
    · have := lvb k z; omega
  have r1 := ag.1 (iC κn) (by omega) (by omega)
  have r2 := ag.1 (iC κn + 1) (by omega) (by omega)
  have r3 := ag.1 (iC κn + 2) (by omega) (by omega)
  have r4 := ag.1 (iC κb) (by omega) (by omega)
  have x1 := he.1 (iC κn) (by omega) (by omega)
  have x2 := he.1 (iC κn + 1) (by omega) (by omega)
  have x4 := he.1 (iC κb) (by omega) (by omega)
  rw [r1.1, r1.2 (nin _ (by omega) (by omega)), o1.1, o1.2] at x1
  rw [r2.1, r2.2 (nin _ (by omega) (by omega)), o2.1, o2.2] at x2
  rw [r4.1, ag.2.2.2.2.2.2 _ (List.mem_cons_self), oj.1] at x4
  have st := store_ext (κd := κd) (σd := σd) (t := tok) (v := v) (i := iC κn + 2) hf he nf (td.trans t').2.2.1 ((td.trans t').1.1.1 76 np76).2.1 u13 ht (by omega) (by omega) (r3.1.trans o3.1) ((r3.2 (nin _ (by omega) (by omega))).trans o3.2)
  have x3 := (he.1 (iC κn + 2) (by omega) (by omega)).1.trans (r3.1.trans o3.1)
  have q4 := he.2.1 (rJ σb) (by omega) (by omega)
  have p4 := ag.2.1 (rJ σb) (by omega) (by omega)
  rw [p4.1, p4.2.1, oj.2.1, oj.2.2] at q4
  have yc := he.2.2.2.2.2.1 (rC σn) tn4 (by omega)
  have pc := ag.2.2.2.2.2.1 (rC σn) tn4 (by omega)
  rw [pc.1, pc.2.1, pc.2.2.1, pc.2.2.2.1, pc.2.2.2.2, oc.1, oc.2.1, oc.2.2.1, oc.2.2.2.1, oc.2.2.2.2] at yc
  refine ⟨cs ++ [rC σn], fun z => Z z ∨ z = (b, iC κn + 3, rJ σk, L ++ [(1, rT σ, h0, 1)], 0, 0), ?_, fun c => ?_, ?_, fun W hW => ?_, fun A hg hx z hz => ?_⟩
  · refine List.pairwise_append.mpr ⟨z1, List.pairwise_singleton _ _, fun x hx w hw => ?_⟩
    have hw : w = rC σn := List.mem_singleton.mp hw
    have := (z2 x).mp hx
    omega
  · rw [List.mem_append, z2, List.mem_singleton]
    constructor
    · rintro (⟨d1, d2, d3⟩ | rfl)
      · exact ⟨d1, by omega, d3⟩
      · exact ⟨tn4, by omega, new45⟩
    · rintro ⟨d1, d2, d3⟩
      by_cases c1 : c < rC σn
      · exact Or.inl ⟨d1, c1, d3⟩
      · by_cases c2 : c = rC σn
        · exact Or.inr c2
        · obtain ⟨w, w1, w2, w3, w4⟩ := blk45 c (by omega) (by omega)
          have := (nI_eq (a := rT σ) (b := w) (by omega) (by omega)).mp (d3.symm.trans w1)
          omega
  · rw [List.length_append]
    show cs.length + 1 ≤ _
    omega
  · refine Chp.app ?_ cs h0 (z3 W (fun z hz => hW z (Or.inl hz)))
    refine ⟨x1.1, ?_, ⟨v, st.1, yc.2.1, x3, st.2⟩, ⟨rJ σk, yc.2.2.1, hW _ (Or.inr rfl)⟩, by rw [yc.2.2.2.1, l2], x2.2.2.1 (by decide) (by decide) (by decide) (by decide), by omega⟩
    rw [x1.2.2.1 (by decide) (by decide) (by decide) (by decide), yc.1]
    exact num
  · rcases hz with hz | rfl
    · exact z4 A hg hx z hz
    · have ecL : ecn (L ++ [(1, rT σ, h0, 1)]) = rE σk := by rw [ecn_app]; show ecn L + (0 + 0) = _; omega
      have ccL : ccn (L ++ [(1, rT σ, h0, 1)]) = rK σk := by rw [ccn_app]; show ccn L + (1 + 0) = _; omega
      have lenL : (L ++ [((1, rT σ, h0, 1) : Itm)]).length = L.length + 1 := by rw [List.length_append]; rfl
      have gl := leave_g (κF := κF) (σF := σF) (k := iC κb) (j := rJ σb) (ph := 1) (e := e) hf.1 hib hjb ⟨x4.1, x4.2.1, x4.2.2.1 (by decide) (by decide) (by decide) (by decide), q4.1, q4.2.2.2 (by decide) (by decide) (by decide)⟩ (by omega) (by decide) hg hx
      have gB := (blk.2.2.2.1 κF σF vr br hf heB A _ ecL ccL (by omega) hg).2 gl
      rw [ik] at gB
      exact gB
/-- the whole statement -/
theorem try_ss {lv : List Nat} (hi : iC κ < 9000) (hj : rJ σ < 9900) (ho : oC κ ≤ 24) (t1 : T0 b κ σ κk σk) (blk : ST N b P 0 κk σk κb σb) (tb0 : T0 b κb σb κ0 σ0) (tr0 : Tr b κ0 σ0 κn σn) (agB : Agr κk σk κb σb κ0 σ0)
    (ik : iC κk = iC κ + 2) (jk : rJ σk = rJ σ + 2) (ck : rC σk = rC σ) (tk : rT σk = rT σ + 1) (i0 : iC κ0 = iC κb + 1) (j0 : rJ σ0 = rJ σb + 1) (c0 : rC σ0 = rC σb) (t0 : rT σ0 = rT σb) (ok : oC κk = oC κ) (ek : rE σk = rE σ) (kk : rK σk = rK σ) (hib : iC κb < 9900) (hjb : rJ σb < 11990)
    (o1 : kI κ0 69 (iC κ) = 20 ∧ kI κ0 70 (iC κ) = kI κ 72 8 ∧ aI σ0 13 (rJ σ) = 0 ∧ aI σ0 14 (rJ σ) = kI κ 72 8) (o2 : kI κ0 69 (iC κ + 1) = 40 ∧ kI κ0 70 (iC κ + 1) = nI (iC κ0) ∧ aI σ0 13 (rJ σ + 1) = 28 ∧ aI σ0 14 (rJ σ + 1) = nI (rT σ)) (oj : kI κ0 69 (iC κb) = 15 ∧ aI σ0 13 (rJ σb) = 29 ∧ aI σ0 14 (rJ σb) = nI (rT σ))
    (cs : CS b κ σ (iC κ0) κn σn lv) (tcN : Tc σ σn) (ltN : Lt (rT σ) σ0 σn) (lvb : ∀ k, k ∈ lv → k < iC κn ∧ iC κb ≤ k) (hlv : iC κb ∈ lv) (tF : T0 b κn σn κ' σ') (ag : Agl lv (iC κn) κ σ κn σn κ' σ') (ltF : ∀ c, rC σn ≤ c → c < rC σ' → ∃ u, aI σ' 45 c = nI u ∧ rT σn ≤ u ∧ u < rT σ' ∧ u < 1000) (h1000 : rT σ' ≤ 1000 ∧ rC σ' ≤ 1000)
    (hex : ∀ (κF : Km) (σF : Rm) (vr br : Nat → Nat → Prop), Fnc σF vr br b → Ext κF σF vr br b κ σ κ' σ' → ∀ (A : Pt → Prop) (L : List Itm), ecn L = rE σ → ccn L = rK σ → L.length + 1 ≤ oC κ → GC κF σF A b L → Good2 κF σF A (b, iC κ', rJ σ', L, 0, 0) → Ex κF σF A b L (rT σ) (iC κ0) (iC κn)) : SS b 1 κ σ κ' σ' ∧ Tc σ σ' := by
  have lB := blk.2.1.2.2.1.1
  have lB2 := blk.2.1.2.2.1.2.1
  have lB3 := blk.2.1.2.2.1.2.2.1
  have lB4 := blk.2.1.2.2.1.2.2.2.1
  have g1 := tr0.2.2.1.1
  have g2 := tr0.2.2.1.2.1
  have g3 := tr0.2.2.1.2.2.1
  have g4 := tr0.2.2.1.2.2.2.1
  have f1 := tF.2.2.2.1
  have f2 := tF.2.2.2.2.1
  have f3 := tF.2.2.2.2.2.1
  have f4 := tF.2.2.2.2.2.2.1
  have hT : rT σ < 1000 := by omega
  have row45 : ∀ c, rC σ ≤ c → c < rC σn → aI σ' 45 c = aI σn 45 c := fun c d1 d2 => (ag.2.2.2.2.2.1 c d1 d2).2.2.2.2
  refine ⟨SS.one fun κF σF vr br hf he A L l1 l2 l3 hg g => ?_, fun c d1 d2 => ?_⟩
  · have ltF' : Lt (rT σ) σn σ' := fun c d1 d2 => by
      obtain ⟨u, u1, u2, u3, u4⟩ := ltF c d1 d2
      exact ⟨u, u1, Or.inr u2, u4⟩
    obtain ⟨cs, Z, z1, z2, z2b, z3, z4⟩ := cs (iC κn) κ' σ' κF σF vr br hf he tF ag ltF' (Nat.le_refl _) h1000.1 L l1 l2 l3
    have ex := hex κF σF vr br hf he A L l1 l2 l3 hg g
    have wk : ∀ y, A y → (A y ∨ Z y) := fun y hy => Or.inl hy
    have ex1 := ex.weak wk
    have hg1 := hg.weak wk
    have hd : Hd κF σF (Good2 κF σF fun y => A y ∨ Z y) b L (rT σ) (iC κ0) := by
      refine ⟨cs, z1, fun c => ⟨fun hc => ?_, fun ⟨d1, d2, d3⟩ => ?_⟩, by omega, Chp.chn ?_ cs _ (z3 _ (fun z hz => Good2.of (Or.inr hz)))⟩
      · obtain ⟨d1, d2, d3⟩ := (z2 c).mp hc
        have e6 := he.2.2.2.2.2.1 c d1 (by omega)
        exact ⟨e6.2.2.2.2.2, by omega, e6.2.2.2.2.1.trans d3⟩
      · obtain ⟨w1, w2⟩ := he.2.2.2.2.2.2.1 c (rT σ) d2 d1 (Nat.le_refl _) (by omega) d3
        have e6 := he.2.2.2.2.2.1 c w1 w2
        have d4 : aI σ' 45 c = nI (rT σ) := e6.2.2.2.2.1.symm.trans d3
        refine (z2 c).mpr ⟨w1, ?_, d4⟩
        by_cases c1 : c < rC σn
        · exact c1
        · obtain ⟨u, u1, u2, u3, u4⟩ := ltF c (by omega) w2
          have := (nI_eq (a := rT σ) (b := u) (by omega) (by omega)).mp (d4.symm.trans u1)
          omega
      · rcases ex1 with ⟨a, jf, c, d⟩ | ⟨a, c, -⟩
        · exact Or.inl ⟨a, jf, c, d⟩
        · exact Or.inr ⟨a, c, by have := Int32.toNatClampNeg_lt (kI κn 68 2); unfold iC; omega⟩
    have hl24 : L.length + 1 ≤ 24 := by omega
    have good : ∀ z, Z z → Good1 κF σF (fun y => A y ∨ Z y) z := z4 _ (hg1.guard hl24 hT (by decide) (fun _ => hd)) ex1
    have hg0 : GC κF σF (fun y => A y ∨ Z y) b (L ++ [(1, rT σ, iC κ0, 0)]) := hg1.guard hl24 hT (by decide) (fun _ => hd)
    have agB' : Agr κk σk κb σb κ' σ' := ag.sub t1 (by omega) (tb0.trans tr0.t0) (agB.tw tr0.2.2.1 tb0) (fun k hk => by have := lvb k hk; omega)
    have heB : Ext κF σF vr br b κk σk κb σb := he.mid t1 (tb0.trans (tr0.t0.trans tF)) agB' (fun c u d1 d2 d3 d4 d5 d6 => by
      by_cases c1 : c < rC σb
      · exact ⟨by omega, c1⟩
      · by_cases c2 : c < rC σn
        · obtain ⟨w, w1, w2, w3⟩ := ltN c (by omega) c2
          have := (nI_eq (a := u) (b := w) (by omega) (by omega)).mp (d4.symm.trans ((row45 c d1 c2).trans w1))
          omega
        · obtain ⟨w, w1, w2, w3, w4⟩ := ltF c (by omega) d2
          have := (nI_eq (a := u) (b := w) (by omega) (by omega)).mp (d4.symm.trans w1)
          omega) (by omega) blk.1.1.2.2.2.2.cv
    have ko : ∀ k, k < iC κ0 → kI κn 69 k = kI κ0 69 k ∧ kI κn 70 k = kI κ0 70 k := tr0.2.2.1.2.2.2.2.2.2.1
    have ro : ∀ k, k < rJ σ0 → aI σn 13 k = aI σ0 13 k ∧ aI σn 14 k = aI σ0 14 k := fun k hk => by
      have e := tr0.2.2.1.2.2.2.2.2.2.2.1 k hk
      exact ⟨e.1, e.2.1⟩
    have nin : ∀ k, k < iC κb → k ∉ lv := fun k hk z => by have := lvb k z; omega
    have r1 := ag.1 (iC κ) (Nat.le_refl _) (by omega)
    have r2 := ag.1 (iC κ + 1) (by omega) (by omega)
    have r4 := ag.1 (iC κb) (by omega) (by omega)
    have s1 := ag.2.1 (rJ σ) (Nat.le_refl _) (by omega)
    have s2 := ag.2.1 (rJ σ + 1) (by omega) (by omega)
    have s4 := ag.2.1 (rJ σb) (by omega) (by omega)
    have k1 := ko (iC κ) (by omega)
    have k2 := ko (iC κ + 1) (by omega)
    have k4 := ko (iC κb) (by omega)
    have j1 := ro (rJ σ) (by omega)
    have j2 := ro (rJ σ + 1) (by omega)
    have j4 := ro (rJ σb) (by omega)
    have w1 := own5 (κ := κ) (σ := σ) he (k := iC κ) (j := rJ σ) (Nat.le_refl _) (by omega) (Nat.le_refl _) (by omega) (r1.1.trans (k1.1.trans o1.1)) ((r1.2 (nin _ (by omega))).trans (k1.2.trans o1.2.1)) (s1.1.trans (j1.1.trans o1.2.2.1)) (s1.2.1.trans (j1.2.trans o1.2.2.2)) (by decide) (by decide)
    have w2 := own5 (κ := κ) (σ := σ) he (k := iC κ + 1) (j := rJ σ + 1) (by omega) (by omega) (by omega) (by omega) (r2.1.trans (k2.1.trans o2.1)) ((r2.2 (nin _ (by omega))).trans (k2.2.trans o2.2.1)) (s2.1.trans (j2.1.trans o2.2.2.1)) (s2.2.1.trans (j2.2.trans o2.2.2.2)) (by decide) (by decide)
    have w4 := own5 (κ := κ) (σ := σ) he (k := iC κb) (j := rJ σb) (by omega) (by omega) (by omega) (by omega) (r4.1.trans (k4.1.trans oj.1)) (ag.2.2.2.2.2.2 _ hlv) (s4.1.trans (j4.1.trans oj.2.1)) (s4.2.1.trans (j4.2.trans oj.2.2)) (by decide) (by decide)
    have ecL : ecn (L ++ [(1, rT σ, iC κ0, 0)]) = rE σk := by rw [ecn_app]; show ecn L + (0 + 0) = _; omega
    have ccL : ccn (L ++ [(1, rT σ, iC κ0, 0)]) = rK σk := by rw [ccn_app]; show ccn L + (0 + 0) = _; omega
    have lenL : (L ++ [((1, rT σ, iC κ0, 0) : Itm)]).length = L.length + 1 := by rw [List.length_append]; rfl
    have gl := leave_g (κF := κF) (σF := σF) (k := iC κb) (j := rJ σb) (ph := 0) (e := iC κn) hf.1 hib hjb w4 (by omega) (by decide) hg0 ex1
    have gB := (blk.2.2.2.1 κF σF vr br hf heB _ _ ecL ccL (by omega) hg0).1 gl.two
    have gB2 := Good2.set good gB
    rw [ik, jk] at gB2
    have gT : Good2 κF σF A (b, iC κ + 1, rJ σ + 1, L, 0, 1) := (mkG hf.1 (by omega) w2.2.1 (by omega) (by omega) hg (Or.inr (Or.inr (Or.inr (Or.inr (Or.inr (Or.inr (Or.inr (Or.inr (Or.inr (Or.inr (Or.inr (Or.inr (Or.inr (Or.inr (Or.inr (Or.inr (Or.inr (Or.inr (Or.inl ⟨rfl, rfl, w2.1, w2.2.2.2.1, rT σ, iC κ0, w2.2.2.2.2, w2.2.2.1, by omega, hT, gB2⟩)))))))))))))))))))).two
    exact step_g hf.1 (by omega) (by omega) w1 hg gT
  · by_cases c1 : c < rC σn
    · obtain ⟨u, u1, u2, u3, u4⟩ := tcN c d1 c1
      exact ⟨u, (row45 c d1 c1).trans u1, u2, by omega, u4⟩
    · obtain ⟨u, u1, u2, u3, u4⟩ := ltF c (by omega) d2
      exact ⟨u, u1, by omega, u3, u4⟩
/-- no finally -/
theorem ex_no {t h0 : Nat} {A : Pt → Prop} {L : List Itm} {vr br : Nat → Nat → Prop} (he : Ext κF σF vr br b κ σ κ' σ') (g : Good2 κF σF A (b, iC κ', rJ σ', L, 0, 0)) (k1 : iC κ ≤ iC κn) (k2 : iC κ' = iC κn + 1) (t1 : rT σ ≤ t) (t2 : t < rT σ') (o : kI κ' 69 (iC κn) = 44 ∧ aI σ' 27 t = -9 ∧ aI σ' 28 t = nI (rJ σ')) : Ex κF σF A b L t h0 (iC κn) := by
  have x := he.1 (iC κn) k1 (by omega)
  have y := he.2.2.2.2.1 t t1 t2
  rw [k2] at g
  exact Or.inr ⟨x.1.trans o.1, y.1.trans o.2.1, rJ σ', y.2.trans o.2.2, g⟩
/-- a finally -/
theorem ex_fin {t h0 : Nat} {A : Pt → Prop} {L : List Itm} {vr br : Nat → Nat → Prop} (hf : Fnc σF vr br b) (he : Ext κF σF vr br b κ σ κ' σ') (hg : GC κF σF A b L) (g : Good2 κF σF A (b, iC κ', rJ σ', L, 0, 0)) (l1 : ecn L = rE σ) (l2 : ccn L = rK σ) (l3 : L.length + 1 ≤ oC κ) (ho : oC κ ≤ 24) (tA : T0 b κ σ κk σk) (blk : ST N b P 0 κk σk κb σb) (tF : T0 b κb σb κ' σ') (agB : Agr κk σk κb σb κ' σ') (k1 : iC κ ≤ iC κn) (ik : iC κk = iC κn + 1) (k2 : iC κ' = iC κb + 1) (j2 : rJ σ' = rJ σb + 1) (hT : t < 1000) (t1 : rT σ ≤ t) (t2 : t < rT σ') (ok : oC κk = oC κ) (ek : rE σk = rE σ) (kk : rK σk = rK σ) (hib : iC κb < 9900) (hjb : rJ σb < 11990) (h1000 : rT σ' ≤ 1000)
    (iso : ∀ c u, rC σ ≤ c → c < rC σ' → u < 1000 → aI σ' 45 c = nI u → rT σk ≤ u → u < rT σb → rC σk ≤ c ∧ c < rC σb) (o : kI κ' 69 (iC κn) = 43 ∧ aI σ' 27 t = nI (rJ σk) ∧ aI σ' 28 t = nI (rJ σ')) (oe : kI κ' 69 (iC κb) = 45 ∧ aI σ' 13 (rJ σb) = 30 ∧ aI σ' 14 (rJ σb) = nI t) : Ex κF σF A b L t h0 (iC κn) := by
  have lB := blk.2.1.2.2.1.1
  have lB2 := blk.2.1.2.2.1.2.1
  have f3 := tF.2.2.2.2.2.1
  have a1 := tA.2.2.2.1
  have a2 := tA.2.2.2.2.1
  have x := he.1 (iC κn) k1 (by omega)
  have y := he.2.2.2.2.1 t t1 t2
  have heB : Ext κF σF vr br b κk σk κb σb := he.mid tA tF agB iso (by omega) blk.1.1.2.2.2.2.cv
  have w := own5 (κ := κ) (σ := σ) he (k := iC κb) (j := rJ σb) (by omega) (by omega) (by omega) (by omega) oe.1 rfl oe.2.1 oe.2.2 (by decide) (by decide)
  have hg2 : GC κF σF A b (L ++ [(1, t, h0, 2)]) := hg.guard (by omega) hT (by decide) (fun z => absurd z (by decide))
  have ecL : ecn (L ++ [(1, t, h0, 2)]) = rE σk := by rw [ecn_app]; show ecn L + (0 + 0) = _; omega
  have ccL : ccn (L ++ [(1, t, h0, 2)]) = rK σk := by rw [ccn_app]; show ccn L + (0 + 0) = _; omega
  have lenL : (L ++ [((1, t, h0, 2) : Itm)]).length = L.length + 1 := by rw [List.length_append]; rfl
  rw [k2] at g
  have ge : Good2 κF σF A (b, iC κb, rJ σb, L ++ [(1, t, h0, 2)], 0, 0) := (mkG hf.1 hib w.2.1 hjb (by omega) hg2 (Or.inr (Or.inr (Or.inr (Or.inr (Or.inr (Or.inr (Or.inr (Or.inr (Or.inr (Or.inr (Or.inr (Or.inr (Or.inr (Or.inr (Or.inr (Or.inr (Or.inr (Or.inr (Or.inr (Or.inr (Or.inl ⟨rfl, w.1, w.2.2.2.1, L, t, h0, rJ σ', rfl, w.2.2.2.2, y.2.trans o.2.2, g⟩)))))))))))))))))))))).two
  have gB := (blk.2.2.2.1 κF σF vr br hf heB A _ ecL ccL (by omega) hg2).1 ge
  rw [ik] at gB
  exact Or.inl ⟨x.1.trans o.1, rJ σk, y.1.trans o.2.1, gB⟩
end TRY
