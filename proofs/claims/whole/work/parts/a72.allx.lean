/-! A FAILURE THAT IS RAISED GOES ITS WAY IN BOTH; acts that fail -/
section ALLX
variable {X : Cx} {d e er : Nat} {κ0 κ κa κb κ' : Km} {σ0 σ σa σ1 σ' : Rm} {b V al S T sp z LT HT F0 v p n x q s r0 g k : Nat} {st : Nat → Nat} {fr fr' : Nat → List Frm} {pt : Nat → Nat} {fs r : List Frm} {ch cr : List Nat} {w : Nat → Nat} {f f' : Frm} {y u val vo pl ca : Int32} {C : Km → Prop} {D : Rm → Prop} {G : Rm → Prop}
theorem rx_all (h : Rx κ0 σ0 κ σ b V al S LT HT sp F0 st fr pt ch w v f r g) (all : AllOK X d e κ0 σ0 b (pot V S st fr)) (allx : AllX X d e κ0 σ0 b (pot V S st fr)) (hx : x + pot V S st fr ≤ 199000000) (hd : 7 ≤ d) (her : 5 * ch.length ≤ er) : RunX X d e er κ0 σ0 κ σ b x (HT + 2 * pot V S st fr) v g (pt v) := by
  obtain ⟨cr, hcr⟩ := h.2.1.head h.2.2.2.1.1
  have hle : 5 ≤ er := by rw [hcr] at her; have : (v :: cr).length = cr.length + 1 := rfl; omega
  obtain ⟨bd, i, j, pl, nv, vs, L, O, s, md⟩ := f
  rcases split_G L with hg | ⟨L0, it, Es, e1, e2, e3⟩
  · cases r with
    | cons f1 r1 => exact rx_A h allx hx hd her (by omega) hg
    | nil =>
      have dec : (aI σ 57 v = 0 ∨ aI σ 89 g ≠ 14) ∨ (aI σ 57 v = 1 ∧ aI σ 89 g = 14) := by
        obtain ⟨a, -, -, ⟨b1, b2, -⟩, -⟩ := h
        obtain ⟨cl, cl1, cl2, cl3⟩ := (a.2.2.1 v b1 b2).2.2.2.2.2.2.2.2
        by_cases c9 : aI σ 89 g = 14
        · have hc : cl = 0 ∨ cl = 1 := by omega
          rcases hc with z | z
          · left; left; rw [cl3, z]; rfl
          · right; exact ⟨by rw [cl3, z]; rfl, c9⟩
        · exact Or.inl (Or.inr c9)
      cases cr with
      | nil =>
        subst hcr
        rcases dec with z | z
        · exact rx_B0 h hx hd hle hg z
        · exact rx_BC0 h hx hd hle hg z.1 z.2
      | cons q0 cr0 =>
        subst hcr
        rcases dec with z | z
        · exact rx_BN h allx hx hd her hg z
        · exact rx_BCV h all hx hd hle hg z.1 z.2
  · subst e1
    have hi := h.2.2.2.2.1.1.2.2.2.1 it (List.mem_append_right _ (List.mem_cons_self ..))
    obtain ⟨k1, t, h0, ph, u⟩ := it
    rcases hi with z | ⟨z1, z2, z3⟩
    · exact absurd z e2
    · have z1 : k1 = 1 := z1
      subst z1
      by_cases c : ph < 2
      · exact rx_D h all allx hx hd her (by omega) e3 c
      · exact rx_C h allx hx hd her (by omega) e3 (by omega)
theorem AllOK.le {P P' : Nat} (h : AllOK X d e κ0 σ0 b P) (hP : P' ≤ P) : AllOK X d e κ0 σ0 b P' := fun κ σ V al S LT HT sp F0 st fr pt ch w v f r x hR hp hx => h κ σ V al S LT HT sp F0 st fr pt ch w v f r x hR (by omega) hx
theorem allx_ok (hd : 7 ≤ d) : ∀ P, AllOK X d e κ0 σ0 b P → AllX X d e κ0 σ0 b P := by
  intro P
  induction P with
  | zero => intro _ κ σ V al S LT HT sp F0 st fr pt ch w v f r g x er _ hp; omega
  | succ P ih =>
    intro all κ σ V al S LT HT sp F0 st fr pt ch w v f r g x er h hp hx her
    have a1 : AllOK X d e κ0 σ0 b (pot V S st fr) := all.le (by omega)
    have a2 : AllX X d e κ0 σ0 b (pot V S st fr) := fun κ σ V al S LT HT sp F0 st fr pt ch w v f r g x er h' hp' hx' her' => ih (all.le (by omega)) κ σ V al S LT HT sp F0 st fr pt ch w v f r g x er h' (by omega) hx' her'
    exact rx_all h a1 a2 hx hd her
/-- an act of v fails: f' is its call, with nothing under way -/
theorem Rn.fail (h : Rn κ0 σ0 κ σ b V al S LT HT sp F0 st fr pt ch w v f r) (hs : frS f = 1) (ko : Vo v κ κa) (ro : Ro (pt v) σ σa) (vk : VK κa v (f' :: r)) (vr : VR σa v (pt v) (f' :: r)) (fx : FrX κ0 σ0 F0 b f') (hs' : frS f' = 0) (hL : frL f' = frL f) (hk14 : k ≤ 14) (hc : ca = -9 ∨ ∃ c, c < F0 ∧ ca = nI c ∧ w c = 0) (fc : FmC κa κb F0 (nI k) val vo pl (fm ca)) :
    Rx κ0 σ0 (cI κb 79 14 (nI (F0 + 1))) (flS σa F0 (nI k) val vo pl ca) b V al S LT HT sp (F0 + 1) st (un fr v (f' :: r)) pt ch (un w F0 (F0 + 1)) v f' r F0 ∧ pot V S st (un fr v (f' :: r)) < pot V S st fr := by
  obtain ⟨a, c, m⟩ := h.bn (x := 0)
  obtain ⟨-, ⟨b1, b2, b3, b4, b5⟩, ⟨c1, c2, c3⟩, ⟨d1, d2, d3⟩, acc, col⟩ := h
  have hne : fr v ≠ [] := by rw [b4]; exact List.cons_ne_nil _ _
  have e1 := arm_un (V := V) (st := st) (fr := fr) (fs := f' :: r) ⟨b1, b2⟩
  have e2 := pot_un (V := V) (S := S) (st := st) (fr := fr) (fs := f' :: r) ⟨b1, b2⟩
  rw [b4, arm_cons, arm_cons, hs, hs'] at e1
  rw [b4, fws_cons, fws_cons] at e2
  have ew : fwt f' + 12000 ≤ fwt f := by
    show (9600 - frI f') + 22000 * frS f' + gws (frL f') + 12000 ≤ (9600 - frI f) + 22000 * frS f + gws (frL f)
    rw [hs, hs', hL]
    omega
  obtain ⟨ac1, ac2, ac3⟩ := acc
  have hS := a.2.1.2.2.2.2.2.2.2.2.2.2.2.1
  have hV := a.2.1.2.2.2.2.2.2.2.1
  have hF : F0 < 7900 := by omega
  have aB := a.loc (x' := 0) ⟨b1, b2⟩ (Or.inl rfl) ko ro vk (Or.inl vr) c3 hne (List.cons_ne_nil _ _)
  have ca' : fok F0 ca := hc.imp id (fun ⟨c, h1, h2, _⟩ => ⟨c, h1, h2⟩)
  have aC := aB.fmk hF hk14 ca' fc
  have aD : Bn κ0 σ0 (cI κb 79 14 (nI (F0 + 1))) _ b V al S v sp 0 LT HT (F0 + 1) st _ pt 0 := aC.kx (g := 79) (k := 14) (y := nI (F0 + 1)) (Or.inl ⟨rfl, Or.inl rfl⟩)
  have es : ∀ k, (k < 60 ∨ 74 < k) → (k < 88 ∨ 96 < k) → aI (flS σa F0 (nI k) val vo pl ca) k = aI σ k := fun k h1 h2 => (flS_ne h2).trans (ro.s h1)
  have es2 : ∀ q, (q < 60 ∨ 74 < q) → (q < 88 ∨ 96 < q) → aI (flS σa F0 (nI k) val vo pl ca) q = aI σ q := fun q h1 h2 => (flS_ne h2).trans (ro.s h1)
  have allI : AllI F0 V (un fr v (f' :: r)) := fun n n1 n2 f0 hf it hi => by
    by_cases cv : n = v
    · rw [cv, un_eq] at hf
      rcases List.mem_cons.mp hf with e | hf
      · rw [e] at hi; exact fx.2.2.2.1 it hi
      · exact (d3 f0 hf).2.2.2.2.1 it hi
    · rw [un_ne cv] at hf
      exact (m n n1 n2 cv).items f0 hf it hi
  have col1 : Col κa σa V F0 (un fr v (f' :: r)) w (fun _ => 0) := by
    refine col.sub (ko.h (h := 84) (by omega) (by omega)).1 (fun h h1 h2 => ⟨(ko.h (h := h) (by omega) (by omega)).1, (ko.h (h := h) (by omega) (by omega)).2.2⟩) (fun k k1 k2 => ro.s (by omega)) (fun y _ => ?_) (fun n f0 it n1 n2 hf hi i1 i2 => ?_)
    · have e := kps_un (g := y) (fr := fr) (fs := f' :: r) (V := V) (v := v) ⟨b1, b2⟩
      rw [b4, kps_cons, kps_cons, hL] at e
      omega
    · by_cases cv : n = v
      · rw [cv, un_eq] at hf
        rcases List.mem_cons.mp hf with e | hf
        · rw [e, hL] at hi; exact ⟨v, f, b1, b2, by rw [b4]; exact List.mem_cons_self .., hi⟩
        · exact ⟨v, f0, b1, b2, by rw [b4]; exact List.mem_cons_of_mem _ hf, hi⟩
      · rw [un_ne cv] at hf
        exact ⟨n, f0, n1, n2, hf, hi⟩
  have fo := fc.1
  have col2 := col1.make (num := nI k) (val := val) (vo := vo) (pl := pl) (κ' := cI κb 79 14 (nI (F0 + 1))) aB.2.2.2.2.2.1 hF allI (fun q hq => by rw [kI_ne (by decide)]; exact fo.2.2 q hq) (fun h h1 h2 => ⟨(kI_ne (by omega)).trans (fo.1.1 h (by omega)).1, (fo.1.1 h (by omega)).2.2⟩) hc
  refine ⟨⟨?_, c.cg (es2 54 (by decide) (by decide)) (es2 56 (by decide) (by decide)) (es2 57 (by decide) (by decide)), fun n n1 n2 hn => ?_, ⟨b1, b2, b3, un_eq, kI_eq, by omega⟩, ⟨fx.up (by omega), fun h0 hh => ⟨(d3 h0 hh).1, (d3 h0 hh).2.up (by omega)⟩⟩, ⟨by omega, by omega, by omega⟩, col2⟩, by omega⟩
  · obtain ⟨x1, x2, x3, x4, x5, x6, x7⟩ := aD
    exact ⟨x1, x2, x3, x4, x5, x6, fun n n1 n2 => (x7 n n1 n2).imp id (fun ⟨w1, w2, w3, w4⟩ => ⟨w1, w2, w3.imp id (fun z => by omega), w4⟩)⟩
  · rw [un_ne hn]
    exact (m n n1 n2 hn).cg (congrFun (es2 56 (by decide) (by decide)) n) (by omega)
/-- both do an act that fails -/
theorem rn_fail (allx : AllX X d (e + 1) κ0 σ0 b (pot V S st fr)) (hx : x + pot V S st fr ≤ 199000000) (h77 : sI σ 77 = nI v) (hv : 1 ≤ v ∧ v ≤ 60) {v' g' p' : Nat}
    (rf : ∃ σ1, D σ1 ∧ ∀ G, RaG X 60 v' g' p' σ1 G → A X 92 e MX13_goesOn 0 [(0, vR 92)] [] σ (aRV G))
    (cl : ∀ Q : Res → Km → Prop, (∀ κ', C κ' → K X d MX6_run 2 [(0, vR 79), (1, vI (nI (x + 1)))] [] κ' Q) → K X d MX6_run 2 [(0, vR 79), (1, vI (nI x))] [] κ Q)
    (rx : ∀ κ' σ', C κ' → D σ' → ∃ V' al' S' LT' HT' sp' F0' st' fr' pt' ch' w' f' r', Rx κ0 σ0 κ' σ' b V' al' S' LT' HT' sp' F0' st' fr' pt' ch' w' v' f' r' g' ∧ pt' v' = p' ∧ pot V' S' st' fr' < pot V S st fr ∧ HT' + 2 * pot V' S' st' fr' ≤ HT + 2 * pot V S st fr) : RunOK X d (e + 1) κ0 σ0 κ σ b x (HT + 2 * pot V S st fr) := by
  intro Q hQ
  obtain ⟨σ1, hD, adv⟩ := rf
  refine cl Q (fun κ' hC => ?_)
  obtain ⟨V', al', S', LT', HT', sp', F0', st', fr', pt', ch', w', f', r', h', rfl, hp, hb⟩ := rx κ' σ1 hC hD
  have hl : 5 * ch'.length ≤ 60 := by
    have h1 := h'.2.1.len
    have h2 := h'.1.2.2.2.1.1
    have h3 := h'.1.2.1.2.2.2.2.2.2.2.2.2.2.1
    omega
  exact allx _ _ _ _ _ _ _ _ _ _ _ _ _ _ _ _ _ _ _ _ h' hp (by omega) hl Q (fun κ2 σ2 V2 al2 S2 LT2 HT2 sp2 F2 z2 st2 fr2 pt2 w2 dk e15 hb2 adv' => hQ κ2 σ2 V2 al2 S2 LT2 HT2 sp2 F2 z2 st2 fr2 pt2 w2 dk e15 (by omega) (fun Q' hq => goes_act h77 hv ⟨e, Nat.le_refl _, AC_of_A rfl (Nat.le_of_ble_eq_true rfl) rfl ((adv _ (adv' Q' hq)).mono (fun r0 s0 h0 => h0))⟩))
/-- the reference: a failure of v's own -/
theorem ac_arises (hk : VRx σ v p (f :: r)) (h88 : sI σ 88 = nI F0) (hF : F0 < 8000) (hd : 62 ≤ d) (q : RaG X 60 v F0 p (flS σ F0 (nI k) 0 (nI v) (frP f) (-9)) G) : AC X 92 d MX13_arises [vR 92, vI (nI v), vI (nI k)] σ (aRV G) := by
  refine AC_of_A rfl (Nat.le_of_ble_eq_true rfl) rfl (a_arises_0 _ _ ⟨1, by omega, ac_placeOf hk ⟨0, by omega, ac_failure h88 hF ⟨61, by omega, ?_⟩⟩⟩)
  refine (ac_raise (X := X) (e := 60) (v := v) (g := F0) (p := p) (d := 61) (G := G) ⟨hk.1.2.1, hk.1.2.2.1⟩ (by rw [flS_ne (by omega)]; exact hk.2.1) (by omega) q).mono ?_
  rintro r0 s0 ⟨rfl, hG⟩
  exact ⟨rfl, rfl, hG⟩
end ALLX
