/-! the head of a body, from its bracket on -/
section HD4
variable {X : Cx} {N b P : Nat} {κ κ5 κ' : Km} {σ σ5 σ' : Rm} {x1 y2 : Int32} {Gl : Nat → (Res → Rm → Prop) → Prop}
theorem NF.sg (h : NF κ σ b P) (e25 : sI σ' 25 = sI σ 25) (e37 : sI σ' 37 = sI σ 37) (e24 : aL σ' 24 = aL σ 24) (e9 : aL σ' 9 = aL σ 9) : NF κ σ' b P := by
  obtain ⟨E, D, n1, n2, n3, n4, n5, n6, n7, n8, nE, n9, n10, n11, n12, n13⟩ := h
  exact ⟨E, D, n1, n2, by rw [e9]; exact n3, n4, n5, n6, n7, by rw [e25]; exact n8, nE, fun v t hv => by rw [e24, e9]; exact n9 v t hv, n10, by rw [e37]; exact n11, by rw [e37]; exact n12, n13⟩
/-- rows of bodies -/
theorem Ps.rb {f k : Nat} {v : Int32} (h : Ps κ σ N b P) (hf : f = 20 ∨ f = 21 ∨ f = 23) : Ps κ (wI σ f k v) N b P ∧ Nu κ (wI σ f k v) (pC κ) (oC κ) (iC κ) (rJ σ) (rU σ) (rA σ) (rT σ) (rC σ) (rV σ) (rK σ) (rE σ) := by
  have s : ∀ g, g ≠ f → sI (wI σ f k v) g = sI σ g := fun g hg => sI_ne hg
  have a : ∀ g, g ≠ f → aI (wI σ f k v) g = aI σ g := fun g hg => aI_ne hg
  have eU : rU (wI σ f k v) = rU σ := by unfold rU; rw [s 44 (by omega)]
  have pq := h.pq.fr (κ' := κ) (σ' := wI σ f k v) rfl rfl rfl rfl ⟨rfl, rfl, rfl⟩ rfl rfl ⟨rfl, rfl⟩ (a 5 (by omega)) (a 6 (by omega)) (a 7 (by omega)) (a 8 (by omega)) rfl (fun g hg => s g (by omega)) (by rw [eU, s 44 (by omega)]; exact h.2.2.2.2.2.2.2.2.2.2.2.2.2.2.1)
  exact ⟨⟨⟨pq.1.1, h.1.2.1, h.1.2.2.1, h.1.2.2.2.1, h.1.2.2.2.2.sg (s 25 (by omega)) (s 37 (by omega)) rfl rfl⟩, pq.1.2⟩, rfl, rfl, rfl, pq.2.2.2.2.1, eU, pq.2.2.2.2.2.1, pq.2.2.2.2.2.2.1, pq.2.2.2.2.2.2.2.1, by unfold rV; rw [s 25 (by omega)], pq.2.2.2.2.2.2.2.2.1, pq.2.2.2.2.2.2.2.2.2⟩
/-- the reference reads the block of a body, and ends the body -/
def RBd (X : Cx) (e : Nat) (x1 y2 : Int32) (b n : Nat) (s : Rm) (Q : Res → Rm → Prop) : Prop := ∃ e11 : Nat, e11 + 1 ≤ e ∧ AC X 92 e11 MX13_readBlock [vR 92] s (aTV Q fun s14 => ∃ e15 : Nat, e15 + 1 ≤ e ∧ AC X 92 e15 MX13_emit [vR 92, vI 1, vI 0, vI 0] s14 (aRI fun _ s19 => ∃ e20 : Nat, e20 + 1 ≤ e ∧ AC X 92 e20 MX13_emit [vR 92, vI 26, vI 0, vI 0] s19 (aRI fun y23 s24 => (vp_in (nI b) 12) ∧ ∀ s26 : Rm, s26 = wI s24 21 ((nI b : Int32).toNatClampNeg) (sI s24 25) → A X 92 e MX13_readBody 397 [(0, vR 92), (1, vI x1), (2, vI y2), (3, vI (nI b)), (4, vI (nI n)), (5, vI y23), (6, vI 0)] [] s26 Q)))
/-- the head was read by both, from its bracket on -/
def HT (N b P n : Nat) (κ5 : Km) (σ5 : Rm) (κ' : Km) (σ' : Rm) : Prop := Ps κ' σ' N b P ∧ (pC κ5 + 2 + n ≤ pC κ' ∧ oC κ' = 0 ∧ iC κ' = iC κ5 ∧ rJ σ' = rJ σ5 ∧ rU σ' = rU σ5 ∧ rA σ' = rA σ5 ∧ rT σ' = rT σ5 ∧ rC σ' = rC σ5 ∧ rV σ' = n ∧ rK σ' = 0 ∧ rE σ' = 0) ∧ kI κ' (1000 + 8 * b) 4 = nI n ∧ BF b κ5 κ' ∧ (∀ k, ¬ qA k → k ≠ 35 → k ≠ 36 → k ≠ 20 → k ≠ 23 → aI σ' k = aI σ5 k ∧ aL σ' k = aL σ5 k) ∧ (∀ i, aI σ' 20 i = if i = b then nI n else aI σ5 20 i) ∧ (∀ i, aI σ' 23 i = if i = b then nI (rJ σ5) else aI σ5 23 i) ∧ aL σ' 20 = aL σ5 20 ∧ aL σ' 23 = aL σ5 23
theorem hd_tail {d : Nat} {l2 : Int64} {F : Int32 → Km → Prop} (h : Ps κ5 σ5 N b P) (ho : oC κ5 = 0) (hv : rV σ5 = 0) (h4 : kI κ5 (1000 + 8 * b) 4 = nI 0) (hd : 4 ≤ d)
    (path : ∀ (e : Nat) (Q : Res → Rm → Prop), 7 ≤ e → (∃ e8 : Nat, e8 + 1 ≤ e ∧ AC X 92 e8 MX13_isSign [vR 92, vI 40] σ5 (aRI fun y11 s12 => ((y11 = 0 → (vp_in (sI s12 10) 3002) ∧ ∃ e15 : Nat, e15 + 1 ≤ e ∧ AC X 92 e15 MX13_fail [vR 92, vI (aI s12 6 ((sI s12 10) : Int32).toNatClampNeg)] s12 (aTV Q fun s18 => AB X e 185 x1 y2 (nI b) b s18 Q)) ∧ (¬ y11 = 0 → AB X e 185 x1 y2 (nI b) b s12 Q)))) → Gl e Q)
    (q1 : ∀ κ' σ' n, (n ≤ 4 ∧ (x1 ≠ 0 → n ≤ 1)) → HT N b P n κ5 σ5 κ' σ' → (∀ (e : Nat) (Q : Res → Rm → Prop), 7 ≤ e → RBd X e x1 y2 b n σ' Q → Gl e Q) → F 1 κ') (q0 : ∀ κ' σ', FltB b κ5 σ5 κ' σ' → (∀ (e : Nat) (Q : Res → Rm → Prop), 7 ≤ e → Q (.inr 93) σ' → Gl e Q) → F 0 κ') :
    ∃ e18 : Nat, e18 + 1 ≤ d ∧ KC' X e18 MX5_takeOpening [vR 77, vI 40] κ5 (kRI fun y21 κ22 => ((y21 = 0 → K X d MX5_readHead 188 [(0, vR 77), (1, vI x1), (2, vL l2)] [] κ22 (kRI F)) ∧ (¬ y21 = 0 → ∃ e25 : Nat, e25 + 1 ≤ d ∧ KC' X e25 MX5_readArguments [vR 77, vI x1] κ22 (kRI fun y28 κ29 => ((y28 = 0 → K X d MX5_readHead 188 [(0, vR 77), (1, vI x1), (2, vL l2)] [] κ29 (kRI F)) ∧ (¬ y28 = 0 → ∃ e32 : Nat, e32 + 1 ≤ d ∧ KC' X e32 MX5_takeClosing [vR 77, vI 41] κ29 (kRI fun y35 κ36 => ((y35 = 0 → K X d MX5_readHead 188 [(0, vR 77), (1, vI x1), (2, vL l2)] [] κ36 (kRI F)) ∧ (¬ y35 = 0 → K X d MX5_readHead 189 [(0, vR 77), (1, vI x1), (2, vL l2)] [vI 1] κ36 (kRI F)))))))))) := by
  have hb := h.1.2.2.2.1
  have hp := h.p3
  obtain ⟨f, t, t1, t2, -⟩ := h.tok
  have bad : ∀ κ', F 0 κ' → K X d MX5_readHead 188 [(0, vR 77), (1, vI x1), (2, vL l2)] [] κ' (kRI F) := fun κ' hF => k_5_readHead_188 _ _ (k_5_readHead_189 _ _ _ ⟨Or.inl rfl, _, rfl, hF⟩)
  refine ⟨1, by omega, kc_takeOpening h (by decide) (by decide) (fun c o1 => ⟨fun z => absurd z (by decide), fun _ => ?_⟩) (fun no => ⟨fun _ => bad _ (q0 _ _ (FltB.at h.pq) (fun e Q he hq => path e Q he ⟨0, by omega, ac_isSign h (by decide) (fun c => ⟨fun z => absurd z (by decide), fun _ => a_readBody_185 _ _ _ _ ⟨1, by omega, ac_opens h (fun z => absurd ⟨c, z⟩ no) (fun _ => hq)⟩⟩) (fun nc => ⟨fun _ => ?_, fun z => absurd rfl z⟩)⟩)), fun z => absurd rfl z⟩)⟩
  · have hlt := h.n0 (c := 40) c (by omega) (by omega)
    obtain ⟨tp, n1, n2, n3, n4, n5, n6, n7, n8, n9, n10, n11⟩ := h.op2 hlt o1
    have bf0 : BF b κ5 (opK κ5) := BF.opn.trans BF.set
    have af0 : AF qA σ5 (opS κ5 σ5) := (AF.wI (by decide)).trans (AF.wI (by decide))
    have hi : HI N b P 0 (opK κ5) (opS κ5 σ5) (opK κ5) (opS κ5 σ5) := ⟨tp.1, by omega, by rw [setC_ne (by omega), kI_ne (by omega)]; exact h4, BF.refl, AF.refl, by omega, rfl, rfl, rfl, rfl, rfl, rfl, rfl, rfl, rfl⟩
    refine ⟨3, by omega, args_core (y2 := y2) (y3 := nI b) (Gl := Gl) (by omega) (by omega) hi (fun e Q he hA => path e Q he ⟨0, by omega, ac_isSign h (by decide) (fun _ => ⟨fun z => absurd z (by decide), fun _ => a_readBody_185 _ _ _ _ ⟨1, by omega, ac_opens h (fun _ => hA) (fun z => absurd o1 z)⟩⟩) (fun z => absurd c z)⟩) (fun κ7 σ7 n hnn hi7 hk path7 => ⟨fun z => absurd z (by decide), fun _ => ?_⟩) (fun κ7 σ7 fl r => ⟨fun _ => bad _ (q0 _ _ (fl.pre bf0 (af0.weak qAB)) r), fun z => absurd rfl z⟩)⟩
    have hn : n ≤ 4 := hnn.1
    have hnn1 := hnn.2
    clear hnn
    obtain ⟨h7, g2, g3, g4, g5, g6, g7, g8, g9, g10, g11, g12, g13, g14, g15⟩ := hi7
    have hp7 := h7.p3
    have bf7 : BF b κ5 κ7 := bf0.trans g4
    have af7 : AF qA σ5 σ7 := af0.trans g5
    refine ⟨1, by omega, kc_takeClosing h7 (by omega) (by decide) (by decide) (fun c41 => ⟨fun z => absurd z (by decide), fun _ => k_5_readHead_189 _ _ _ ⟨Or.inr rfl, _, rfl, ?_⟩⟩) (fun n41 => ⟨fun _ => bad _ (q0 _ _ ((FltB.at h7.pq).pre bf7 (af7.weak qAB)) (fun e Q he hq => path7 e Q he (r_bad h7 n41 (hk.resolve_left n41).2 he ⟨(hk.resolve_left n41).1, by omega⟩ hq))), fun z => absurd rfl z⟩)⟩
    have hlt7 := h7.n0 (c := 41) c41 (by omega) (by omega)
    obtain ⟨tq, m1, m2, m3, m4, m5, m6, m7, m8, m9, m10, m11⟩ := h7.cl2 hlt7 (by omega)
    obtain ⟨pa, a1, a2, a3, a4, a5, a6, a7, a8, a9, a10, a11⟩ := tq.1.rb (f := 20) (k := b) (v := nI n) (Or.inl rfl)
    obtain ⟨pc, c1, c2, c3, c4, c5, c6, c7, c8, c9, c10, c11⟩ := pa.rb (f := 23) (k := b) (v := nI (rJ σ7)) (Or.inr (Or.inr rfl))
    obtain ⟨pe, -, e1, e2, e3, e4, e5, e6, e7, e8, e9, e10, e11⟩ := pc.nest (f := 35) (v := 0) (Or.inl rfl) (by decide)
    rw [if_pos rfl] at e10
    rw [if_neg (by decide)] at e11
    obtain ⟨pg, -, k1, k2, k3, k4, k5, k6, k7, k8, k9, k10, k11⟩ := pe.nest (f := 36) (v := 0) (Or.inr rfl) (by decide)
    rw [if_neg (by decide)] at k10
    rw [if_pos rfl] at k11
    have s17 : sI (clS κ7 σ7) 17 = nI (rJ σ7) := by
      have e := tq.1.2.2.2.2.2.2.2.2.2.2.2.1
      rw [e, m4]
    have eJ : rJ σ7 = rJ σ5 := by omega
    have ea : ∀ k, ¬ qA k → aI (clS κ7 σ7) k = aI σ5 k := fun k hk => by
      rw [aI_ne (fun z => hk (by unfold qA; omega)), aI_ne (fun z => hk (by unfold qA; omega))]
      exact (af7 k hk).1
    show F 1 (clK κ7)
    refine q1 (clK κ7) _ n ⟨hn, hnn1⟩ ⟨pg, ⟨by omega, by omega, by omega, by omega, by omega, by omega, by omega, by omega, by omega, by omega, by omega⟩, ?_, bf7.trans (BF.opn.trans BF.set), fun k hk h35 h36 h20 h23 => ⟨?_, (af7 k hk).2⟩, fun i => ?_, fun i => ?_, (af7 20 (by decide)).2, (af7 23 (by decide)).2⟩ (fun e Q he hA => ?_)
    · rw [setC_ne (by omega), kI_ne (by omega)]; exact g3
    · rw [aI_ne h36, aI_ne h35, aI_ne h23, aI_ne h20]
      exact ea k hk
    · rw [aI_ne (by decide), aI_ne (by decide), aI_ne (by decide)]
      by_cases ci : i = b
      · rw [if_pos ci, ci, aI_eq]
      · rw [if_neg ci, aI_ni ci, ea 20 (by decide)]
    · rw [aI_ne (by decide), aI_ne (by decide)]
      by_cases ci : i = b
      · rw [if_pos ci, ci, aI_eq, eJ]
      · rw [if_neg ci, aI_ni ci, aI_ne (by decide), ea 23 (by decide)]
    · have a27 : AB X e 327 x1 y2 (nI b) n σ7 Q := a_readBody_327 _ _ _ _ ⟨2, by omega, ac_closes h7 (by omega) (by decide) (fun _ => by
        rw [vpn (by omega), cl_nI (by omega)]
        refine ⟨by omega, ?_⟩
        rintro s6 rfl
        refine ⟨by omega, ?_⟩
        rw [sI_ne (by decide), s17]
        rintro s8 rfl s9 rfl s10 rfl
        unfold RBd at hA
        rw [vpn (by omega), cl_nI (by omega)] at hA
        exact hA) (fun z => absurd c41 z)⟩
      exact path7 e Q he (r_no h7 (by rw [c41]; decide) (by rw [c41]; decide) he (by omega) (fun _ => a27) (fun _ => ⟨fun _ => a27, fun z => absurd c41 z⟩))
  · rw [h.2.2.2.2.1, vpn (by omega), cl_nI (by omega), t2, ← t1]
    exact ⟨by omega, 0, by omega, ac_failT hq⟩
end HD4
