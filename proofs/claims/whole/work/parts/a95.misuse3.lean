/-! a misuse is raised: both -/
section MISUSE3
variable {X : Cx} {d e er : Nat} {κ0 κ κa κb κc κ1 κ' : Km} {σ0 σ σa σc σr σ1 σ' : Rm} {b V al S T sp z LT HT F0 v p n x q g k op sc : Nat} {st : Nat → Nat} {fr fr' : Nat → List Frm} {pt : Nat → Nat} {fs r rr : List Frm} {ch cr l : List Nat} {w rz : Nat → Nat} {f f1 f' : Frm} {y u a num val vo pl ca : Int32} {C : Km → Prop} {D P : Rm → Prop} {G : Rm → Prop} {o : Option (List Nat)}
variable {bd i j nv s md i' j' s' md' r2 : Nat} {vs vs' : Nat → Int32} {L L' : List Ite} {O O' : List Int32}
theorem RoR.eqv (h : RoR σ σ' o) {k : Nat} (hk : k ≠ 86 ∧ k ≠ 87) : aI σ' k = aI σ k := by
  rcases h with ⟨-, rfl⟩ | ⟨l, -, h⟩
  · rfl
  · exact (h.1 k (by omega)).1
theorem rn_misuse (h : Rn κ0 σ0 κ σ b V al S LT HT sp F0 st fr pt ch w v (bd, i, j, pl, nv, vs, L, O, s, md) r) (allx : AllX X d (e + 1) κ0 σ0 b (pot V S st fr)) (hx : x + pot V S st fr ≤ 199000000) (hs : s = 1) (hi : i' ≤ 9500) (hl : ∀ l, o = some l → l.length ≤ 12)
    (cl : ∀ Q : Res → Km → Prop, (∀ κ', (∃ κa κb, Vo v κ κa ∧ VK κa v ((bd, i', j', pl, nv, vs, L, O', 0, 0) :: r) ∧ FmC κa κb F0 (nI 10) 0 (nI v) pl 0 ∧ RoC (cI κb 79 14 (nI (F0 + 1))) κ' o) → K X d MX6_run 2 [(0, vR 79), (1, vI (nI (x + 1)))] [] κ' Q) → K X d MX6_run 2 [(0, vR 79), (1, vI (nI x))] [] κ Q)
    (rf : ∃ σ1, (∃ σa σr, Ro (pt v) σ σa ∧ VR σa v (pt v) ((bd, i', j', pl, nv, vs, L, O', 0, 0) :: r) ∧ RoR σa σr o ∧ σ1 = flS σr F0 (nI 10) 0 (nI v) pl (-9)) ∧ ∀ G, RaG X 60 v F0 (pt v) σ1 G → A X 92 e MX13_goesOn 0 [(0, vR 92)] [] σ (aRV G)) : RunOK X d (e + 1) κ0 σ0 κ σ b x (HT + 2 * pot V S st fr) := by
  obtain ⟨n1, n2, n3, n4, n5, n6, n7, n8, n9, vr⟩ := h.num
  obtain ⟨-, -, -, -, -, -, c12, c13, c14⟩ := h.cls
  obtain ⟨f88, fF, fl, sta⟩ := h.f88
  refine rn_fail (v' := v) (g' := F0) (p' := pt v) (C := fun κ' => ∃ κa κb, Vo v κ κa ∧ VK κa v ((bd, i', j', pl, nv, vs, L, O', 0, 0) :: r) ∧ FmC κa κb F0 (nI 10) 0 (nI v) pl 0 ∧ RoC (cI κb 79 14 (nI (F0 + 1))) κ' o) (D := fun σ1 => ∃ σa σr, Ro (pt v) σ σa ∧ VR σa v (pt v) ((bd, i', j', pl, nv, vs, L, O', 0, 0) :: r) ∧ RoR σa σr o ∧ σ1 = flS σr F0 (nI 10) 0 (nI v) pl (-9)) allx hx c12 (by omega) rf cl ?_
  rintro κ' σ' ⟨κa, κb, vo, vka, fc, rc⟩ ⟨σa, σr, ro, v2, rr, rfl⟩
  obtain ⟨hR, hp⟩ := h.fail (k := 10) (f' := (bd, i', j', pl, nv, vs, L, O', 0, 0)) (ca := -9) (val := 0) (vo := nI v) (pl := pl) hs vo ro vka v2 ((n9.frx sta).to (by omega) hi) rfl rfl (by omega) (Or.inl rfl) fc
  exact ⟨_, _, _, _, _, _, _, _, _, _, _, _, _, _, hR.ro rc (ror_flS rr) hl, rfl, hp, by omega⟩
/-- the reference: it arises, behind the ring -/
theorem ac_arisesM (vr : VR σ v p (f :: r)) (rr : RoR σ σr o) (h88 : sI σ 88 = nI F0) (hF : F0 < 8000) (hd : 62 ≤ d) (q : RaG X 60 v F0 p (flS σr F0 (nI 10) 0 (nI v) (frP f) (-9)) G) : AC X 92 d MX13_arises [vR 92, vI (nI v), vI (nI 10)] σr (aRV G) :=
  ac_arises (vr.vx.cg (fun k h1 h2 => rr.eqv (by omega))) ((congrFun (rr.eqv (by decide)) 0).trans h88) hF hd q
end MISUSE3
