/-! EACH -/
section EACHS
variable {X : Cx} {d e er : Nat} {κ0 κ κa κb κc κ1 κ' : Km} {σ0 σ σa σc σr σ1 σ' : Rm} {b V al S T sp z LT HT F0 v p n x q g k s1 sc kn nw a0 j2 mm a1 a2 a3 : Nat} {st : Nat → Nat} {fr fr' : Nat → List Frm} {pt : Nat → Nat} {fs fs0 r rr : List Frm} {ch cr : List Nat} {w rz : Nat → Nat} {y u a arg fm0 : Int32} {f f1 f' : Frm} {o : Option (List Nat)} {C : Km → Prop} {P : Rm → Prop}
variable {bd i j nv s md i' j' s' md' : Nat} {pl : Int32} {vs : Nat → Int32} {L L0 : List Ite} {O O1 O0 : List Int32}
theorem VK.nrm (h : VK κ n ((bd, i, j, pl, nv, vs, L ++ [(0, a1, a2, a3, y)], O, s, md) :: r)) : VK κ n ((bd, i, j', pl, nv, vs, L ++ [(0, 0, 0, 0, y)], O, s', md') :: r) := by
  obtain ⟨c, o, h1, ⟨h2, g1, g2, g3, g4⟩, h3⟩ := h
  have e1 : psz (L ++ [((0, a1, a2, a3, y) : Ite)]) = psz (L ++ [((0, 0, 0, 0, y) : Ite)]) := by rw [psz_app, psz_app]; rfl
  have g3' := (ItsC_app L [((0, a1, a2, a3, y) : Ite)] _ _).mp g3
  refine ⟨c, o, h1, ⟨h2, g1, g2, (ItsC_app L [((0, 0, 0, 0, y) : Ite)] _ _).mpr ⟨g3'.1, ⟨fun _ => g3'.2.1.1 rfl, fun z => absurd rfl z⟩, trivial⟩, fun k hk => ?_⟩, ?_⟩
  · have := g4 k hk
    show c (tsz o r + 4 + nv + psz (L ++ [(0, 0, 0, 0, y)]) + k) = _
    rw [← e1]
    exact this
  · have e2 : tsz o ((bd, i, j', pl, nv, vs, L ++ [(0, 0, 0, 0, y)], O, s', md') :: r) = tsz o ((bd, i, j, pl, nv, vs, L ++ [(0, a1, a2, a3, y)], O, s, md) :: r) := by
      show tsz o r + (4 + nv + psz (L ++ [(0, 0, 0, 0, y)]) + O.length) = tsz o r + (4 + nv + psz (L ++ [(0, a1, a2, a3, y)]) + O.length)
      rw [e1]
    have e3 : tgd o ((bd, i, j', pl, nv, vs, L ++ [(0, 0, 0, 0, y)], O, s', md') :: r) = tgd o ((bd, i, j, pl, nv, vs, L ++ [(0, a1, a2, a3, y)], O, s, md) :: r) := by
      show gdo (tsz o r + 4 + nv) (tgd o r) (L ++ [(0, 0, 0, 0, y)]) = gdo (tsz o r + 4 + nv) (tgd o r) (L ++ [(0, a1, a2, a3, y)])
      rw [gdo_app, gdo_app]
      rfl
    rw [e2, e3]
    exact h3
theorem VK.each (h : VK κ n ((bd, i, j, pl, nv, vs, L, [y], s, md) :: r)) : VK κ n ((bd, i, j', pl, nv, vs, L ++ [(0, 0, 0, 0, y)], [], s', md') :: r) := by
  obtain ⟨c, o, h1, ⟨h2, g1, g2, g3, g4⟩, h3⟩ := h
  have e1 : psz (L ++ [((0, 0, 0, 0, y) : Ite)]) = psz L + 1 := by rw [psz_app]; rfl
  refine ⟨c, o, h1, ⟨h2, g1, g2, (ItsC_app L [((0, 0, 0, 0, y) : Ite)] _ _).mpr ⟨g3, ⟨fun _ => ?_, fun z => absurd rfl z⟩, trivial⟩, fun k hk => absurd hk (Nat.not_lt_zero _)⟩, ?_⟩
  · have := g4 0 (show 0 < 1 from Nat.zero_lt_one)
    exact this
  · have e2 : tsz o ((bd, i, j', pl, nv, vs, L ++ [(0, 0, 0, 0, y)], [], s', md') :: r) = tsz o ((bd, i, j, pl, nv, vs, L, [y], s, md) :: r) := by
      show tsz o r + (4 + nv + psz (L ++ [(0, 0, 0, 0, y)]) + 0) = tsz o r + (4 + nv + psz L + 1)
      rw [e1]
      omega
    have e3 : tgd o ((bd, i, j', pl, nv, vs, L ++ [(0, 0, 0, 0, y)], [], s', md') :: r) = tgd o ((bd, i, j, pl, nv, vs, L, [y], s, md) :: r) := by
      show gdo (tsz o r + 4 + nv) (tgd o r) (L ++ [(0, 0, 0, 0, y)]) = gdo (tsz o r + 4 + nv) (tgd o r) L
      rw [gdo_app]
      rfl
    rw [e2, e3]
    exact h3
theorem VR.nrm (h : VR σ n p ((bd, i, j, pl, nv, vs, L ++ [(0, a1, a2, a3, y)], O, s, md) :: r)) : VR σ n p ((bd, i, j, pl, nv, vs, L ++ [(0, 0, 0, 0, y)], O, s', md') :: r) := by
  obtain ⟨h1, h2, ⟨h3, h4, h5⟩, h6, ⟨f1, f2, f3, f4, f5, f6⟩, g1, g2, g3, g4⟩ := h
  have e1 : gcn (L ++ [((0, 0, 0, 0, y) : Ite)]) = gcn (L ++ [((0, a1, a2, a3, y) : Ite)]) := by rw [gcn_app, gcn_app]; rfl
  have g3' := (ItsR_app L [((0, a1, a2, a3, y) : Ite)] _ _ _).mp g3
  refine ⟨h1, h2, ⟨h3, ?_, h5⟩, h6, ⟨f1, ?_, f3, f4, f5, f6⟩, g1, g2, (ItsR_app L [((0, 0, 0, 0, y) : Ite)] _ _ _).mpr ⟨g3'.1, ⟨fun _ => g3'.2.1.1 rfl, fun z => absurd rfl z⟩, trivial⟩, g4⟩
  · rw [h4]
    show nI (gcs r + gcn (L ++ [((0, a1, a2, a3, y) : Ite)])) = nI (gcs r + gcn (L ++ [((0, 0, 0, 0, y) : Ite)]))
    rw [e1]
  · have f2 : (L ++ [((0, a1, a2, a3, y) : Ite)]).length ≤ 24 := f2
    rw [List.length_append] at f2
    show (L ++ [((0, 0, 0, 0, y) : Ite)]).length ≤ 24
    rw [List.length_append]
    exact f2
/-- an item of an each is written in one way -/
theorem Rn.nrm (h : Rn κ0 σ0 κ σ b V al S LT HT sp F0 st fr pt ch w v (bd, i, j, pl, nv, vs, L ++ [(0, a1, a2, a3, y)], O, s, md) r) : ∃ fr', Rn κ0 σ0 κ σ b V al S LT HT sp F0 st fr' pt ch w v (bd, i, j, pl, nv, vs, L ++ [(0, 0, 0, 0, y)], O, s, md) r ∧ pot V S st fr' = pot V S st fr := by
  have vk := h.2.2.1.1
  have vr := h.2.2.1.2.1
  obtain ⟨m0, fo, d3⟩ := h.2.2.2.1
  have b4 := h.2.1.2.2.2.1
  have c14 : 1 ≤ v ∧ v ≤ V := ⟨h.2.1.1, h.2.1.2.1⟩
  have acc := h.2.2.2.2.1
  have ei : (L ++ [((0, 0, 0, 0, y) : Ite)]).map itm = (L ++ [((0, a1, a2, a3, y) : Ite)]).map itm := by rw [List.map_append, List.map_append]; rfl
  have eg : gws (L ++ [((0, 0, 0, 0, y) : Ite)]) = gws (L ++ [((0, a1, a2, a3, y) : Ite)]) := by rw [gws_app, gws_app]; rfl
  have ek : ∀ g, kpl g (L ++ [((0, 0, 0, 0, y) : Ite)]) = kpl g (L ++ [((0, a1, a2, a3, y) : Ite)]) := fun g => by
    rw [kpl_app, kpl_app]
    have e1 : kp1 g ((0, 0, 0, 0, y) : Ite) = 0 := if_neg (fun z => z.1 rfl)
    have e2 : kp1 g ((0, a1, a2, a3, y) : Ite) = 0 := if_neg (fun z => z.1 rfl)
    show kpl g L + (kp1 g ((0, 0, 0, 0, y) : Ite) + 0) = kpl g L + (kp1 g ((0, a1, a2, a3, y) : Ite) + 0)
    rw [e1, e2]
  have ea := arm_un (st := st) (fr := fr) (fs := (bd, i, j, pl, nv, vs, L ++ [(0, 0, 0, 0, y)], O, s, md) :: r) c14
  have ep := pot_un (S := S) (st := st) (fr := fr) (fs := (bd, i, j, pl, nv, vs, L ++ [(0, 0, 0, 0, y)], O, s, md) :: r) c14
  rw [b4, arm_cons, arm_cons] at ea
  rw [b4, fws_cons, fws_cons, fwt_e, fwt_e, eg] at ep
  have ea : cn (vArm st (un fr v ((bd, i, j, pl, nv, vs, L ++ [(0, 0, 0, 0, y)], O, s, md) :: r))) V + (s + arm r) = cn (vArm st fr) V + (s + arm r) := ea
  obtain ⟨ac1, ac2, ac3⟩ := acc
  have epot : pot V S st (un fr v ((bd, i, j, pl, nv, vs, L ++ [(0, 0, 0, 0, y)], O, s, md) :: r)) = pot V S st fr := by omega
  obtain ⟨o1, o2, o3, o4, o5⟩ := fo
  have m0 : md = 0 := m0
  subst m0
  refine ⟨_, h.locA (f' := (bd, i, j, pl, nv, vs, L ++ [(0, 0, 0, 0, y)], O, s, 0)) (rr := r) Vo.refl Ro.refl vk.nrm vr.nrm ⟨rfl, ⟨o1, o2, o3, fun x hx => ?_, ?_⟩, d3⟩ ⟨by omega, by omega, by omega⟩ (fun g _ => ?_) (fun f0 it hf hi i1 i2 => ?_), epot⟩
  · rcases List.mem_append.mp hx with hx | hx
    · exact o4 x (List.mem_append_left _ hx)
    · rw [List.mem_singleton.mp hx]
      exact Or.inl rfl
  · rcases o5 with ⟨-, gd⟩ | ⟨z, -⟩ | ⟨z, -⟩ | ⟨z, -⟩
    · refine Or.inl ⟨rfl, ?_⟩
      show Good2 κ0 σ0 (fun _ => False) (bd, i, j, (L ++ [((0, 0, 0, 0, y) : Ite)]).map itm, O.length, s)
      rw [ei]
      exact gd
    · exact absurd z (show ¬ (0 : Nat) = 1 by decide)
    · exact absurd z (show ¬ (0 : Nat) = 2 by decide)
    · exact absurd z (show ¬ (0 : Nat) = 3 by decide)
  · rw [kps_cons, kps_cons]
    show kpl g (L ++ [((0, 0, 0, 0, y) : Ite)]) + kps g r ≤ kpl g (L ++ [((0, a1, a2, a3, y) : Ite)]) + kps g r
    rw [ek]
    exact Nat.le_refl _
  · rcases List.mem_cons.mp hf with e | hf
    · rw [e] at hi
      have hi : it ∈ L ++ [((0, 0, 0, 0, y) : Ite)] := hi
      rcases List.mem_append.mp hi with hi | hi
      · exact ⟨_, List.mem_cons_self .., List.mem_append_left _ hi⟩
      · rw [List.mem_singleton.mp hi] at i1
        exact absurd rfl i1
    · exact ⟨f0, List.mem_cons_of_mem _ hf, hi⟩
/-- both come to the desk from a state to which the reference goes on -/
theorem RunOK.adv {B : Nat} (h : RunOK X d e κ0 σ0 κ σ1 b x B) (adv : ∀ Q' : Res → Rm → Prop, A X 92 e MX13_goes 0 [(0, vR 92)] [] σ1 Q' → A X 92 e MX13_goes 0 [(0, vR 92)] [] σ Q') : RunOK X d e κ0 σ0 κ σ b x B := fun Q hQ => h Q (fun κ2 σ2 V2 al2 S2 LT2 HT2 sp2 F2 z2 st2 fr2 pt2 w2 dk e15 hb2 adv' => hQ κ2 σ2 V2 al2 S2 LT2 HT2 sp2 F2 z2 st2 fr2 pt2 w2 dk e15 hb2 (fun Q' hq => adv Q' (adv' Q' hq)))
end EACHS
