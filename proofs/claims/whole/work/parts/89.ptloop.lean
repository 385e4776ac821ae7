/-! try: its catches, both run -/
section TRR
variable {X : Cx} {N b P : Nat} {κ κ0 κ1 κn κk κb κp κ' : Km} {σ σ0 σ1 σn σk σb σ' : Rm}
theorem try_loop {m d0 : Nat} {x1 : Int32} {F : Int32 → Km → Prop} (hB : SpB X N b P m) (h : Ps κ σ N b P) (hb : Bds κ σ) (hd0 : dS (oC κ) + 5 ≤ d0) (t00 : T00 N b P κ σ κk σk κb σb κ0 σ0)
    (q1 : ∀ κ' σ', ST N b P 1 κ σ κ' σ' → pC κ < pC κ' → RTr X κ σ σ' (.inl none) → F 1 κ') (q0 : ∀ κ' σ', Flt b κ σ 9200 κ' σ' → RTr X κ σ σ' (.inr 93) → F 0 κ') : ∀ (g i : Nat) (κn : Km) (σn : Rm) (lv : List Nat) (p f : Nat) (x2 : Int32), N + 1 - pC κn ≤ g → N + 1 - pC κn ≤ m → i ≤ pC κn → p < 20000 → TyI N b P κ σ κ0 σ0 κn σn lv p f → f ≤ 1 → RPt X κ σ 57 [(0, vR 92), (1, vI (nI (rT σ))), (2, vI x2), (3, vI (nI f))] σn → (1 ≤ f ∨ kI κn 72 7 = 206 ∨ kI κn 72 7 = 207) → K X d0 MX5_readTry 94 [(0, vR 77), (1, vI x1), (2, vI (nI p)), (3, vI (nI i))] [] κn (kRI F) := by
  have ho2 : oC κ ≤ 24 := h.2.2.2.2.2.2.2.2.1
  intro g
  induction g with
  | zero =>
    intro i κn σn lv p f x2 hg hm hi hpp ti
    have := ti.1.2.2.2.2.2.1
    omega
  | succ g ih =>
    intro i κn σn lv p f x2 hg hm hi hpp ti hf2 rp hk
    have ti' := ti
    have hb' := hb
    have tb0 : T0 b κ σ κ0 σ0 := t00.1.trans (t00.2.1.2.1.t0.trans t00.2.2.1)
    have lB3 : rT σ < rT σ0 ∧ rC σ ≤ rC σ0 ∧ 1 ≤ iC κ0 := by
      obtain ⟨-, a2, -, -, ⟨c1, c2, c3, c4, c5, c6, c7, c8, -⟩, -⟩ := t00
      have y1 := a2.2.1.2.2.1.2.2.1
      have y2 := a2.2.1.2.2.1.2.2.2.1
      omega
    obtain ⟨⟨b1, b2, b3, b4, b5, b6, b7⟩, b8, b9, b10⟩ := hb
    obtain ⟨pn, tr0, tcN, ltN, cs, lvb, lch, llen, hlv, usN, n1, n2, n3, n4, n5, n6, n7, n8, n9, n10, n11, n12, n13, n14⟩ := ti
    have hpn := pn.p3
    have tn0 : T0 b κ σ κn σn := tb0.trans tr0.t0
    refine k_5_readTry_94 _ _ _ ?_
    rw [litI 3001, le_nI (by omega) (by omega)]
    refine ⟨fun z => absurd z (by omega), fun _ => ⟨fun c => ?_, fun nc => ?_⟩⟩
    · refine ⟨dS (oC κ) + 4, by omega, catch_head (t := rT σ) (x2 := x2) (x3 := nI f) (κ := κ) (σ := σ) pn (by omega) (by omega) (by omega) (by omega) (by omega) c rp (fun κ' σ' fl r => ⟨fun _ => k_5_readTry_134 _ _ _ _ ⟨_, rfl, q0 κ' σ' (fl.pre0 tn0) r⟩, fun z => absurd rfl z⟩) (fun κk' σk' ch => ⟨fun z => absurd z (neg9 (by omega)), fun _ => ?_⟩)⟩
      have ch' := ch
      obtain ⟨κd, σd, v, tok, y, x30, ⟨pk, tnk⟩, ⟨d1, d2, d3, d4, d5, d6, d7, d8, d9, d10, d11⟩, -, -, -, -, -, -, -, -, -, rb, -⟩ := ch
      have hbk : Bdb κk' σk' := by
        unfold Bdb
        omega
      have sub := hB _ _ pk hbk (by omega)
      have ok : oC κk' = oC κ := by omega
      rw [ok] at sub
      refine ⟨_, by omega, sub.k (fun κb' σb' hr okb => ⟨fun z => absurd z (by decide), fun _ => ?_⟩) (fun κb' σb' hr bd => ⟨fun _ => k_5_readTry_134 _ _ _ _ ⟨_, rfl, q0 _ _ (bd.pre0 (tn0.trans tnk.t0)) (fun e Q he hq => rb e Q he ⟨_, by simp only [dS] at he ⊢; omega, acr_bad hr hq⟩)⟩, fun z => absurd rfl z⟩)⟩
      obtain ⟨blk, hp2, hi6, hj6, ht2, hc2⟩ := okb
      have pb := blk.1
      have hpb := pb.p3
      have lB : iC κk' ≤ iC κb' := blk.2.1.2.2.1.1
      have hig : iC κb' < 9890 ∧ rJ σb' < 11900 := by omega
      have kb : rK σb' = rK σ + 1 := by
        have := blk.2.2.2.2.2.2.2.2.2.2.2.2.2.1
        omega
      refine ⟨2, by omega, pb.add (by omega) (by unfold i8; decide) (fun κa ad => ?_)⟩
      obtain ⟨ti2, hp, k72⟩ := catch_next ti' tb0 hb' lB3.2.2 ⟨lB3.1, lB3.2.1⟩ ch' blk hp2 hi6 hj6 ht2 hc2 ad
      have pa := pb.addC (by omega) ad
      have ia := pa.2.2.2.1
      refine ⟨0, by omega, kc_csize pa.1.1 ⟨0, by omega, kc_patch pa.1.1 (k := iC κn + 1) (by omega) (by omega) ?_⟩⟩
      rw [nI_1]
      have s35 : sI σb' 35 - 1 = nI (rK σ) := by
        rw [pb.2.2.2.2.2.2.2.2.2.2.2.2.2.2.2.2.1, kb]
        exact nI_sb (a := rK σ + 1) (b := 1) (by omega)
      obtain ⟨pm, -, -, -, -, m4, -⟩ := pb.nest (f := 35) (v := rK σ) (Or.inl rfl) (by omega)
      have s17m := pm.2.2.2.2.2.2.2.2.2.2.2.1
      have hjm : rJ (wS σb' 35 (nI (rK σ))) < 12000 := by omega
      have rp' : RPt X κ σ 57 [(0, vR 92), (1, vI (nI (rT σ))), (2, vI (nI (rJ (wS σb' 35 (nI (rK σ)))))), (3, vI (nI 1))] (em (wS σb' 35 (nI (rK σ))) 29 (nI (rT σ)) 0) := fun e Q he hA => by
        rw [← litI 1] at hA
        refine rb e Q he ⟨_, by simp only [dS] at he ⊢; omega, acr_ok hr ?_⟩
        rintro s27 rfl
        rw [s35]
        exact ⟨0, by simp only [dS] at he; omega, ac_emit s17m hjm hA⟩
      generalize hκj : cI κa 70 (iC κn + 1) (nI (iC κa)) = κj at *
      generalize hσj : em (wS σb' 35 (nI (rK σ))) 29 (nI (rT σ)) 0 = σj at *
      have h1 : N + 1 - pC κj ≤ g := nbl hg hp
      have h2 : N + 1 - pC κj ≤ m := Nat.le_trans (Nat.sub_le_sub_left (Nat.le_of_lt hp) _) hm
      have h3 : i + 1 ≤ pC κj := Nat.lt_of_le_of_lt hi hp
      have h4 : iC κb' < 20000 := Nat.lt_trans hig.1 (by decide)
      exact ih (i + 1) κj σj (iC κb' :: lv) (iC κb') 1 (nI (rJ (wS σb' 35 (nI (rK σ))))) h1 h2 h3 h4 ti2 (Nat.le_refl _) rp' (Or.inl (Nat.le_refl _))
    · refine k_5_readTry_169 _ _ _ ?_
      show K X d0 MX5_readTry 171 [(0, vR 77), (1, vI x1), (2, vI (nI p)), (3, vI (nI 0))] [] κn (kRI F)
      exact leaves lv κn (nI p) 0 pn (by omega) lch (fun k hk => (lvb k hk).1) (by omega) (by omega) (fun κ' y' i' pl => try_end hB h hb' hd0 t00 ti' pl hm rp nc (by
        rcases hk with hk | hk | hk
        · exact Or.inl hk
        · exact absurd hk nc
        · exact Or.inr hk) hf2 q1 q0)
end TRR
