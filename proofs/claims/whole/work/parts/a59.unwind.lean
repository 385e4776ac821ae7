/-! the class: a failure goes outwards by one guard, call or voice -/
section UNWIND
variable {X : Cx} {d e : Nat} {κ0 κ κ1 κ' : Km} {σ0 σ σ1 σ' : Rm} {b V al S T T' sp z LT HT LT' HT' F0 F0' v p n x x' q g m lo : Nat} {st : Nat → Nat} {fr : Nat → List Frm} {pt : Nat → Nat} {fs r : List Frm} {ch : List Nat} {w : Nat → Nat} {f f' f1 : Frm} {y u : Int32}
variable {bd i j nv s md i' j' s' md' t h0 ph jb : Nat} {pl : Int32} {vs : Nat → Int32} {L L0 Es : List Ite} {O : List Int32} {C : Km → Prop}
/-- the code, as the class has it -/
def CF (κ0 κ : Km) (m : Nat) : Prop := CdW κ m ∧ m ≤ 9500 ∧ kI κ0 68 2 = nI m ∧ kI κ 69 = kI κ0 69 ∧ kI κ 70 = kI κ0 70
theorem Bn.cf (h : Bn κ0 σ0 κ σ b V al S T sp z LT HT F0 st fr pt x) : ∃ m, CF κ0 κ m := by
  obtain ⟨⟨⟨k1, k2, k3⟩, sta, rg⟩, -⟩ := h
  have e68 := k1 68 (Or.inr (Or.inl (by omega)))
  have e69 := k1 69 (Or.inr (Or.inl (by omega)))
  have e70 := k1 70 (Or.inr (Or.inl (by omega)))
  obtain ⟨t1, ⟨m, m1, m2, m3, m4⟩, t3⟩ := sta
  exact ⟨m, ⟨by rw [e68.1]; exact m1, by omega, by rw [e69.2.2]; exact m3, by rw [e70.2.2]; exact m4⟩, m2, m1, e69.1, e70.1⟩
theorem CF.cg (h : CF κ0 κ m) (e : ∀ g, 68 ≤ g → g ≤ 70 → kI κ' g = kI κ g ∧ kW κ' g = kW κ g) : CF κ0 κ' m := by
  obtain ⟨⟨h1, h2, h3, h4⟩, h5, h6, h7, h8⟩ := h
  exact ⟨⟨by rw [(e 68 (by omega) (by omega)).1]; exact h1, h2, by rw [(e 69 (by omega) (by omega)).2]; exact h3, by rw [(e 70 (by omega) (by omega)).2]; exact h4⟩, h5, h6, by rw [(e 69 (by omega) (by omega)).1]; exact h7, by rw [(e 70 (by omega) (by omega)).1]; exact h8⟩
/-- no guard: out of the call -/
theorem kc_unwindA (hk : VK κ v ((bd, i, j, pl, nv, vs, L, O, s, md) :: f1 :: r)) (hg : noG L) (hz : tsz 0 ((bd, i, j, pl, nv, vs, L, O, s, md) :: f1 :: r) ≤ 17000) (hm : r.length < 900) (q : ∀ κ', Vo v κ κ' → VK κ' v (f1 :: r) → C κ') : KC' X 2 MX6_unwind [vR 79, vR (1002 + 8 * v)] κ (kRV C) := by
  refine KC_of_K rfl (Nat.le_of_ble_eq_true rfl) rfl (k_6_unwind_0 _ ⟨hk.v, 0, by omega, ?_⟩)
  refine vk_isGuarded hk hz (fun _ => ⟨fun _ => ⟨1, by omega, ?_⟩, fun z => absurd rfl z⟩) (fun c => absurd hg c)
  exact vk_leave hk hg hm (fun κ' vo vk => ⟨fun z => absurd z (by decide), fun _ => k_6_unwind_19 _ ⟨rfl, q κ' vo vk⟩⟩)
/-- no guard in a voice's only call -/
theorem kc_unwindB {el : Nat} (hk : VK κ v [(bd, i, j, pl, nv, vs, L, O, s, md)]) (hg : noG L) (hz : tsz 0 [(bd, i, j, pl, nv, vs, L, O, s, md)] ≤ 17000) (hd : 2 ≤ d) (hel : el + 1 ≤ d) (q : KC' X el MX6_leaveVoice [vR 79, vR (1002 + 8 * v)] κ (kRV C)) : KC' X d MX6_unwind [vR 79, vR (1002 + 8 * v)] κ (kRV C) := by
  refine KC_of_K rfl (Nat.le_of_ble_eq_true rfl) rfl (k_6_unwind_0 _ ⟨hk.v, 0, by omega, ?_⟩)
  refine vk_isGuarded hk hz (fun _ => ⟨fun _ => ⟨1, by omega, ?_⟩, fun z => absurd rfl z⟩) (fun c => absurd hg c)
  refine vk_leave0 hk ⟨fun _ => ⟨el, hel, q.mono ?_⟩, fun z => absurd rfl z⟩
  rintro r0 κ2 ⟨rfl, h⟩
  exact ⟨rfl, k_6_unwind_19 _ ⟨rfl, h⟩⟩
theorem notG : ¬ noG (L0 ++ ((1, t, h0, ph, u) : Ite) :: Es) := fun z => absurd (z (1, t, h0, ph, u) (List.mem_append_right _ (List.mem_cons_self ..))) (show ¬ (1 : Nat) = 0 by decide)
/-- a finally under way: it is left, what it keeps comes beneath -/
theorem kc_unwindC (hk : VK κ v ((bd, i, j, pl, nv, vs, L0 ++ (1, t, h0, ph, u) :: Es, O, s, md) :: r)) (he : noG Es) (hz : tsz 0 ((bd, i, j, pl, nv, vs, L0 ++ (1, t, h0, ph, u) :: Es, O, s, md) :: r) ≤ 17000) (hph : 2 ≤ ph ∧ ph ≤ 4) (h14 : kI κ 79 14 = nI (g + 1)) (fl : FRl κ σ F0) (hg : g < F0) (hl : ph = 3 → lo < F0 ∧ u = nI (lo + 1)) (q : ∀ κ2 κ', κ2 = (if ph = 3 then bnK κ σ g lo else κ) → Vo v κ2 κ' → VK κ' v ((bd, i, j, pl, nv, vs, L0, [], s, md) :: r) → C κ') : KC' X 2 MX6_unwind [vR 79, vR (1002 + 8 * v)] κ (kRV C) := by
  refine KC_of_K rfl (Nat.le_of_ble_eq_true rfl) rfl (k_6_unwind_0 _ ⟨hk.v, 0, by omega, ?_⟩)
  refine vk_isGuarded hk hz (fun c => absurd c notG) (fun _ => ⟨fun z => absurd z (by decide), fun _ => ⟨1, by omega, ?_⟩⟩)
  refine vk_isInGuarded hk he (by omega) (fun c => absurd c (by omega)) (fun _ => ⟨fun _ => ⟨1, by omega, ?_⟩, fun z => absurd rfl z⟩)
  refine vk_phase hk he ?_
  rw [litI 3, eq_nI (by omega) (by omega)]
  refine ⟨fun c => ⟨1, by omega, vk_kept hk he ⟨1, by omega, ?_⟩⟩, fun c => k_6_unwind_50 _ ⟨hk.v, 1, by omega, vk_close hk he (fun κ' vo vk => ⟨rfl, q κ κ' (if_neg c).symm vo vk⟩)⟩⟩
  rw [(hl c).2, h14]
  refine kc_beneath fl hg (hl c).1 ?_
  have fo : Fo κ (bnK κ σ g lo) := bnK_fo
  have hk2 : VK (bnK κ σ g lo) v ((bd, i, j, pl, nv, vs, L0 ++ (1, t, h0, ph, u) :: Es, O, s, md) :: r) := hk.fr (fo.1.1 _ (by omega)).1 (fo.1.1 _ (by omega)).1 (fo.1.1 _ (by omega)).2.2 (by rw [fo.1.2.2.2]; exact Nat.le_refl _)
  exact k_6_unwind_50 _ ⟨hk2.v, 1, by omega, vk_close hk2 he (fun κ' vo vk => ⟨rfl, q _ κ' (if_pos c).symm vo vk⟩)⟩
/-- a try's block or catch -/
theorem kc_unwindD {N : Int32} {cs : List Nat} {vl : Int32} (hk : VK κ v ((bd, i, j, pl, nv, vs, L0 ++ (1, t, h0, ph, u) :: Es, O, s, md) :: r)) (he : noG Es) (hz : tsz 0 ((bd, i, j, pl, nv, vs, L0 ++ (1, t, h0, ph, u) :: Es, O, s, md) :: r) ≤ 16000) (hph : ph < 2) (h14 : kI κ 79 14 = nI (g + 1)) (fl : FRl κ σ F0) (hg : g < F0) (cf : CF κ0 κ m) (hN : N = if ph = 0 then aI σ 89 g else 14) (hN2 : N ≠ -1 ∧ N ≠ -9) (hvl : aI σ 90 g = vl) (hl : cs.length ≤ 1000) (hc : Chn κ0 σ0 (Good2 κ0 σ0 (fun _ => False)) bd (L0.map itm) t h0 cs h0)
    (qc : ∀ c hc v2 jc pre post κ', cs = pre ++ c :: post → (∀ y, y ∈ pre → ¬ Mt σ0 N y) → Mt σ0 N c → hc + 3 < m → v2 < nvB σ0 bd → aI σ0 31 c = nI v2 → kI κ0 69 (hc + 2) = 3 → kI κ0 70 (hc + 2) = nI v2 → aI σ0 32 c = nI jc → Good2 κ0 σ0 (fun _ => False) (bd, hc + 3, jc, L0.map itm ++ [(1, t, h0, 1)], 0, 0) → aI σ0 33 c = nI (ccI L0) → Vo v (cI κ 79 14 0) κ' → VK κ' v ((bd, hc + 2, jc, pl, nv, vs, L0 ++ [(1, t, h0, 1, nI (g + 1))], [vl], 1, 0) :: r) → C κ')
    (qf : ∀ he jf κ', (∀ y, y ∈ cs → ¬ Mt σ0 N y) → he + 1 < m → aI σ0 27 t = nI jf → Good2 κ0 σ0 (fun _ => False) (bd, he + 1, jf, L0.map itm ++ [(1, t, h0, 2)], 0, 0) → Vo v (fiK (cI κ 79 14 0) v) κ' → VK κ' v ((bd, he + 1, jf, pl, nv, vs, L0 ++ [(1, t, h0, 3, nI (g + 1))], [], 0, 0) :: r) → C κ')
    (qn : ∀ κ', (∀ y, y ∈ cs → ¬ Mt σ0 N y) → aI σ0 27 t = -9 → Vo v κ κ' → VK κ' v ((bd, i, j, pl, nv, vs, L0, [], s, md) :: r) → C κ') : KC' X 4 MX6_unwind [vR 79, vR (1002 + 8 * v)] κ (kRV C) := by
  obtain ⟨cd, hm, e68, e69, e70⟩ := cf
  refine KC_of_K rfl (Nat.le_of_ble_eq_true rfl) rfl (k_6_unwind_0 _ ⟨hk.v, 0, by omega, ?_⟩)
  refine vk_isGuarded hk (by omega) (fun c => absurd c notG) (fun _ => ⟨fun z => absurd z (by decide), fun _ => ⟨1, by omega, ?_⟩⟩)
  refine vk_isInGuarded hk he (by omega) (fun _ => ⟨fun z => absurd z (by decide), fun _ => ⟨1, by omega, ?_⟩⟩) (fun c => absurd c (by omega))
  refine vk_handlers hk he ⟨1, by omega, vk_phase hk he ?_⟩
  have main : K X 4 MX6_unwind 85 [(0, vR 79), (1, vR (1002 + 8 * v)), (2, vI (nI (g + 1)))] [vI N, vI (nI h0), vR 79] κ (kRV C) := by
    refine k_6_unwind_85 _ _ _ _ ⟨hk.v, 1, by omega, ?_⟩
    refine kc_handlerOf (κ0 := κ0) (σ0 := σ0) cd hm e68 e69 e70 hN2 hl hc (fun c hc v2 jc pre post a1 a2 a3 a4 a5 a6 a7 a8 a9 a10 a11 a12 => ⟨0, by omega, ?_⟩) (fun hx a1 a2 a3 => ⟨0, by omega, ?_⟩)
    · refine kc_actC cd (by omega) ?_
      rw [e69, a5]
      refine ⟨fun _ => ?_, fun z => absurd rfl z⟩
      rintro κ15 rfl
      have hk2 : VK (cI κ 79 14 0) v ((bd, i, j, pl, nv, vs, L0 ++ (1, t, h0, ph, u) :: Es, O, s, md) :: r) := hk.oth (by omega) (by omega)
      refine ⟨1, by omega, ?_⟩
      rw [litI 2, nI_add]
      refine vk_turn (b' := bd) (i' := hc + 2) (j' := jc) (s' := 1) (md' := 0) (t' := t) (ph' := 1) (x' := nI (g + 1)) hk2 he (fun κ2 vo2 vk2 => ⟨1, by omega, ?_⟩)
      have fl2 : FRl κ2 σ F0 := fl.fr (by rw [(vo2.h (h := 84) (by omega) (by omega)).1, kI_ne (by decide)]) ((vo2.h (h := 85) (by omega) (by omega)).1.trans (kI_ne (by decide))) (vo2.h (h := 85) (by omega) (by omega)).2.2 (fun _ _ _ => rfl)
      refine kc_fvalue fl2 hg ⟨3, by omega, ?_⟩
      rw [hvl]
      have hz2 : tsz 0 r + (4 + nv + psz (L0 ++ (1, t, h0, ph, u) :: Es) + O.length) ≤ 16000 := hz
      rw [psz_last] at hz2
      refine vk_push (b' := bd) (j' := jc) (s' := 1) (md' := 0) vk2 (by
        show tsz 0 r + (4 + nv + psz (L0 ++ [(1, t, h0, 1, nI (g + 1))]) + 0) ≤ 17000
        rw [psz_last]
        show tsz 0 r + (4 + nv + (psz L0 + (4 + 0)) + 0) ≤ 17000
        omega) (fun κ3 vo3 vk3 => k_6_unwind_175 _ _ _ ⟨rfl, qc c hc v2 jc pre post κ3 a1 a2 a3 a4 a6 a7 a8 a9 a10 a11 a12 (vo2.trans vo3) vk3⟩)
    · rcases a3 with ⟨b1, b2, jf, b3, b4⟩ | ⟨b1, b2⟩
      · refine kc_actC cd (by omega) ?_
        rw [e69, b2]
        refine ⟨fun z => absurd z (by decide), fun _ => ⟨0, by omega, kc_actC cd (by omega) ?_⟩⟩
        rw [e69, b2]
        refine ⟨fun _ => ?_, fun z => absurd rfl z⟩
        rintro κ39 rfl κ40 rfl
        have hk2 : VK (fiK (cI κ 79 14 0) v) v ((bd, i, j, pl, nv, vs, L0 ++ (1, t, h0, ph, u) :: Es, O, s, md) :: r) := (hk.oth (g := 79) (by omega) (by omega)).fin
        refine ⟨1, by omega, ?_⟩
        rw [litI 1, nI_add]
        exact vk_turn (b' := bd) (i' := hx + 1) (j' := jf) (s' := 0) (md' := 0) (t' := t) (ph' := 3) (x' := nI (g + 1)) hk2 he (fun κ2 vo2 vk2 => k_6_unwind_175 _ _ _ ⟨rfl, qf hx jf κ2 a1 b1 b3 b4 vo2 vk2⟩)
      · have shut : ∀ y, ¬ y = 41 → ¬ y = 43 → KC' X 0 MX1_act [vR 68, vI (nI hx)] κ (kRI fun y4 κ12 => y4 = y ∧ κ12 = κ) → KC' X 0 MX1_act [vR 68, vI (nI hx)] κ (kRI fun y11 κ12 => ((y11 = 41 → ∀ κ15 : Km, κ15 = cI κ12 79 14 0 → ∃ e16 : Nat, e16 + 1 ≤ 4 ∧ KC' X e16 MX10_turnGuard [vR (1002 + 8 * v), vI 1, vI (nI (g + 1)), vI (nI hx + 2)] κ15 (kRV fun κ19 => ∃ e21 : Nat, e21 + 1 ≤ 4 ∧ KC' X e21 MX2_value [vR 84, vI (nI (g + 1))] κ19 (kRI fun y24 κ25 => ∃ e27 : Nat, e27 + 1 ≤ 4 ∧ KC' X e27 MX10_push [vR (1002 + 8 * v), vI y24] κ25 (kRV fun κ30 => K X 4 MX6_unwind 175 [(0, vR 79), (1, vR (1002 + 8 * v)), (2, vI (nI (g + 1))), (3, vI (nI hx))] [] κ30 (kRV C))))) ∧ (¬ y11 = 41 → ∃ e32 : Nat, e32 + 1 ≤ 4 ∧ KC' X e32 MX1_act [vR 68, vI (nI hx)] κ12 (kRI fun y35 κ36 => ((y35 = 43 → ∀ κ39 : Km, κ39 = cI κ36 79 14 0 → ∀ κ40 : Km, κ40 = cI κ39 (1002 + 8 * v) 7 ((kI κ39 (1002 + 8 * v) 7) + 1) → ∃ e41 : Nat, e41 + 1 ≤ 4 ∧ KC' X e41 MX10_turnGuard [vR (1002 + 8 * v), vI 3, vI (nI (g + 1)), vI (nI hx + 1)] κ40 (kRV fun κ44 => K X 4 MX6_unwind 175 [(0, vR 79), (1, vR (1002 + 8 * v)), (2, vI (nI (g + 1))), (3, vI (nI hx))] [] κ44 (kRV C))) ∧ (¬ y35 = 43 → ∃ e46 : Nat, e46 + 1 ≤ 4 ∧ KC' X e46 MX10_closeGuard [vR (1002 + 8 * v)] κ36 (kRV fun κ49 => K X 4 MX6_unwind 175 [(0, vR 79), (1, vR (1002 + 8 * v)), (2, vI (nI (g + 1))), (3, vI (nI hx))] [] κ49 (kRV C)))))))) := fun y c1 c2 h => by
          refine h.mono ?_
          rintro r0 κ12 ⟨y0, rfl, rfl, rfl⟩
          refine ⟨y0, rfl, fun z => absurd z c1, fun _ => ⟨0, by omega, h.mono ?_⟩⟩
          rintro r1 κ36 ⟨y1, rfl, rfl, rfl⟩
          exact ⟨y1, rfl, fun z => absurd z c2, fun _ => ⟨1, by omega, vk_close hk he (fun κ' vo vk => k_6_unwind_175 _ _ _ ⟨rfl, qn κ' a1 b2 vo vk⟩)⟩⟩
        by_cases c : m ≤ hx
        · exact shut 0 (by decide) (by decide) (kc_actO cd c a2 ⟨rfl, rfl⟩)
        · exact shut 44 (by decide) (by decide) (kc_actC cd (by omega) ⟨by rw [e69]; exact b1.resolve_left c, rfl⟩)
  rw [litI 0, eq_nI (by omega) (by omega), h14]
  refine ⟨fun c => ⟨1, by omega, kc_fnumber fl hg ?_⟩, fun c => ?_⟩
  · rw [if_pos c] at hN
    rw [← hN]
    exact main
  · rw [if_neg c] at hN
    rw [← hN]
    exact main
end UNWIND
