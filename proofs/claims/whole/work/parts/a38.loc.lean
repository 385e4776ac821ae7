/-! THE ACTS OF ONE VOICE ALONE, one by one -/
section LOC
variable {X : Cx} {d e : Nat} {κ0 κ : Km} {σ0 σ : Rm} {b V al S LT HT sp F0 v x : Nat} {st : Nat → Nat} {fr : Nat → List Frm} {pt : Nat → Nat} {ch : List Nat} {w : Nat → Nat} {r : List Frm}
variable {bd i j nv s md : Nat} {pl : Int32} {vs : Nat → Int32} {L : List Ite} {O : List Int32}
theorem FrO.to {pl' : Int32} {vs' : Nat → Int32} {O' : List Int32} {i' j' s' : Nat} (o : FrO κ0 σ0 F0 b (bd, i, j, pl, nv, vs, L, O, s, md)) (hs : s' ≤ 1) (g : Good2 κ0 σ0 (fun _ => False) (bd, i', j', L.map itm, O'.length, s')) : FrO κ0 σ0 F0 b (bd, i', j', pl', nv, vs', L, O', s', 0) :=
  ⟨o.1, o.2.1, hs, o.2.2.2.1, Or.inl ⟨rfl, g⟩⟩
theorem Rn.num (h : Rn κ0 σ0 κ σ b V al S LT HT sp F0 st fr pt ch w v (bd, i, j, pl, nv, vs, L, O, s, md) r) : i < 9500 ∧ tsz 0 r + (4 + nv + psz L + O.length) ≤ 15720 ∧ nv ≤ 12 ∧ O.length ≤ 150 ∧ nvB σ0 bd = nv ∧ s ≤ 1 ∧ r.length + 1 ≤ 60 ∧ (1 ≤ v ∧ v ≤ 60) ∧ FrO κ0 σ0 F0 b (bd, i, j, pl, nv, vs, L, O, s, md) ∧ VR σ v (pt v) ((bd, i, j, pl, nv, vs, L, O, s, md) :: r) := by
  obtain ⟨⟨c1, c2, c3⟩, c4, c5, c6, ⟨m, c7, c8, c9, -⟩, -, -, -, c14⟩ := h.cls
  have c8 : i < m := c8
  obtain ⟨a, b0, ⟨c, vr, c'⟩, ⟨d1, d2, d3⟩, e1, g1⟩ := h
  have hb := vr.bd.2.2
  have fb := vr.2.2.2.2.1
  have hnv : nv ≤ 12 := fb.1
  have h21 : aI σ0 21 bd = nI nv := d2.2.1
  refine ⟨by omega, hb, hnv, fb.2.2.1, ?_, d2.2.2.1, vr.1.2.2.2, by omega, d2, vr⟩
  unfold nvB
  rw [h21, cl_nI (by omega)]
theorem lc_const (h : Rn κ0 σ0 κ σ b V al S LT HT sp F0 st fr pt ch w v (bd, i, j, pl, nv, vs, L, O, s, md) r) (all : AllOK X d (e + 1) κ0 σ0 b (pot V S st fr)) (hx : x + pot V S st fr ≤ 199000000) (hd : 7 ≤ d) (he : 2 ≤ e) (hs : s = 1) (e69 : kI κ0 69 i = 1) (e13 : aI σ0 13 j = 1) (e14 : aI σ0 14 j = kI κ0 70 i) (g : Good2 κ0 σ0 (fun _ => False) (bd, i + 1, j + 1, L.map itm, O.length + 1, 1)) : RunOK X d (e + 1) κ0 σ0 κ σ b x (HT + 2 * pot V S st fr) := by
  obtain ⟨n1, n2, n3, n4, n5, n6, n7, n8, n9, vr⟩ := h.num
  obtain ⟨-, -, -, -, -, -, c12, c13, -⟩ := h.cls
  obtain ⟨-, l2, -, l4, -, l6, -⟩ := g.loc
  have l4 : j + 1 + 1 < 12000 := l4
  have l6 : O.length + 1 ≤ 150 := l6
  refine h.wk (f' := (bd, i + 1, j + 1, pl, nv, vs, L, O ++ [kI κ0 70 i], 1, 0)) (ew := 4) (a := 1) all hx (by omega) (by decide) e69 rfl (n9.to (by omega) (by rw [List.length_append]; exact g)) (by rw [hs]; exact Nat.le_refl 1) ?_ rfl ?_ (fun κ1 vk1 _ => wk_const vk1 (by omega) (fun κ' vo vk => ⟨rfl, vo, vk⟩))
  · show (9600 - (i + 1)) + 22000 * 1 + gws L < (9600 - i) + 22000 * s + gws L
    omega
  · exact on_num he c12 vr (by omega) (by rw [c13 13 (by omega) (by omega)]; exact e13) (by rw [c13 14 (by omega) (by omega)]; exact e14) (by omega) (by omega) (fun σ' ro vr' => ⟨rfl, ro, vr'⟩)
theorem lc_load {u : Nat} (h : Rn κ0 σ0 κ σ b V al S LT HT sp F0 st fr pt ch w v (bd, i, j, pl, nv, vs, L, O, s, md) r) (all : AllOK X d (e + 1) κ0 σ0 b (pot V S st fr)) (hx : x + pot V S st fr ≤ 199000000) (hd : 7 ≤ d) (he : 2 ≤ e) (hs : s = 1) (e69 : kI κ0 69 i = 2) (e13 : aI σ0 13 j = 2) (hu : u < nvB σ0 bd) (e70 : kI κ0 70 i = nI u) (e14 : aI σ0 14 j = nI u) (g : Good2 κ0 σ0 (fun _ => False) (bd, i + 1, j + 1, L.map itm, O.length + 1, 1)) : RunOK X d (e + 1) κ0 σ0 κ σ b x (HT + 2 * pot V S st fr) := by
  obtain ⟨n1, n2, n3, n4, n5, n6, n7, n8, n9, vr⟩ := h.num
  obtain ⟨-, -, -, -, -, -, c12, c13, -⟩ := h.cls
  obtain ⟨-, l2, -, l4, -, l6, -⟩ := g.loc
  have l4 : j + 1 + 1 < 12000 := l4
  have l6 : O.length + 1 ≤ 150 := l6
  refine h.wk (f' := (bd, i + 1, j + 1, pl, nv, vs, L, O ++ [vs u], 1, 0)) (ew := 4) (a := 2) all hx (by omega) (by decide) e69 rfl (n9.to (by omega) (by rw [List.length_append]; exact g)) (by rw [hs]; exact Nat.le_refl 1) ?_ rfl ?_ (fun κ1 vk1 _ => by rw [e70]; exact wk_load vk1 (by omega) (by omega) (fun κ' vo vk => ⟨rfl, vo, vk⟩))
  · show (9600 - (i + 1)) + 22000 * 1 + gws L < (9600 - i) + 22000 * s + gws L
    omega
  · exact on_var he c12 vr (by omega) (by rw [c13 13 (by omega) (by omega)]; exact e13) (by rw [c13 14 (by omega) (by omega)]; exact e14) (by omega) (by omega) (by omega) (fun σ' ro vr' => ⟨rfl, ro, vr'⟩)
theorem lc_me (h : Rn κ0 σ0 κ σ b V al S LT HT sp F0 st fr pt ch w v (bd, i, j, pl, nv, vs, L, O, s, md) r) (all : AllOK X d (e + 1) κ0 σ0 b (pot V S st fr)) (hx : x + pot V S st fr ≤ 199000000) (hd : 7 ≤ d) (he : 2 ≤ e) (hs : s = 1) (e69 : kI κ0 69 i = 5) (e13 : aI σ0 13 j = 13) (g : Good2 κ0 σ0 (fun _ => False) (bd, i + 1, j + 1, L.map itm, O.length + 1, 1)) : RunOK X d (e + 1) κ0 σ0 κ σ b x (HT + 2 * pot V S st fr) := by
  obtain ⟨n1, n2, n3, n4, n5, n6, n7, n8, n9, vr⟩ := h.num
  obtain ⟨-, -, -, -, -, -, c12, c13, -⟩ := h.cls
  obtain ⟨-, l2, -, l4, -, l6, -⟩ := g.loc
  have l4 : j + 1 + 1 < 12000 := l4
  have l6 : O.length + 1 ≤ 150 := l6
  refine h.wk (f' := (bd, i + 1, j + 1, pl, nv, vs, L, O ++ [nI v], 1, 0)) (ew := 4) (a := 5) all hx (by omega) (by decide) e69 rfl (n9.to (by omega) (by rw [List.length_append]; exact g)) (by rw [hs]; exact Nat.le_refl 1) ?_ rfl ?_ (fun κ1 vk1 h0 => wk_me vk1 h0 (by omega) (fun κ' vo vk => ⟨rfl, vo, vk⟩))
  · show (9600 - (i + 1)) + 22000 * 1 + gws L < (9600 - i) + 22000 * s + gws L
    omega
  · exact on_me he c12 vr (by omega) (by rw [c13 13 (by omega) (by omega)]; exact e13) (by omega) (by omega) (fun σ' ro vr' => ⟨rfl, ro, vr'⟩)
theorem lc_store {u : Nat} {y : Int32} (h : Rn κ0 σ0 κ σ b V al S LT HT sp F0 st fr pt ch w v (bd, i, j, pl, nv, vs, L, O ++ [y], s, md) r) (all : AllOK X d (e + 1) κ0 σ0 b (pot V S st fr)) (hx : x + pot V S st fr ≤ 199000000) (hd : 7 ≤ d) (he : 2 ≤ e) (e69 : kI κ0 69 i = 3) (e13 : aI σ0 13 j = 3) (hu : u < nvB σ0 bd) (e70 : kI κ0 70 i = nI u) (e14 : aI σ0 14 j = nI u) (g : Good2 κ0 σ0 (fun _ => False) (bd, i + 1, j + 1, L.map itm, O.length, 0)) : RunOK X d (e + 1) κ0 σ0 κ σ b x (HT + 2 * pot V S st fr) := by
  obtain ⟨n1, n2, n3, n4, n5, n6, n7, n8, n9, vr⟩ := h.num
  obtain ⟨-, -, -, -, -, -, c12, c13, -⟩ := h.cls
  obtain ⟨-, l2, -, l4, -, l6, -⟩ := g.loc
  have l4 : j + 1 + 1 < 12000 := l4
  rw [List.length_append] at n2
  refine h.wk (f' := (bd, i + 1, j + 1, pl, nv, ud vs u y, L, O, 0, 0)) (ew := 4) (a := 3) all hx (by omega) (by decide) e69 rfl (n9.to (by omega) g) (Nat.zero_le _) ?_ rfl ?_ (fun κ1 vk1 _ => by rw [e70]; exact wk_store vk1 (by omega) (by omega) (fun κ' vo vk => ⟨rfl, vo, vk⟩))
  · show (9600 - (i + 1)) + 22000 * 0 + gws L < (9600 - i) + 22000 * s + gws L
    omega
  · exact on_set he c12 vr (by omega) (by rw [c13 13 (by omega) (by omega)]; exact e13) (by rw [c13 14 (by omega) (by omega)]; exact e14) (by omega) (by omega) (fun σ' ro vr' => ⟨rfl, ro, vr'⟩)
theorem lc_pop {y : Int32} (h : Rn κ0 σ0 κ σ b V al S LT HT sp F0 st fr pt ch w v (bd, i, j, pl, nv, vs, L, O ++ [y], s, md) r) (all : AllOK X d (e + 1) κ0 σ0 b (pot V S st fr)) (hx : x + pot V S st fr ≤ 199000000) (hd : 7 ≤ d) (he : 2 ≤ e) (e69 : kI κ0 69 i = 4) (e13 : aI σ0 13 j = 22) (g : Good2 κ0 σ0 (fun _ => False) (bd, i + 1, j + 1, L.map itm, O.length, 0)) : RunOK X d (e + 1) κ0 σ0 κ σ b x (HT + 2 * pot V S st fr) := by
  obtain ⟨n1, n2, n3, n4, n5, n6, n7, n8, n9, vr⟩ := h.num
  obtain ⟨-, -, -, -, -, -, c12, c13, -⟩ := h.cls
  obtain ⟨-, l2, -, l4, -, l6, -⟩ := g.loc
  have l4 : j + 1 + 1 < 12000 := l4
  refine h.wk (f' := (bd, i + 1, j + 1, pl, nv, vs, L, O, 0, 0)) (ew := 4) (a := 4) all hx (by omega) (by decide) e69 rfl (n9.to (by omega) g) (Nat.zero_le _) ?_ rfl ?_ (fun κ1 vk1 _ => wk_pop vk1 (fun κ' vo vk => ⟨rfl, vo, vk⟩))
  · show (9600 - (i + 1)) + 22000 * 0 + gws L < (9600 - i) + 22000 * s + gws L
    omega
  · exact on_pop he c12 vr (by omega) (by rw [c13 13 (by omega) (by omega)]; exact e13) (by omega) (fun σ' ro vr' => ⟨rfl, ro, vr'⟩)
theorem lc_neg {y : Int32} (h : Rn κ0 σ0 κ σ b V al S LT HT sp F0 st fr pt ch w v (bd, i, j, pl, nv, vs, L, O ++ [y], s, md) r) (all : AllOK X d (e + 1) κ0 σ0 b (pot V S st fr)) (hx : x + pot V S st fr ≤ 199000000) (hd : 7 ≤ d) (he : 2 ≤ e) (hs : s = 1) (e69 : kI κ0 69 i = 6) (e13 : aI σ0 13 j = 11) (g : Good2 κ0 σ0 (fun _ => False) (bd, i + 1, j + 1, L.map itm, O.length + 1, 1)) : RunOK X d (e + 1) κ0 σ0 κ σ b x (HT + 2 * pot V S st fr) := by
  obtain ⟨n1, n2, n3, n4, n5, n6, n7, n8, n9, vr⟩ := h.num
  obtain ⟨-, -, -, -, -, -, c12, c13, -⟩ := h.cls
  obtain ⟨-, l2, -, l4, -, l6, -⟩ := g.loc
  have l4 : j + 1 + 1 < 12000 := l4
  rw [List.length_append] at n2
  refine h.wk (f' := (bd, i + 1, j + 1, pl, nv, vs, L, O ++ [-y], 1, 0)) (ew := 4) (a := 6) all hx (by omega) (by decide) e69 rfl (n9.to (by omega) (by rw [List.length_append]; exact g)) (by rw [hs]; exact Nat.le_refl 1) ?_ rfl ?_ (fun κ1 vk1 _ => wk_neg vk1 (by omega) (fun κ' vo vk => ⟨rfl, vo, vk⟩))
  · show (9600 - (i + 1)) + 22000 * 1 + gws L < (9600 - i) + 22000 * s + gws L
    omega
  · exact on_neg he c12 vr (by omega) (by rw [c13 13 (by omega) (by omega)]; exact e13) (by omega) (fun σ' ro vr' => ⟨rfl, ro, vr'⟩)
theorem lc_not {y : Int32} (h : Rn κ0 σ0 κ σ b V al S LT HT sp F0 st fr pt ch w v (bd, i, j, pl, nv, vs, L, O ++ [y], s, md) r) (all : AllOK X d (e + 1) κ0 σ0 b (pot V S st fr)) (hx : x + pot V S st fr ≤ 199000000) (hd : 7 ≤ d) (he : 2 ≤ e) (hs : s = 1) (e69 : kI κ0 69 i = 7) (e13 : aI σ0 13 j = 12) (g : Good2 κ0 σ0 (fun _ => False) (bd, i + 1, j + 1, L.map itm, O.length + 1, 1)) : RunOK X d (e + 1) κ0 σ0 κ σ b x (HT + 2 * pot V S st fr) := by
  obtain ⟨n1, n2, n3, n4, n5, n6, n7, n8, n9, vr⟩ := h.num
  obtain ⟨-, -, -, -, -, -, c12, c13, -⟩ := h.cls
  obtain ⟨-, l2, -, l4, -, l6, -⟩ := g.loc
  have l4 : j + 1 + 1 < 12000 := l4
  rw [List.length_append] at n2
  refine h.wk (f' := (bd, i + 1, j + 1, pl, nv, vs, L, O ++ [if y = 0 then 1 else 0], 1, 0)) (ew := 4) (a := 7) all hx (by omega) (by decide) e69 rfl (n9.to (by omega) (by rw [List.length_append]; exact g)) (by rw [hs]; exact Nat.le_refl 1) ?_ rfl ?_ (fun κ1 vk1 _ => wk_not vk1 (by omega) (fun κ' vo vk => ⟨rfl, vo, vk⟩))
  · show (9600 - (i + 1)) + 22000 * 1 + gws L < (9600 - i) + 22000 * s + gws L
    omega
  · exact on_not he c12 vr (by omega) (by rw [c13 13 (by omega) (by omega)]; exact e13) (by omega) (fun σ' ro vr' => ⟨rfl, ro, vr'⟩)
theorem lc_jump {i2 j2 : Nat} (h : Rn κ0 σ0 κ σ b V al S LT HT sp F0 st fr pt ch w v (bd, i, j, pl, nv, vs, L, O, s, md) r) (all : AllOK X d (e + 1) κ0 σ0 b (pot V S st fr)) (hx : x + pot V S st fr ≤ 199000000) (hd : 7 ≤ d) (he : 2 ≤ e) (e69 : kI κ0 69 i = 15) (e13 : aI σ0 13 j = 23) (hj : j + 1 < 12000) (e70 : kI κ0 70 i = nI i2) (e14 : aI σ0 14 j = nI j2) (hi2 : i < i2) (g : Good2 κ0 σ0 (fun _ => False) (bd, i2, j2, L.map itm, O.length, 0)) : RunOK X d (e + 1) κ0 σ0 κ σ b x (HT + 2 * pot V S st fr) := by
  obtain ⟨n1, n2, n3, n4, n5, n6, n7, n8, n9, vr⟩ := h.num
  obtain ⟨-, -, -, -, -, -, c12, c13, -⟩ := h.cls
  obtain ⟨-, l2, -, l4, -, l6, -⟩ := g.loc
  have l4 : j2 + 1 < 12000 := l4
  have l2 : i2 + 1 < 20000 := l2
  refine h.wk (f' := (bd, i2, j2, pl, nv, vs, L, O, 0, 0)) (ew := 4) (a := 15) all hx (by omega) (by decide) e69 rfl (n9.to (by omega) g) (Nat.zero_le _) ?_ rfl ?_ (fun κ1 vk1 _ => by rw [e70]; exact wk_jump vk1 (fun κ' vo vk => ⟨rfl, vo, vk⟩))
  · show (9600 - i2) + 22000 * 0 + gws L < (9600 - i) + 22000 * s + gws L
    omega
  · exact on_jump he c12 vr hj (by rw [c13 13 (by omega) (by omega)]; exact e13) (by rw [c13 14 (by omega) (by omega)]; exact e14) (by omega) (by omega) (fun σ' ro vr' => ⟨rfl, ro, vr'⟩)
theorem lc_unless {i2 j2 : Nat} {y : Int32} (h : Rn κ0 σ0 κ σ b V al S LT HT sp F0 st fr pt ch w v (bd, i, j, pl, nv, vs, L, O ++ [y], s, md) r) (all : AllOK X d (e + 1) κ0 σ0 b (pot V S st fr)) (hx : x + pot V S st fr ≤ 199000000) (hd : 7 ≤ d) (he : 2 ≤ e) (e69 : kI κ0 69 i = 16) (e13 : aI σ0 13 j = 24) (e70 : kI κ0 70 i = nI i2) (e14 : aI σ0 14 j = nI j2) (hi2 : i < i2) (g1 : Good2 κ0 σ0 (fun _ => False) (bd, i + 1, j + 1, L.map itm, O.length, 0)) (g2 : Good2 κ0 σ0 (fun _ => False) (bd, i2, j2, L.map itm, O.length, 0)) : RunOK X d (e + 1) κ0 σ0 κ σ b x (HT + 2 * pot V S st fr) := by
  obtain ⟨n1, n2, n3, n4, n5, n6, n7, n8, n9, vr⟩ := h.num
  obtain ⟨-, -, -, -, -, -, c12, c13, -⟩ := h.cls
  obtain ⟨-, k2, -, k4, -, k6, -⟩ := g1.loc
  obtain ⟨-, l2, -, l4, -, l6, -⟩ := g2.loc
  have l4 : j2 + 1 < 12000 := l4
  have l2 : i2 + 1 < 20000 := l2
  have k4 : j + 1 + 1 < 12000 := k4
  have hi' : (if y = 0 then i2 else i + 1) < 20000 := by split <;> omega
  refine h.wk (f' := (bd, if y = 0 then i2 else i + 1, if y = 0 then j2 else j + 1, pl, nv, vs, L, O, 0, 0)) (ew := 4) (a := 16) all hx (by omega) (by decide) e69 rfl (n9.to (by omega) (by split <;> assumption)) (Nat.zero_le _) ?_ rfl ?_ (fun κ1 vk1 _ => by rw [e70]; exact wk_unless vk1 (fun κ' vo vk => ⟨rfl, vo, vk⟩))
  · show (9600 - (if y = 0 then i2 else i + 1)) + 22000 * 0 + gws L < (9600 - i) + 22000 * s + gws L
    split <;> omega
  · exact on_unless he c12 vr (by omega) (by rw [c13 13 (by omega) (by omega)]; exact e13) (by rw [c13 14 (by omega) (by omega)]; exact e14) (by omega) hi' (fun σ' ro vr' => ⟨rfl, ro, vr'⟩)
theorem lc_duo {k : Nat} {y z : Int32} (h : Rn κ0 σ0 κ σ b V al S LT HT sp F0 st fr pt ch w v (bd, i, j, pl, nv, vs, L, O ++ [y] ++ [z], s, md) r) (all : AllOK X d (e + 1) κ0 σ0 b (pot V S st fr)) (hx : x + pot V S st fr ≤ 199000000) (hd : 7 ≤ d) (he : 2 ≤ e) (hs : s = 1) (hk7 : k < 7) (e69 : kI κ0 69 i = nI (8 + k)) (e13 : aI σ0 13 j = nI (4 + k)) (h0 : ¬ ((k = 3 ∨ k = 4) ∧ z = 0)) (g : Good2 κ0 σ0 (fun _ => False) (bd, i + 1, j + 1, L.map itm, O.length + 1, 1)) : RunOK X d (e + 1) κ0 σ0 κ σ b x (HT + 2 * pot V S st fr) := by
  obtain ⟨n1, n2, n3, n4, n5, n6, n7, n8, n9, vr⟩ := h.num
  obtain ⟨-, -, -, -, -, -, c12, c13, -⟩ := h.cls
  obtain ⟨-, l2, -, l4, -, l6, -⟩ := g.loc
  have l4 : j + 1 + 1 < 12000 := l4
  rw [List.length_append, List.length_append] at n2
  refine h.wk (f' := (bd, i + 1, j + 1, pl, nv, vs, L, O ++ [rk k y z], 1, 0)) (ew := 5) (a := 8 + k) all hx (by omega) (by omega) e69 rfl (n9.to (by omega) (by rw [List.length_append]; exact g)) (by rw [hs]; exact Nat.le_refl 1) ?_ rfl ?_ (fun κ1 vk1 _ => wk_duo (j' := j + 1) (s' := 1) (md' := 0) hk7 vk1 (by omega) (fun _ κ' vo vk => ⟨rfl, vo, vk⟩) (fun c => absurd c h0))
  · show (9600 - (i + 1)) + 22000 * 1 + gws L < (9600 - i) + 22000 * s + gws L
    omega
  · exact on_duo (i' := i + 1) (s' := 1) (md' := 0) (by omega) hk7 c12 vr (by omega) (by rw [c13 13 (by omega) (by omega)]; exact e13) (by omega) (fun _ σ' ro vr' => ⟨rfl, ro, vr'⟩) (fun c => absurd c h0)
end LOC
