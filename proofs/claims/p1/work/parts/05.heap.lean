/-! memory: reading, writing, making; branches; ends -/
def KC (ci : Nat) (Cn : String) (T : u_T) (N : Nat) (ty : Nat → FieldType) : Prop :=
  kcl[ci]? = some (Cn, T, N) ∧ (∀ w ∈ u_ws Cn T N, w ∈ lw_tbl) ∧ (∀ k, k < N → parseFieldDescriptor (T k).2.2.1 = some (ty k)) ∧ (∀ a, a < N → ∀ b, b < N → a ≠ b → (T a).2.1 ≠ (T b).2.1) ∧ kN.getD ci 0 = N ∧ kty.getD ci (fun _ => .int) = ty ∧ ci < 14
theorem kc0 : KC 0 RX0 TX0 9 tyX0 := ⟨rfl, inX0, tyX0_ok, nmX0, rfl, rfl, by decide⟩
theorem kc1 : KC 1 RX1 TX1 3 tyX1 := ⟨rfl, inX1, tyX1_ok, nmX1, rfl, rfl, by decide⟩
theorem kc2 : KC 2 RX2 TX2 8 tyX2 := ⟨rfl, inX2, tyX2_ok, nmX2, rfl, rfl, by decide⟩
theorem kc3 : KC 3 RX3 TX3 3 tyX3 := ⟨rfl, inX3, tyX3_ok, nmX3, rfl, rfl, by decide⟩
theorem kc4 : KC 4 RX4 TX4 3 tyX4 := ⟨rfl, inX4, tyX4_ok, nmX4, rfl, rfl, by decide⟩
theorem kc5 : KC 5 RX5 TX5 6 tyX5 := ⟨rfl, inX5, tyX5_ok, nmX5, rfl, rfl, by decide⟩
theorem kc6 : KC 6 RX6 TX6 18 tyX6 := ⟨rfl, inX6, tyX6_ok, nmX6, rfl, rfl, by decide⟩
theorem kc7 : KC 7 RX7 TX7 4 tyX7 := ⟨rfl, inX7, tyX7_ok, nmX7, rfl, rfl, by decide⟩
theorem kc8 : KC 8 RX8 TX8 2 tyX8 := ⟨rfl, inX8, tyX8_ok, nmX8, rfl, rfl, by decide⟩
theorem kc9 : KC 9 RX9 TX9 9 tyX9 := ⟨rfl, inX9, tyX9_ok, nmX9, rfl, rfl, by decide⟩
theorem kc10 : KC 10 RX10 TX10 16 tyX10 := ⟨rfl, inX10, tyX10_ok, nmX10, rfl, rfl, by decide⟩
theorem kc11 : KC 11 RX11 TX11 6 tyX11 := ⟨rfl, inX11, tyX11_ok, nmX11, rfl, rfl, by decide⟩
theorem kc12 : KC 12 RX12 TX12 7 tyX12 := ⟨rfl, inX12, tyX12_ok, nmX12, rfl, rfl, by decide⟩
theorem kc13 : KC 13 RX13 TX13 103 tyX13 := ⟨rfl, inX13, tyX13_ok, nmX13, rfl, rfl, by decide⟩
theorem u_good {Cn : String} {T : u_T} {N : Nat} : ∀ w ∈ u_ws Cn T N, (w.onTables && w.keeps) = true := by
  intro w hw
  obtain ⟨k, -, rfl⟩ := List.mem_map.mp hw
  unfold u_lay
  by_cases h : (T k).2.2.2 = true
  · rw [if_pos h]; rfl
  · rw [if_neg h]; rfl
theorem ad_ge {X : Cx} {a : Nat} (h : 64 ≤ a) : ad X a = xB X + (a - 64) := by unfold ad; rw [if_neg (by omega)]
theorem ad_ne {X : Cx} {a b : Nat} (h : 64 ≤ a) (h2 : 64 ≤ b) (n : b ≠ a) : ad X b ≠ ad X a := by rw [ad_ge h, ad_ge h2]; omega
theorem cvR {X : Cx} {a : Nat} (h : a ≠ 0) : cv X (vR a) = .ref (ad X a) := by show va_rf (rO X a) = _; unfold rO; rw [if_neg h]; rfl
theorem HR.ge {X : Cx} {S : Mem} {H : Heap} (h : HR X S H) {a k : Nat} (ho : isK S a k) (hk : k < 28) (h27 : a ≠ 27) : 64 ≤ a := by
  rcases Nat.lt_or_ge a 64 with q | q
  · have h1 := h.2.2.2.2.1 a q
    rw [ho.2] at h1
    unfold spk at h1
    rw [if_neg h27] at h1
    by_cases c1 : a = 1
    · rw [if_pos c1] at h1; omega
    · rw [if_neg c1] at h1
      by_cases c2 : 2 ≤ a ∧ a < 27
      · rw [if_pos c2] at h1; omega
      · rw [if_neg c2] at h1
        by_cases c3 : 28 ≤ a ∧ a < 53
        · rw [if_pos c3] at h1; omega
        · rw [if_neg c3] at h1; omega
  · exact q
theorem HR.geo {X : Cx} {S : Mem} {H : Heap} (h : HR X S H) {a k : Nat} (ho : isK S a k) (hk : k < 14) : 64 ≤ a := by
  refine h.ge ho (by omega) (fun q => ?_)
  have h1 := h.2.2.2.2.1 27 (by omega)
  rw [← q, ho.2] at h1
  rw [q] at h1
  unfold spk at h1
  rw [if_pos rfl] at h1
  omega
theorem HR.ob {X : Cx} {S : Mem} {H : Heap} (h : HR X S H) {a ci : Nat} {Cn : String} {T : u_T} {N : Nat} {ty : Nat → FieldType} (B : KC ci Cn T N ty) (ho : isK S a ci) : t_OB (ad X a) (xC X ci) N (xI X ci) H (fun j => fvl X S a (ty j) j) := by
  obtain ⟨-, -, -, -, b1, b2, b3⟩ := B
  have h1 := (h.2.2.2.1 a (h.geo ho b3) ho.1).2
  unfold atc at h1
  rw [ho.2, if_pos (by omega), b1, b2] at h1
  exact h1
theorem HR.ar {X : Cx} {S : Mem} {H : Heap} (h : HR X S H) {a k : Nat} (ho : isK S a k) (h0 : 64 ≤ a) (hk : 20 ≤ k) : H[ad X a]? = some (vp_cell (xA X k) (arc X S a)) := by
  have h1 := (h.2.2.2.1 a h0 ho.1).2
  unfold atc at h1
  rw [ho.2, if_neg (by omega)] at h1
  exact h1
theorem atc.congr {X : Cx} {S S2 : Mem} {b : Nat} {H H2 : Heap} (h : atc X S b H) (hK : gK S2 b = gK S b) (hN : gN S2 b = gN S b) (hI : gI S2 b = gI S b) (hL : gL S2 b = gL S b) (hR : gR S2 b = gR S b) (hq : H2[ad X b]? = H[ad X b]?) : atc X S2 b H2 := by
  unfold atc at h ⊢
  rw [hK]
  by_cases c : gK S b < 20
  · rw [if_pos c] at h ⊢
    refine (h.kept hq).to (fun k _ => ?_)
    unfold fvl
    rw [hI, hL, hR]
  · rw [if_neg c] at h ⊢
    rw [hq]
    have e : arc X S2 b = arc X S b := by unfold arc; rw [hK, hN, hI, hL, hR]
    rw [e]; exact h
theorem HR.set {X : Cx} {S S2 : Mem} {H H2 : Heap} (h : HR X S H) {a : Nat} (h0 : 64 ≤ a) (hs : H2.size = H.size) (oq : ∀ q : Nat, q ≠ ad X a → H2[q]? = H[q]?) (hat : atc X S2 a H2) (ht : tp S2 = tp S) (hK : ∀ b, gK S2 b = gK S b) (hN : ∀ b, gN S2 b = gN S b)
    (hI : ∀ b, b ≠ a → gI S2 b = gI S b) (hL : ∀ b, b ≠ a → gL S2 b = gL S b) (hR : ∀ b, b ≠ a → gR S2 b = gR S b) : HR X S2 H2 := by
  obtain ⟨h1, h2, h3, h4, h5, h6⟩ := h
  refine ⟨by rw [ht]; exact h1, by rw [hs, ht]; exact h2, fun q hq => ?_, fun b hb hb2 => ?_, fun b hb => by rw [hK]; exact h5 b hb, by rw [hN]; exact h6.1, by rw [hN]; exact h6.2.1, by rw [hI 1 (by omega)]; exact h6.2.2⟩
  · rw [oq q (by rw [ad_ge h0]; omega)]; exact h3 q hq
  · rw [ht] at hb2
    have h7 := h4 b hb hb2
    refine ⟨by rw [hK]; exact h7.1, ?_⟩
    by_cases c : b = a
    · subst c; exact hat
    · exact h7.2.congr (hK b) (hN b) (hI b c) (hL b c) (hR b c) (oq _ (ad_ne h0 hb c))
/-- the memory when a cell is made -/
theorem HR.push {X : Cx} {S : Mem} {H H2 : Heap} (h : HR X S H) {k n w : Nat} (hk : k < 28) (hs : H2.size = H.size + 1) (oq : ∀ q : Nat, q < H.size → H2[q]? = H[q]?) (hat : atc X (nw S k n w) (tp S) H2) : HR X (nw S k n w) H2 := by
  obtain ⟨h1, h2, h3, h4, h5, h6⟩ := h
  have e1 : tp (nw S k n w) = tp S + 1 := rfl
  have eK : ∀ b, b ≠ tp S → gK (nw S k n w) b = gK S b := fun b hb => va_up_ne _ _ hb
  have eN : ∀ b, b ≠ tp S → gN (nw S k n w) b = gN S b := fun b hb => va_up_ne _ _ hb
  refine ⟨by omega, by omega, fun q hq => by rw [oq q (by omega)]; exact h3 q hq, fun b hb hb2 => ?_, fun b hb => by rw [eK b (by omega)]; exact h5 b hb, by rw [eN 27 (by omega)]; exact h6.1, by rw [eN 1 (by omega)]; exact h6.2.1, by funext j; show cl2 S.1 (tp S) 0 1 j = _; unfold cl2; rw [if_neg (by omega)]; exact congrFun h6.2.2 j⟩
  by_cases c : b = tp S
  · subst c
    refine ⟨?_, hat⟩
    show va_up (gK S) (tp S) k (tp S) < 28
    unfold va_up; rw [if_pos rfl]; exact hk
  · have h7 := h4 b hb (by omega)
    refine ⟨by rw [eK b c]; exact h7.1, h7.2.congr (eK b c) (eN b c) ?_ ?_ ?_ (oq _ (by rw [ad_ge hb]; omega))⟩
    · funext j; show cl2 S.1 (tp S) 0 b j = _; unfold cl2; rw [if_neg c]; rfl
    · funext j; show cl2 S.2.1 (tp S) 0 b j = _; unfold cl2; rw [if_neg c]; rfl
    · funext j; show cl2 S.2.2.1 (tp S) 0 b j = _; unfold cl2; rw [if_neg c]; rfl
section HEAP
variable {X : Cx} {d : Nat} {M : MI} {pc : Nat} {lv : Lv} {st : List AV} {S : Mem} {Q : Res → Mem → Prop}
theorem V_h {pc2 : Nat} {st2 : List AV} {S2 : Mem} (ht : tp S2 = tp S) (hz : sz S2 = sz S)
    (h : ∀ {p : Program} {e : Env} {s : State} {m : MethodId} {args : Array Value} {below : List Frame} {meth : Method} {c : Code} {H : Heap} {locs : List Loc} {R : Room} {cells slots : Nat} {Qf : State → Prop} {ls : Array Slot}, Good X → Fix X M p s m meth c → HR X S H → lv_has ls M.2.2.1 (lvc X lv) →
      (∀ (H2 : Heap) (l1 : Loc), HR X S2 H2 → xB X ≤ l1.base → W p (xl X) e R s m args below meth c H2 (locs ++ [l1]) cells slots Qf (F0 m pc2 ls (stc X st2))) → W p (xl X) e R s m args below meth c H locs cells slots Qf (F0 m pc ls (stc X st)))
    (k : V X d M pc2 lv st2 S2 Q) : V X d M pc lv st S Q := by
  obtain ⟨r, S', ⟨h1, h2, h3⟩, q⟩ := k
  refine ⟨r, S', ⟨by rw [← ht]; exact h1, by rw [← hz]; exact h2, fun G p e s m args below meth c H locs t0 z0 ls F hH hL h4 h5 hl => ?_⟩, q⟩
  refine h G F hH hl (fun H2 l1 hH2 hl1 => ?_)
  have K := h3 G p e s m args below meth c H2 (locs ++ [l1]) t0 z0 ls F hH2 (fun q hq => by
    rcases List.mem_append.mp hq with q1 | q1
    · exact hL q q1
    · rw [List.mem_singleton.mp q1]; exact hl1) (by rw [ht]; exact h4) (by rw [hz]; exact h5) hl
  rw [ht, hz] at K
  exact K
theorem V_a {pc2 w : Nat} {st2 : List AV} {S2 : Mem} (ht : tp S2 = tp S + 1) (hz : sz S2 = sz S + w)
    (h : ∀ {p : Program} {e : Env} {s : State} {m : MethodId} {args : Array Value} {below : List Frame} {meth : Method} {c : Code} {H : Heap} {locs : List Loc} {R : Room} {cells slots : Nat} {Qf : State → Prop} {ls : Array Slot}, Good X → Fix X M p s m meth c → HR X S H → lv_has ls M.2.2.1 (lvc X lv) → cells + 1 ≤ R.cells → slots + w ≤ R.slots →
      (∀ (H2 : Heap), HR X S2 H2 → W p (xl X) e R s m args below meth c H2 locs (cells + 1) (slots + w) Qf (F0 m pc2 ls (stc X st2))) → W p (xl X) e R s m args below meth c H locs cells slots Qf (F0 m pc ls (stc X st)))
    (k : V X d M pc2 lv st2 S2 Q) : V X d M pc lv st S Q := by
  obtain ⟨r, S', ⟨h1, h2, h3⟩, q⟩ := k
  refine ⟨r, S', ⟨by omega, by omega, fun G p e s m args below meth c H locs t0 z0 ls F hH hL h4 h5 hl => ?_⟩, q⟩
  refine h G F hH hl (by show tp S - t0 + 1 ≤ tp S' - t0; omega) (by show sz S - z0 + w ≤ sz S' - z0; omega) (fun H2 hH2 => ?_)
  have K := h3 G p e s m args below meth c H2 locs t0 z0 ls F hH2 hL (by omega) (by omega) hl
  rw [ht, hz, show tp S + 1 - t0 = tp S - t0 + 1 by omega, show sz S + w - z0 = sz S - z0 + w by omega] at K
  exact K
/-- a field is read -/
theorem V_get {ci : Nat} {Cn : String} {T : u_T} {N : Nat} {ty : Nat → FieldType} (B : KC ci Cn T N ty) {ix k a pc2 : Nat} {v : AV} (hd : decode M.2.1 pc = .ok (.getfield ix, 3)) (hw : Cond.fieldLink (kcn.getD M.2.2.2.2 "") ix (T k).1 (T k).2.1 (T k).2.2.1 ∈ lw_tbl) (hk : k < N)
    (hv : fvl X S a (ty k) k = cv X v) (ho : isK S a ci) (hp : pc + 3 = pc2) (kk : V X d M pc2 lv (v :: st) S Q) : V X d M pc lv (vR a :: st) S Q := by
  subst hp
  refine V_p (fun G F hH hl w => ?_) kk
  have hW := F.2.2.2.2.2.2.1
  have hts : ∀ {args : Array Value} {s : State}, (x0 X).WarmedH s.vm → ∀ w ∈ u_ws Cn T N, w.before args s = true := fun hW w hw => word_at hW (Or.inl (u_good w hw)) (G.1 w (B.2.1 w hw))
  obtain ⟨cell, q1, q2, q3, q4⟩ := hH.ob B ho
  obtain ⟨hS, hfc, kC, hkC, hkind⟩ := (G.2.1.moved hW.alike).1 ci _ B.1
  obtain ⟨cf, kf, fi, f, hi, hsl⟩ := hS k hk
  have h32 := hH.geo ho B.2.2.2.2.2.2
  have e1 : stc X (vR a :: st) = .ref (ad X a) :: stc X st := by show cv X (vR a) :: stc X st = _; rw [cvR (by omega)]
  rw [e1]
  refine W.getf F.1 F.2.1 F.2.2.2.2.1 (word_at hW (Or.inl rfl) (G.1 _ hw)) hi (u_facts hfc hkC (u_lays (hts (args := #[]) hW) (fun w h => h) hk) hi).1 q1 (by rw [q3]; exact fun h => by cases h) (v := cv X v) ?_ rfl rfl hd w
  rw [hsl, q4 k hk, ← hv]
theorem V_getI {ci : Nat} {Cn : String} {T : u_T} {N : Nat} {ty : Nat → FieldType} (B : KC ci Cn T N ty) {ix a pc2 : Nat} (k : Nat) (hd : decode M.2.1 pc = .ok (.getfield ix, 3)) (hw : Cond.fieldLink (kcn.getD M.2.2.2.2 "") ix (T k).1 (T k).2.1 (T k).2.2.1 ∈ lw_tbl) (hk : k < N)
    (hv : ∀ S : Mem, fvl X S a (ty k) k = .int (gI S a k)) (hp : pc + 3 = pc2) (ho : isK S a ci) (kk : V X d M pc2 lv (vI (gI S a k) :: st) S Q) : V X d M pc lv (vR a :: st) S Q := V_get (v := vI (gI S a k)) B hd hw hk (hv S) ho hp kk
theorem V_getR {ci : Nat} {Cn : String} {T : u_T} {N : Nat} {ty : Nat → FieldType} (B : KC ci Cn T N ty) {ix a pc2 : Nat} (k : Nat) (hd : decode M.2.1 pc = .ok (.getfield ix, 3)) (hw : Cond.fieldLink (kcn.getD M.2.2.2.2 "") ix (T k).1 (T k).2.1 (T k).2.2.1 ∈ lw_tbl) (hk : k < N)
    (hv : ∀ S : Mem, fvl X S a (ty k) k = va_rf (rO X (gR S a k))) (hp : pc + 3 = pc2) (ho : isK S a ci) (kk : V X d M pc2 lv (vR (gR S a k) :: st) S Q) : V X d M pc lv (vR a :: st) S Q := V_get (v := vR (gR S a k)) B hd hw hk (hv S) ho hp kk
/-- a field is written: not a final one, or a final one of its own class in a constructor -/
def finOk (M : MI) (q : String × String × String × Bool) : Prop := q.2.2.2 = false ∨ (q.2.2.2 = true ∧ M.1.name = "<init>" ∧ q.1 = kcn.getD M.2.2.2.2 "")
theorem V_put {ci : Nat} {Cn : String} {T : u_T} {N : Nat} {ty : Nat → FieldType} (B : KC ci Cn T N ty) {ix k a pc2 : Nat} {v : AV} {S2 : Mem} (hd : decode M.2.1 pc = .ok (.putfield ix, 3)) (hw : Cond.fieldLink (kcn.getD M.2.2.2.2 "") ix (T k).1 (T k).2.1 (T k).2.2.1 ∈ lw_tbl) (hk : k < N) (hf : finOk M (T k))
    (hn : narrow (ty k) (cv X v) = cv X v) (hfit : fits (ty k) (cv X v) = true) (ho : isK S a ci)
    (ht : tp S2 = tp S) (hz : sz S2 = sz S) (hK : ∀ b, gK S2 b = gK S b) (hN : ∀ b, gN S2 b = gN S b) (hI : ∀ b, b ≠ a → gI S2 b = gI S b) (hL : ∀ b, b ≠ a → gL S2 b = gL S b) (hR : ∀ b, b ≠ a → gR S2 b = gR S b)
    (hv : fvl X S2 a (ty k) k = cv X v) (hu : ∀ j, j < N → j ≠ k → fvl X S2 a (ty j) j = fvl X S a (ty j) j)
    (hp : pc + 3 = pc2) (kk : V X d M pc2 lv st S2 Q) : V X d M pc lv (v :: vR a :: st) S Q := by
  subst hp
  refine V_h ht hz (fun {p e s m args below meth c H locs R cells slots Qf ls} G F hH hl w => ?_) kk
  have hW := F.2.2.2.2.2.2.1
  have hts : ∀ w ∈ u_ws Cn T N, w.before args s = true := fun w hw => word_at hW (Or.inl (u_good w hw)) (G.1 w (B.2.1 w hw))
  have hKs := G.2.1.moved hW.alike
  have hap := va_apart (own := "") hts (fun w h => h) ty B.2.2.1 B.2.2.2.1 hKs B.1
  obtain ⟨cell, q1, q2, q3, q4⟩ := hH.ob B ho
  obtain ⟨hS, hfc, kC, hkC, hkind⟩ := hKs.1 ci _ B.1
  obtain ⟨cf, kf, fi, f, hi, hsl⟩ := hS k hk
  have h32 := hH.geo ho B.2.2.2.2.2.2
  have e1 : stc X (v :: vR a :: st) = cv X v :: .ref (ad X a) :: stc X st := by show cv X v :: cv X (vR a) :: stc X st = _; rw [cvR (by omega)]
  have hlay := hts _ (u_in_lay hk)
  have hst := (u_facts hfc hkC (u_lays hts (fun w h => h) hk) hi).1
  have hlink := word_at (a' := args) hW (Or.inl rfl) (G.1 _ hw)
  have hend : ∀ H' : Heap, H'[ad X a]? = some (cell.setSlot (xI X ci k) (cv X v)) → H'.size = H.size → (∀ q, q ≠ ad X a → H'[q]? = H[q]?) → HR X S2 H' := by
    intro H' e1 e2 e3
    refine hH.set h32 e2 e3 ?_ ht hK hN hI hL hR
    unfold atc
    rw [hK a, ho.2, if_pos (by have := B.2.2.2.2.2.2; omega), B.2.2.2.2.1, B.2.2.2.2.2.1]
    refine t_OB.to (V := updV (fun j => fvl X S a (ty j) j) k (cv X v)) ⟨_, e1, q2, q3, t_set q4 hap hk (cv X v)⟩ (fun j hj => ?_)
    by_cases c : j = k
    · subst c; simp [updV, hv]
    · rw [hu j hj c]; simp [updV, c]
  rw [e1]
  rcases hf with hf | ⟨hf, hf2, hf3⟩
  · unfold u_lay at hlay
    rw [if_neg (by rw [hf]; decide)] at hlay
    have h6 := u_store hfc hkC hkind hlay hi (B.2.2.1 k hk) hn hfit
    refine W.putK F.1 F.2.1 (f := f) ⟨F.2.2.2.2.1, hlink, ⟨_, _, _, hi⟩, hst⟩ (by rw [q2]; exact h6) q1 q3 (by rw [hsl]; exact k2_hasslot (q4 k hk)) rfl rfl hd fun H' e1 e2 e3 => ?_
    rw [hsl] at e1 ⊢
    exact w H' _ (hend H' e1 e2 e3) (by show xB X ≤ ad X a; rw [ad_ge h32]; omega)
  · unfold u_lay at hlay
    rw [if_pos hf] at hlay
    have hcf : m.cls = cf := by
      obtain ⟨_, _, c', _, _, _, -, -, hf', -, -, -, hown2, -⟩ := Cond.laysFinal_spec hlay
      have e1 : c' = cf := by have := hi.symm.trans hf'; simp at this; exact this.1.symm
      rw [hf3] at hown2
      rw [← e1]; exact Option.some.inj (F.2.2.2.2.1.symm.trans hown2)
    have h6 := u_fits hfc hkC hkind (Or.inr hlay) hi (B.2.2.1 k hk) hn hfit
    refine W.putFinK F.1 F.2.1 F.2.2.2.2.1 hlink hi hst hcf (by rw [F.2.2.2.2.2.2.2.1]; exact hf2) (by rw [q2]; exact h6) q1 q3 (by rw [hsl]; exact k2_hasslot (q4 k hk)) rfl rfl hd fun H' e1 e2 e3 => ?_
    rw [hsl] at e1 ⊢
    exact w H' _ (hend H' e1 e2 e3) (by show xB X ≤ ad X a; rw [ad_ge h32]; omega)
end HEAP

