def rwI (S : Mem) (a : Nat) (f : Nat → Int32) : Mem := (fun b j => if b = a then f j else S.1 b j, S.2)
def rwL (S : Mem) (a : Nat) (f : Nat → Int64) : Mem := (S.1, fun b j => if b = a then f j else S.2.1 b j, S.2.2)
def okT : FieldType → Bool
  | .float => false
  | .double => false
  | _ => true
section COPY
variable {X : Cx} {d : Nat} {M : MI} {pc pc2 : Nat} {lv : Lv} {st : List AV} {S : Mem} {Q : Res → Mem → Prop}
theorem new_def {k n w j : Nat} {t : FieldType} (h : okT t = true) : defaultValue t = fvl X (nw S k n w) (tp S) t j := by
  have e1 : gI (nw S k n w) (tp S) j = 0 := by show cl2 S.1 (tp S) 0 (tp S) j = 0; unfold cl2; rw [if_pos rfl]
  have e2 : gL (nw S k n w) (tp S) j = 0 := by show cl2 S.2.1 (tp S) 0 (tp S) j = 0; unfold cl2; rw [if_pos rfl]
  have e3 : gR (nw S k n w) (tp S) j = 0 := by show cl2 S.2.2.1 (tp S) 0 (tp S) j = 0; unfold cl2; rw [if_pos rfl]
  cases t with
  | float => cases h
  | double => cases h
  | long => show _ = Value.long _; rw [e2]; rfl
  | object c => show _ = va_rf (rO X _); rw [e3]; rfl
  | array c => show _ = va_rf (rO X _); rw [e3]; rfl
  | int => show _ = Value.int _; rw [e1]; rfl
  | boolean => show _ = Value.int _; rw [e1]; rfl
  | byte => show _ = Value.int _; rw [e1]; rfl
  | short => show _ = Value.int _; rw [e1]; rfl
  | char => show _ = Value.int _; rw [e1]; rfl
theorem V_newC {ci : Nat} {Cn : String} {T : u_T} {N : Nat} {ty : Nat → FieldType} (B : KC ci Cn T N ty) {ix : Nat} (hd : decode M.2.1 pc = .ok (.new ix, 3)) (hw : Cond.classLink (kcn.getD M.2.2.2.2 "") ix Cn ∈ lw_tbl) (hi : Cond.instantiable Cn N ∈ lw_tbl) (hi2 : Cond.initialized Cn ∈ lw_tbl)
    (hv : ∀ j, j < N → okT (ty j) = true) (hp : pc + 3 = pc2) (kk : V X d M pc2 lv (vR (tp S) :: st) (nw S ci 0 N) Q) : V X d M pc lv st S Q := V_new B hd hw hi hi2 (fun j hj => new_def (hv j hj)) hp kk
theorem V_hL {pc2 : Nat} {st2 : List AV} {S2 : Mem} (ht : tp S2 = tp S) (hz : sz S2 = sz S)
    (h : ∀ {p : Program} {e : Env} {s : State} {m : MethodId} {args : Array Value} {below : List Frame} {meth : Method} {c : Code} {H : Heap} {locs : List Loc} {R : Room} {cells slots : Nat} {Qf : State → Prop} {ls : Array Slot}, R.frames = d → R.locals = 41 * d → Good X → Fix X M p s m meth c → HR X S H → lv_has ls M.2.2.1 (lvc X lv) →
      (∀ (H2 : Heap) (l1 : List Loc), HR X S2 H2 → (∀ q ∈ l1, xB X ≤ q.base) → W p (xl X) e R s m args below meth c H2 (locs ++ l1) cells slots Qf (F0 m pc2 ls (stc X st2))) → W p (xl X) e R s m args below meth c H locs cells slots Qf (F0 m pc ls (stc X st)))
    (k : V X d M pc2 lv st2 S2 Q) : V X d M pc lv st S Q := by
  obtain ⟨r, S', ⟨h1, h2, h3⟩, q⟩ := k
  refine ⟨r, S', ⟨by rw [← ht]; exact h1, by rw [← hz]; exact h2, fun G p e s m args below meth c H locs t0 z0 ls F hH hL h4 h5 hl => ?_⟩, q⟩
  refine h rfl rfl G F hH hl (fun H2 l1 hH2 hl1 => ?_)
  have K := h3 G p e s m args below meth c H2 (locs ++ l1) t0 z0 ls F hH2 (fun q hq => (List.mem_append.mp hq).elim (hL q) (hl1 q)) (by rw [ht]; exact h4) (by rw [hz]; exact h5) hl
  rw [ht, hz] at K
  exact K
theorem V_acpI {a0 a k : Nat} {ix : Nat} {sp dp n : Int32} (hk : k = 20 ∨ k = 21) (hd : decode M.2.1 pc = .ok (.invokestatic ix, 3)) (hw : Cond.methodLink (kcn.getD M.2.2.2.2 "") ix arraycopyName ∈ lw_tbl) (hnat : Cond.native arraycopyName ∈ lw_tbl) (hstat : Cond.static arraycopyName ∈ lw_tbl) (hini : Cond.initialized "java/lang/System" ∈ lw_tbl) (hp : pc + 3 = pc2) (hs8 : (st.map cat).sum ≤ 8) (hdd : 1 ≤ d)
    (ho0 : isK S a0 k) (h032 : 64 ≤ a0) (ho : isK S a k) (h32 : 64 ≤ a) (h1 : ¬ sp < 0) (h2 : ¬ dp < 0) (h3 : ¬ n < 0) (h4 : sp.toNatClampNeg + n.toNatClampNeg ≤ gN S a0) (h5 : dp.toNatClampNeg + n.toNatClampNeg ≤ gN S a) (hfit : ∀ i, i < n.toNatClampNeg → fits (kel k) (.int (gI S a0 (sp.toNatClampNeg + i))) = true)
    (kk : V X d M pc2 lv st (rwI S a (va_cpy (gI S a0) (gI S a) sp.toNatClampNeg dp.toNatClampNeg n.toNatClampNeg)) Q) : V X d M pc lv (vI n :: vI dp :: vR a :: vI sp :: vR a0 :: st) S Q := by
  subst hp
  refine V_hL (S2 := rwI S a (va_cpy (gI S a0) (gI S a) sp.toNatClampNeg dp.toNatClampNeg n.toNatClampNeg)) rfl rfl (fun {p e s m args below meth c H locs R cells slots Qf ls} hR1 hR2 G F hH hl w => ?_) kk
  have hW := F.2.2.2.2.2.2.1
  have hKs := G.2.1.moved hW.alike
  have g : ∀ {w : Cond} {a' : Array Value} {U : State}, (x0 X).WarmedH U.vm → (w.onTables && w.keeps) = true → w ∈ lw_tbl → w.before a' U = true := fun hU hg hw => word_at hU (Or.inl hg) (G.1 _ hw)
  have nn : ∀ z : Int32, ¬ z < 0 → z.toInt = (z.toNatClampNeg : Int) := by
    intro z hz
    have hz0 : (0 : Int) ≤ z.toInt := by
      have := Int32.not_lt.mp hz
      simpa using Int32.le_iff_toInt_le.mp this
    show z.toInt = ((z.toInt.toNat : Nat) : Int)
    omega
  have hc0 := hH.ar ho0 h032 (by omega)
  have hc1 := hH.ar ho h32 (by omega)
  rw [arc_i ho0.2 (by omega)] at hc0
  rw [arc_i ho.2 (by omega)] at hc1
  have hty : ∃ t0 : Nat, (tysL X)[t0]? = some (xA X k, kel k) ∧ refKind (kel k) = false := by
    rcases hk with rfl | rfl
    · exact ⟨0, rfl, rfl⟩
    · exact ⟨1, rfl, rfl⟩
  obtain ⟨t0, ht0, hprim⟩ := hty
  generalize hf : gI S a0 = f at *
  generalize hg : gI S a = gg at *
  have est : stc X (vI n :: vI dp :: vR a :: vI sp :: vR a0 :: st) = .int n :: .int dp :: .ref (ad X a) :: .int sp :: .ref (ad X a0) :: stc X st := by
    show Value.int n :: Value.int dp :: cv X (vR a) :: Value.int sp :: cv X (vR a0) :: stc X st = _
    rw [cvR (by omega), cvR (by omega)]
  rw [est]
  intro T hT Y
  obtain ⟨-, k0, hk0, cm0, hkk0⟩ := (hKs.2 t0 _ ht0).1 (gN S a0) (fun j => .int (f j))
  obtain ⟨-, k1, hk1, cm1, hkk1⟩ := (hKs.2 t0 _ ht0).1 (gN S a) (fun j => .int (gg j))
  obtain ⟨vm', X', step⟩ := Y.arraycopy F.1 F.2.2.2.2.1 (g hW rfl hw) (g hW rfl hnat) (g hW rfl hstat) (g hW rfl hini) (src := ad X a0) (dst := ad X a) (cs := vp_cell (xA X k) (gN S a0, .inl f)) (cd := vp_cell (xA X k) (gN S a, .inl gg)) (srcPos := sp) (destPos := dp) (n := n) (by rw [hT]; exact hc0) (by rw [hT]; exact hc1)
    (fun _ h => by cases h) (fun _ h => by cases h) (fun h => by cases h) (fun h => by cases h) hk0 hk1 hkk0 hkk1 (by simp [hprim]) h1 h2 h3
    (by rw [nn sp h1, nn n h3]; show ¬ _ > ((arrV (xA X k) (gN S a0) (fun j => .int (f j))).slots.size : Int); rw [arrV_size]; omega)
    (by rw [nn dp h2, nn n h3]; show ¬ _ > ((arrV (xA X k) (gN S a) (fun j => .int (gg j))).slots.size : Int); rw [arrV_size]; omega)
    (fun vm₁ _ i hi => by
      have e : (vp_cell (xA X k) (gN S a0, .inl f)).slots.getD (sp.toNatClampNeg + i) .null = .int (f (sp.toNatClampNeg + i)) := by
        show (arrV (xA X k) (gN S a0) (fun j => .int (f j))).slots.getD _ _ = _
        rw [Array.getD_eq_getD_getElem?, arrV_read _ _ (by omega)]
        rfl
      refine ⟨?_, ?_⟩
      · rw [e]
        exact hfit i hi
      · rw [e]
        exact trivial)
    (g := F0 m pc ls (.int n :: .int dp :: .ref (ad X a) :: .int sp :: .ref (ad X a0) :: stc X st)) rfl (by rw [F.2.2.1]; exact hl.1) (rest := stc X st) rfl (by rw [F.2.1]; exact hd) (by rw [hR1]; exact hdd) (by
      rw [hR2]
      have e9 := stc_cat (X := X) st
      show 2 * 0 + ((stc X st).map fun v => v.category).sum + (nativeFrameWords "java/lang/System" "arraycopy" 5 + 11) ≤ _
      rw [e9]
      have e8 : nativeFrameWords "java/lang/System" "arraycopy" 5 ≤ 20 := by decide +kernel
      omega)
  have e1 : copied (vp_cell (xA X k) (gN S a0, .inl f)) (vp_cell (xA X k) (gN S a, .inl gg)) sp dp n = vp_cell (xA X k) (gN S a, .inl (va_cpy f gg sp.toNatClampNeg dp.toNatClampNeg n.toNatClampNeg)) := va_copied (fun z => .int z) (xA X k) (xA X k) f gg h4
  rw [e1] at X' step
  have hl0 : ad X a < H.size := (Array.getElem?_eq_some_iff.mp hc1).1
  have hheap : ((T.setVm vm').setCell (ad X a) (vp_cell (xA X k) (gN S a, .inl (va_cpy f gg sp.toNatClampNeg dp.toNatClampNeg n.toNatClampNeg)))).heap = H.setIfInBounds (ad X a) (vp_cell (xA X k) (gN S a, .inl (va_cpy f gg sp.toNatClampNeg dp.toNatClampNeg n.toNatClampNeg))) := by rw [← hT]; rfl
  obtain ⟨t, a1, b1⟩ := w _ _ (hH.set (S2 := rwI S a (va_cpy f gg sp.toNatClampNeg dp.toNatClampNeg n.toNatClampNeg)) h32 (by simp) (fun q hq => by simp [Array.getElem?_setIfInBounds, Ne.symm hq]) (atc_ar (k := k) ho.2 (by omega) (by
      rw [arc_i (S := rwI S a (va_cpy f gg sp.toNatClampNeg dp.toNatClampNeg n.toNatClampNeg)) ho.2 (by omega)]
      have e2 : gI (rwI S a (va_cpy f gg sp.toNatClampNeg dp.toNatClampNeg n.toNatClampNeg)) a = va_cpy f gg sp.toNatClampNeg dp.toNatClampNeg n.toNatClampNeg := by funext j; show (if a = a then _ else _) = _; rw [if_pos rfl]
      rw [e2]
      show (H.setIfInBounds (ad X a) _)[ad X a]? = some _
      simp [Array.getElem?_setIfInBounds, hl0]
      rfl)) rfl (fun _ => rfl) (fun _ => rfl) (fun b hb => by funext j; show (if b = a then _ else _) = _; rw [if_neg hb]; rfl) (fun _ _ => rfl) (fun _ _ => rfl)) (fun q hq => by
      obtain ⟨z, -, hz⟩ := List.mem_map.mp hq
      rw [← hz]
      show xB X ≤ ad X a
      rw [ad_ge h32]; omega) _ hheap X'
  exact ⟨t, step t a1, b1⟩
theorem V_acpL {a0 a : Nat} {ix : Nat} {sp dp n : Int32} (hd : decode M.2.1 pc = .ok (.invokestatic ix, 3)) (hw : Cond.methodLink (kcn.getD M.2.2.2.2 "") ix arraycopyName ∈ lw_tbl) (hnat : Cond.native arraycopyName ∈ lw_tbl) (hstat : Cond.static arraycopyName ∈ lw_tbl) (hini : Cond.initialized "java/lang/System" ∈ lw_tbl) (hp : pc + 3 = pc2) (hs8 : (st.map cat).sum ≤ 8) (hdd : 1 ≤ d)
    (ho0 : isK S a0 22) (h032 : 64 ≤ a0) (ho : isK S a 22) (h32 : 64 ≤ a) (h1 : ¬ sp < 0) (h2 : ¬ dp < 0) (h3 : ¬ n < 0) (h4 : sp.toNatClampNeg + n.toNatClampNeg ≤ gN S a0) (h5 : dp.toNatClampNeg + n.toNatClampNeg ≤ gN S a) 
    (kk : V X d M pc2 lv st (rwL S a (va_cpy (gL S a0) (gL S a) sp.toNatClampNeg dp.toNatClampNeg n.toNatClampNeg)) Q) : V X d M pc lv (vI n :: vI dp :: vR a :: vI sp :: vR a0 :: st) S Q := by
  subst hp
  refine V_hL (S2 := rwL S a (va_cpy (gL S a0) (gL S a) sp.toNatClampNeg dp.toNatClampNeg n.toNatClampNeg)) rfl rfl (fun {p e s m args below meth c H locs R cells slots Qf ls} hR1 hR2 G F hH hl w => ?_) kk
  have hW := F.2.2.2.2.2.2.1
  have hKs := G.2.1.moved hW.alike
  have g : ∀ {w : Cond} {a' : Array Value} {U : State}, (x0 X).WarmedH U.vm → (w.onTables && w.keeps) = true → w ∈ lw_tbl → w.before a' U = true := fun hU hg hw => word_at hU (Or.inl hg) (G.1 _ hw)
  have nn : ∀ z : Int32, ¬ z < 0 → z.toInt = (z.toNatClampNeg : Int) := by
    intro z hz
    have hz0 : (0 : Int) ≤ z.toInt := by
      have := Int32.not_lt.mp hz
      simpa using Int32.le_iff_toInt_le.mp this
    show z.toInt = ((z.toInt.toNat : Nat) : Int)
    omega
  have hc0 := hH.ar ho0 h032 (by omega)
  have hc1 := hH.ar ho h32 (by omega)
  rw [arc_l ho0.2] at hc0
  rw [arc_l ho.2] at hc1
  have ht0 : (tysL X)[2]? = some (xA X 22, kel 22) := rfl
  have hprim : refKind (kel 22) = false := rfl
  generalize hf : gL S a0 = f at *
  generalize hg : gL S a = gg at *
  have est : stc X (vI n :: vI dp :: vR a :: vI sp :: vR a0 :: st) = .int n :: .int dp :: .ref (ad X a) :: .int sp :: .ref (ad X a0) :: stc X st := by
    show Value.int n :: Value.int dp :: cv X (vR a) :: Value.int sp :: cv X (vR a0) :: stc X st = _
    rw [cvR (by omega), cvR (by omega)]
  rw [est]
  intro T hT Y
  obtain ⟨-, k0, hk0, cm0, hkk0⟩ := (hKs.2 2 _ ht0).1 (gN S a0) (fun j => .long (f j))
  obtain ⟨-, k1, hk1, cm1, hkk1⟩ := (hKs.2 2 _ ht0).1 (gN S a) (fun j => .long (gg j))
  obtain ⟨vm', X', step⟩ := Y.arraycopy F.1 F.2.2.2.2.1 (g hW rfl hw) (g hW rfl hnat) (g hW rfl hstat) (g hW rfl hini) (src := ad X a0) (dst := ad X a) (cs := vp_cell (xA X 22) (gN S a0, .inr (.inl f))) (cd := vp_cell (xA X 22) (gN S a, .inr (.inl gg))) (srcPos := sp) (destPos := dp) (n := n) (by rw [hT]; exact hc0) (by rw [hT]; exact hc1)
    (fun _ h => by cases h) (fun _ h => by cases h) (fun h => by cases h) (fun h => by cases h) hk0 hk1 hkk0 hkk1 (by simp [hprim]) h1 h2 h3
    (by rw [nn sp h1, nn n h3]; show ¬ _ > ((arrV (xA X 22) (gN S a0) (fun j => .long (f j))).slots.size : Int); rw [arrV_size]; omega)
    (by rw [nn dp h2, nn n h3]; show ¬ _ > ((arrV (xA X 22) (gN S a) (fun j => .long (gg j))).slots.size : Int); rw [arrV_size]; omega)
    (fun vm₁ _ i hi => by
      have e : (vp_cell (xA X 22) (gN S a0, .inr (.inl f))).slots.getD (sp.toNatClampNeg + i) .null = .long (f (sp.toNatClampNeg + i)) := by
        show (arrV (xA X 22) (gN S a0) (fun j => .long (f j))).slots.getD _ _ = _
        rw [Array.getD_eq_getD_getElem?, arrV_read _ _ (by omega)]
        rfl
      refine ⟨?_, ?_⟩
      · rw [e]
        exact rfl
      · rw [e]
        exact trivial)
    (g := F0 m pc ls (.int n :: .int dp :: .ref (ad X a) :: .int sp :: .ref (ad X a0) :: stc X st)) rfl (by rw [F.2.2.1]; exact hl.1) (rest := stc X st) rfl (by rw [F.2.1]; exact hd) (by rw [hR1]; exact hdd) (by
      rw [hR2]
      have e9 := stc_cat (X := X) st
      show 2 * 0 + ((stc X st).map fun v => v.category).sum + (nativeFrameWords "java/lang/System" "arraycopy" 5 + 11) ≤ _
      rw [e9]
      have e8 : nativeFrameWords "java/lang/System" "arraycopy" 5 ≤ 20 := by decide +kernel
      omega)
  have e1 : copied (vp_cell (xA X 22) (gN S a0, .inr (.inl f))) (vp_cell (xA X 22) (gN S a, .inr (.inl gg))) sp dp n = vp_cell (xA X 22) (gN S a, .inr (.inl (va_cpy f gg sp.toNatClampNeg dp.toNatClampNeg n.toNatClampNeg))) := va_copied (fun z => .long z) (xA X 22) (xA X 22) f gg h4
  rw [e1] at X' step
  have hl0 : ad X a < H.size := (Array.getElem?_eq_some_iff.mp hc1).1
  have hheap : ((T.setVm vm').setCell (ad X a) (vp_cell (xA X 22) (gN S a, .inr (.inl (va_cpy f gg sp.toNatClampNeg dp.toNatClampNeg n.toNatClampNeg))))).heap = H.setIfInBounds (ad X a) (vp_cell (xA X 22) (gN S a, .inr (.inl (va_cpy f gg sp.toNatClampNeg dp.toNatClampNeg n.toNatClampNeg)))) := by rw [← hT]; rfl
  obtain ⟨t, a1, b1⟩ := w _ _ (hH.set (S2 := rwL S a (va_cpy f gg sp.toNatClampNeg dp.toNatClampNeg n.toNatClampNeg)) h32 (by simp) (fun q hq => by simp [Array.getElem?_setIfInBounds, Ne.symm hq]) (atc_ar (k := 22) ho.2 (by omega) (by
      rw [arc_l (S := rwL S a (va_cpy f gg sp.toNatClampNeg dp.toNatClampNeg n.toNatClampNeg)) ho.2]
      have e2 : gL (rwL S a (va_cpy f gg sp.toNatClampNeg dp.toNatClampNeg n.toNatClampNeg)) a = va_cpy f gg sp.toNatClampNeg dp.toNatClampNeg n.toNatClampNeg := by funext j; show (if a = a then _ else _) = _; rw [if_pos rfl]
      rw [e2]
      show (H.setIfInBounds (ad X a) _)[ad X a]? = some _
      simp [Array.getElem?_setIfInBounds, hl0]
      rfl)) rfl (fun _ => rfl) (fun _ => rfl) (fun _ _ => rfl) (fun b hb => by funext j; show (if b = a then _ else _) = _; rw [if_neg hb]; rfl) (fun _ _ => rfl)) (fun q hq => by
      obtain ⟨z, -, hz⟩ := List.mem_map.mp hq
      rw [← hz]
      show xB X ≤ ad X a
      rw [ad_ge h32]; omega) _ hheap X'
  exact ⟨t, step t a1, b1⟩
theorem V_min {ix : Nat} {x y : Int32} (hd : decode M.2.1 pc = .ok (.invokestatic ix, 3)) (hw : Cond.methodLink (kcn.getD M.2.2.2.2 "") ix Lib.Math.min.name ∈ lw_tbl) (hs : Cond.static Lib.Math.min.name ∈ lw_tbl) (hi : Cond.initialized "java/lang/Math" ∈ lw_tbl) (hc : Cond.code Lib.Math.min.name Lib.Math.min.code 2 (some .int) ∈ lw_tbl) (hp : pc + 3 = pc2) (hs8 : (st.map cat).sum ≤ 8) (hdd : 1 ≤ d)
    (k : V X d M pc2 lv (vI (if y < x then y else x) :: st) S Q) : V X d M pc lv (vI y :: vI x :: st) S Q := by
  subst hp
  obtain ⟨r, S', ⟨h1, h2, h3⟩, q⟩ := k
  refine ⟨r, S', ⟨h1, h2, fun G p e s m args below meth c H locs t0 z0 ls F hH hL ht hz hl => ?_⟩, q⟩
  have hW := F.2.2.2.2.2.2.1
  have g : ∀ {w : Cond} {a' : Array Value} {U : State}, (x0 X).WarmedH U.vm → (w.onTables && w.keeps) = true → w ∈ lw_tbl → w.before a' U = true := fun hU hg hw => word_at hU (Or.inl hg) (G.1 _ hw)
  exact va_mmin F.1 F.2.1 (by rw [F.2.2.1]; exact hl.1.symm) F.2.2.2.2.1 (g hW rfl hw) (g hW rfl hs) (g hW rfl hi) (g hW rfl hc) (by show 1 ≤ d; exact hdd) (by have e9 := stc_cat (X := X) st; unfold stc at e9; show (List.map (fun v => v.category) (List.map (cv X) st)).sum + 13 ≤ 41 * d; rw [e9]; omega) (by show tp S - t0 ≤ tp S' - t0; omega) (by show sz S - z0 ≤ sz S' - z0; omega) hd (h3 G p e s m args below meth c H locs t0 z0 ls F hH hL ht hz hl)
end COPY
