theorem aoA_moved {t : FieldType} {u U : State} {A A' : Array Value} (hvm : u.vm.Alike U.vm) (h : (Cond.arrayOver (.array t)).before A u = true) : (Cond.arrayOver (.array t)).before A' U = true := by
  obtain ⟨comp, c, k, h1, h2, h3, h4, h5⟩ := arrayOverA_spec h
  obtain ⟨k', hk', he⟩ := hvm.2.2 _ _ h3
  have hi : (U.vm.classes.findIdx? fun (x : Class) => match x.kind with | .array component _ => component == comp | _ => false) = some c := by
    have e1 := va_idx_bare U.vm comp
    have e2 := va_idx_bare u.vm comp
    first | rw [hvm.bare_eq] at e1 | rw [← hvm.bare_eq] at e1
    exact e1.symm.trans (e2.trans h2)
  have hkind : k'.kind = .array comp (.array t) := by rw [he]; exact h4
  have f1 : U.vm.findClass (FieldType.array t).toString = some comp := by rw [hvm.findClass]; exact h1
  have f2 : U.vm.findClass ("[" ++ (FieldType.array t).toString) = some c := by rw [hvm.findClass]; exact h5
  unfold Cond.before Cond.holds
  simp only [Cond.value]
  rw [f1, Option.bind_some]
  refine (congrArg (fun o : Option Nat => (o.bind (fun c => (U.vm.classes[c]?).map fun (k : Class) => match k.kind with | .array _ ty => decide (ty = FieldType.array t) && decide (U.vm.findClass ("[" ++ (FieldType.array t).toString) = some c) | _ => false) == some true)) hi).trans ?_
  simp [hk', hkind, f2]
section MORE
variable {X : Cx} {d : Nat} {M : MI} {pc pc2 : Nat} {lv : Lv} {st : List AV} {S : Mem} {Q : Res → Mem → Prop}
theorem HR.old {H : Heap} (h : HR X S H) : ∀ a : Nat, a < (x0 X).heap.size → ¬ fre X a → H[a]? = (x0 X).heap[a]? := fun a ha _ => h.2.2.1 a ha
theorem V_alenI {a : Nat} (hd : decode M.2.1 pc = .ok (.arraylength, 1)) (hp : pc + 1 = pc2) (ho : isK S a 21) (kk : V X d M pc2 lv (vI (nI (gN S a)) :: st) S Q) : V X d M pc lv (vR a :: st) S Q := by
  by_cases h27 : a = 27
  · subst h27; subst hp
    refine V_p (fun G F hH hl w => ?_) kk
    have hT := (va_T.moved F.2.2.2.2.2.2.1.alike G.2.2.2.2.2.2.1).kept hH.old
    obtain ⟨cell, h1, h2, h3, h4, h5, h6, h7⟩ := hT
    have e0 : gN S 27 = 0 := hH.2.2.2.2.2.1
    rw [e0] at w
    have e1 : stc X (vR 27 :: st) = .ref (xs X 27) :: stc X st := rfl
    rw [e1]
    exact W.alen (n := nI 0) F.1 F.2.1 h1 h2 h5 rfl rfl hd w
  · exact V_alen hd hp (by decide) (by decide) ho h27 kk
theorem V_slen (hd : decode M.2.1 pc = .ok (.arraylength, 1)) (hp : pc + 1 = pc2) (kk : V X d M pc2 lv (vI (nI (gN S 1)) :: st) S Q) : V X d M pc lv (vR 1 :: st) S Q := by
  subst hp
  refine V_p (fun G F hH hl w => ?_) kk
  obtain ⟨scr, h1, h2, h3, h4, h5⟩ := G.2.2.2.2.1
  have h1' := (hH.2.2.1 (xs X 1) (Array.getElem?_eq_some_iff.mp h1).1).trans h1
  rw [show gN S 1 = xL X from hH.2.2.2.2.2.2.1] at w
  have e1 : stc X (vR 1 :: st) = .ref (xs X 1) :: stc X st := rfl
  rw [e1]
  obtain ⟨g1, k, g2, g3⟩ := h2
  obtain ⟨k', hk', he⟩ := F.2.2.2.2.2.2.1.alike.2.2 _ _ g2
  exact W.alen (n := nI (xL X)) (ty := .int) F.1 F.2.1 h1' ⟨g1, k', hk', by obtain ⟨cm, g3⟩ := g3; exact ⟨cm, by rw [he]; exact g3⟩⟩ (by rw [h4]; rfl) rfl rfl hd w
theorem V_sld {i : Int32} (hd : decode M.2.1 pc = .ok (.iaload, 1)) (hp : pc + 1 = pc2) (hin : vp_in i (gN S 1)) (kk : V X d M pc2 lv (vI (gI S 1 i.toNatClampNeg) :: st) S Q) : V X d M pc lv (vI i :: vR 1 :: st) S Q := by
  subst hp
  refine V_p (fun G F hH hl w => ?_) kk
  obtain ⟨scr, h1, h2, h3, h4, h5⟩ := G.2.2.2.2.1
  have h1' := (hH.2.2.1 (xs X 1) (Array.getElem?_eq_some_iff.mp h1).1).trans h1
  have eN : gN S 1 = xL X := hH.2.2.2.2.2.2.1
  have eI : gI S 1 = xf X := hH.2.2.2.2.2.2.2
  rw [eI] at w
  rw [eN] at hin
  have e1 : stc X (vI i :: vR 1 :: st) = .int i :: .ref (xs X 1) :: stc X st := rfl
  rw [e1]
  obtain ⟨g1, k, g2, g3⟩ := h2
  obtain ⟨k', hk', he⟩ := F.2.2.2.2.2.2.1.alike.2.2 _ _ g2
  have hlt : i.toNatClampNeg < xL X := Nat.not_le.mp fun q => hin (Or.inr q)
  exact W.iald (v := .int (xf X i.toNatClampNeg)) F.1 F.2.1 h1' ⟨g1, k', hk', by obtain ⟨cm, g3⟩ := g3; exact ⟨cm, by rw [he]; exact g3⟩⟩ h3 (by rw [h4]; exact hin) (h5 _ hlt) rfl rfl hd w
theorem V_ldcs (i : Nat) {ix : Nat} {tx : String} (hd : decode M.2.1 pc = .ok (.ldc ix, 2)) (hs : strT[i]? = some (kcn.getD M.2.2.2.2 "", ix, tx)) (hp : pc + 2 = pc2) (kk : V X d M pc2 lv (vR (i + 2) :: st) S Q) : V X d M pc lv st S Q := by
  subst hp
  refine V_p (fun G F hH hl w => ?_) kk
  have hi : i < 25 := (List.getElem?_eq_some_iff.mp hs).1
  have hz := G.2.2.2.2.2.2.2.1 i hi
  have eg : strT.getD i ("", 0, "") = (kcn.getD M.2.2.2.2 "", ix, tx) := by rw [List.getD_eq_getElem?_getD, hs]; rfl
  rw [eg] at hz
  have e1 : stc X (vR (i + 2) :: st) = .ref (xs X (i + 2)) :: stc X st := by
    show cv X (vR (i + 2)) :: stc X st = _
    rw [cvR (by omega)]
    unfold ad
    rw [if_pos (by omega)]
  rw [e1] at w
  exact va_ldcS F.1 F.2.1 F.2.2.2.2.1 (hz.warm F.2.2.2.2.2.2.1) hd w
theorem V_aastK {a k v : Nat} {i : Int32} (hk : 24 ≤ k) (hk2 : k < 28) (hd : decode M.2.1 pc = .ok (.aastore, 1)) (hp : pc + 1 = pc2) (ho : isK S a k) (hin : vp_in i (gN S a)) (hv0 : v ≠ 0)
    (hval : ∀ {s : State} {H : Heap}, Good X → (x0 X).WarmedH s.vm → HR X S H → ∃ (kA : Class) (comp : ClassId) (kcomp : Class) (cellV : Cell) (kv : Class), s.vm.classes[xA X k]? = some kA ∧ kA.kind = .array comp (kel k) ∧ s.vm.classes[comp]? = some kcomp ∧ H[ad X v]? = some cellV ∧ (∀ q, cellV.vm ≠ .statics q) ∧ s.vm.classes[cellV.cls]? = some kv ∧ s.vm.assignable cellV.cls comp = true)
    (kk : V X d M pc2 lv st (uR S a i.toNatClampNeg v) Q) : V X d M pc lv (vR v :: vI i :: vR a :: st) S Q := by
  subst hp
  refine V_h (S2 := uR S a i.toNatClampNeg v) rfl rfl (fun {p e s m args below meth c H locs R cells slots Qf ls} G F hH hl w => ?_) kk
  have h32 := hH.ge ho hk2 (hH.n27 hin)
  have hc := hH.ar ho h32 (by omega)
  rw [arc_q ho.2 hk, vp_cell_q] at hc
  have hlt : i.toNatClampNeg < gN S a := Nat.not_le.mp fun q => hin (Or.inr q)
  obtain ⟨kA, comp, kcomp, cellV, kv, v1, v2, v3, v4, v5, v6, v7⟩ := hval (s := s) G F.2.2.2.2.2.2.1 hH
  rw [stc_via (by omega), cvR hv0]
  refine W.aast F.1 F.2.1 hc (fun q h => by cases h) (fun h => by cases h) v1 v2 (kel_at (X := X) hk hk2).2 v3 ⟨fun q => hin (Or.inl q), by rw [arrV_size]; exact hlt⟩ v4 v5 v6 v7 rfl rfl hd fun H1 e z oq => ?_
  refine w H1 _ (hH.set h32 z oq (atc_ar (k := k) ho.2 (by omega) ?_) rfl (fun _ => rfl) (fun _ => rfl) (fun _ _ => rfl) (fun _ _ => rfl) (fun b hb => up2_ne hb)) (by show xB X ≤ ad X a; rw [ad_ge h32]; omega)
  rw [e, arc_q (S := uR S a i.toNatClampNeg v) ho.2 hk, vp_cell_q]
  exact congrArg some (arrV_set _ _ _ _ _ _ (by show va_rf (rO X (up2 S.2.2.1 a _ v a _)) = _; rw [up2_at]; exact cvR hv0) (fun j hj => by show va_rf (rO X (up2 S.2.2.1 a _ v a j)) = _; rw [up2_nk hj]; rfl))
theorem V_anewO {k n : Nat} {Cn : String} {t0 : Nat} (hk : 24 ≤ k) (hk2 : k < 28) (hkel : kel k = .object Cn) (ht : (tysL X)[t0]? = some (xA X k, .object Cn)) {ix : Nat} (hd : decode M.2.1 pc = .ok (.anewarray ix, 3)) (hw : Cond.classLink (kcn.getD M.2.2.2.2 "") ix Cn ∈ lw_tbl) (ha : Cond.arrayOver (.object Cn) ∈ lw_tbl) (hp : pc + 3 = pc2) {x : Int32} (hx : x = nI n) (hn : n ≤ 1000000) (kk : V X d M pc2 lv (vR (tp S) :: st) (nw S k n n) Q) : V X d M pc lv (vI x :: st) S Q := by
  subst hp; subst hx
  refine V_a (S2 := nw S k n n) rfl rfl (fun {p e s m args below meth c H locs R cells slots Qf ls} G F hH hl h1 h2 w => ?_) kk
  have hW := F.2.2.2.2.2.2.1
  have hKs := G.2.1.moved hW.alike
  have en : (nI n).toNatClampNeg = n := nI_clamp (by omega)
  refine W.anew F.1 F.2.1 F.2.2.2.2.1 (word_at hW (Or.inl rfl) (G.1 _ hw)) (va_AO.use (va_AO.moved hW.alike (G.1 _ ha))) rfl hd rfl (nI_pos (by omega)) (by rw [en]; omega) h1 (by rw [en]; exact h2) fun cA kA comp f1 f2 f3 f4 => ?_
  obtain ⟨-, -, -, -, -, k4⟩ := (hKs.2 t0 _ ht).2
  have ecA : cA = xA X k := Option.some.inj (f1.symm.trans k4)
  subst ecA
  rw [en]
  have h32 := hH.1
  have ea : H.size = ad X (tp S) := by rw [ad_ge h32]; exact hH.2.1
  have ek : gK (nw S k n n) (tp S) = k := by show va_up (gK S) (tp S) k (tp S) = k; unfold va_up; rw [if_pos rfl]
  have eN : gN (nw S k n n) (tp S) = n := by show va_up (gN S) (tp S) n (tp S) = n; unfold va_up; rw [if_pos rfl]
  generalize hH1 : H.push ({ cls := xA X k, slots := Array.replicate n .null, vm := .none } : Cell) = H1
  have z1 : H1.size = H.size + 1 := by rw [← hH1, Array.size_push]
  have e1 : H1[H.size]? = some (arrV (xA X k) n (fun _ => .null)) := by rw [← hH1, Array.getElem?_push_size, ← arrV_new]
  have o1 : ∀ q : Nat, q < H.size → H1[q]? = H[q]? := fun q hq => by rw [← hH1, Array.getElem?_push, if_neg (Nat.ne_of_lt hq)]
  have K := w H1 (hH.push hk2 z1 o1 (atc_ar ek (by omega) (by
    rw [← ea, e1, arc_q ek hk, vp_cell_q, eN]
    congr 2; funext j; show _ = va_rf (rO X (cl2 S.2.2.1 (tp S) 0 (tp S) j)); unfold cl2; rw [if_pos rfl]; rfl)))
  have es : stc X (vR (tp S) :: st) = .ref H.size :: stc X st := by show cv X (vR (tp S)) :: stc X st = _; rw [cvR (by omega), ea]
  rw [es] at K
  exact K
theorem V_anew26 {n : Nat} {ix : Nat} (hd : decode M.2.1 pc = .ok (.anewarray ix, 3)) (hw : Cond.classLink (kcn.getD M.2.2.2.2 "") ix "[I" ∈ lw_tbl) (ha : Cond.arrayOver (.array .int) ∈ lw_tbl) (hp : pc + 3 = pc2) {x : Int32} (hx : x = nI n) (hn : n ≤ 1000000) (kk : V X d M pc2 lv (vR (tp S) :: st) (nw S 26 n n) Q) : V X d M pc lv (vI x :: st) S Q := by
  subst hp; subst hx
  refine V_a (S2 := nw S 26 n n) rfl rfl (fun {p e s m args below meth c H locs R cells slots Qf ls} G F hH hl h1 h2 w => ?_) kk
  have hW := F.2.2.2.2.2.2.1
  have hKs := G.2.1.moved hW.alike
  have en : (nI n).toNatClampNeg = n := nI_clamp (by omega)
  refine W.anewA (t := .int) F.1 F.2.1 F.2.2.2.2.1 (word_at hW (Or.inl rfl) (G.1 _ hw)) (aoA_moved hW.alike (G.1 _ ha)) rfl hd rfl (nI_pos (by omega)) (by rw [en]; omega) h1 (by rw [en]; exact h2) fun cA kA comp f1 f2 f3 f4 => ?_
  have ecA : cA = xA X 26 := Option.some.inj (f1.symm.trans (hKs.2 6 _ rfl).2)
  subst ecA
  rw [en]
  have h32 := hH.1
  have ea : H.size = ad X (tp S) := by rw [ad_ge h32]; exact hH.2.1
  have ek : gK (nw S 26 n n) (tp S) = 26 := by show va_up (gK S) (tp S) 26 (tp S) = 26; unfold va_up; rw [if_pos rfl]
  have eN : gN (nw S 26 n n) (tp S) = n := by show va_up (gN S) (tp S) n (tp S) = n; unfold va_up; rw [if_pos rfl]
  generalize hH1 : H.push ({ cls := xA X 26, slots := Array.replicate n .null, vm := .none } : Cell) = H1
  have z1 : H1.size = H.size + 1 := by rw [← hH1, Array.size_push]
  have e1 : H1[H.size]? = some (arrV (xA X 26) n (fun _ => .null)) := by rw [← hH1, Array.getElem?_push_size, ← arrV_new]
  have o1 : ∀ q : Nat, q < H.size → H1[q]? = H[q]? := fun q hq => by rw [← hH1, Array.getElem?_push, if_neg (Nat.ne_of_lt hq)]
  have K := w H1 (hH.push (by omega) z1 o1 (atc_ar ek (by omega) (by
    rw [← ea, e1, arc_q ek (by omega), vp_cell_q, eN]
    congr 2; funext j; show _ = va_rf (rO X (cl2 S.2.2.1 (tp S) 0 (tp S) j)); unfold cl2; rw [if_pos rfl]; rfl)))
  have es : stc X (vR (tp S) :: st) = .ref H.size :: stc X st := by show cv X (vR (tp S)) :: stc X st = _; rw [cvR (by omega), ea]
  rw [es] at K
  exact K
end MORE

