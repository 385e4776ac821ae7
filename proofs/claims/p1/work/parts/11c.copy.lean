def okT : FieldType → Bool
  | .float => false
  | .double => false
  | _ => true
section COPY
variable {X : Cx} {d : Nat} {M : MI} {pc pc2 : Nat} {lv : Lv} {st : List AV} {S : Mem} {Q : Res → Mem → Prop}
theorem new_def {k n w j : Nat} {t : FieldType} (h : okT t = true) : defaultValue t = fvl X (nw S k n w) (tp S) t j := by
  have e1 : gI (nw S k n w) (tp S) j = 0 := by show cl2 S.1 (tp S) 0 (tp S) j = 0; unfold cl2; rw [if_pos rfl]
  have e2 : gL (nw S k n w) (tp S) j = 0 := by show cl2 S.2.1 (tp S) 0 (tp S) j = 0; unfold cl2; rw [if_pos rfl]
  have e3 : gR (nw S k n w) (tp S) j = 0 := by show cl2 S.2.2.1 (tp S) 0 (tp S) j = 0; unfold cl2; rw [if_pos rfl]
  cases t with
  | float => cases h
  | double => cases h
  | long => show _ = Value.long _; rw [e2]; rfl
  | object c => show _ = va_rf (rO X _); rw [e3]; rfl
  | array c => show _ = va_rf (rO X _); rw [e3]; rfl
  | int => show _ = Value.int _; rw [e1]; rfl
  | boolean => show _ = Value.int _; rw [e1]; rfl
  | byte => show _ = Value.int _; rw [e1]; rfl
  | short => show _ = Value.int _; rw [e1]; rfl
  | char => show _ = Value.int _; rw [e1]; rfl
theorem V_newC {ci : Nat} {Cn : String} {T : u_T} {N : Nat} {ty : Nat → FieldType} (B : KC ci Cn T N ty) {ix : Nat} (hd : decode M.2.1 pc = .ok (.new ix, 3)) (hw : Cond.classLink (kcn.getD M.2.2.2.2 "") ix Cn ∈ lw_tbl) (hi : Cond.instantiable Cn N ∈ lw_tbl) (hi2 : Cond.initialized Cn ∈ lw_tbl)
    (hv : ∀ j, j < N → okT (ty j) = true) (hp : pc + 3 = pc2) (kk : V X d M pc2 lv (vR (tp S) :: st) (nw S ci 0 N) Q) : V X d M pc lv st S Q := V_new B hd hw hi hi2 (fun j hj => new_def (hv j hj)) hp kk
end COPY

