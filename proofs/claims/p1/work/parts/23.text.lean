/-! the texts' methods -/
theorem c_coder {X : Cx} {S : Mem} {F : Int32 → Mem → Prop} {r : Nat} (hr : 2 ≤ r ∧ r < 27) (q : F 0 S) : C X 0 MJ0_coder_7d493 [vR r] S (RI F) :=
  C_of_V rfl (Nat.le_of_ble_eq_true rfl) rfl (w_J0_coder_7d493_0 r ⟨fun h => absurd h (by decide), fun _ => ⟨hr, w_J0_coder_7d493_14 r 0 ⟨rfl, 0, rfl, q⟩⟩⟩)
theorem sh0 (x : Int32) : x >>> ((0 : Int32) &&& 31) = x := by
  have e : ((0 : Int32) &&& 31) = 0 := by decide
  rw [e]
  simp
theorem c_length {X : Cx} {S : Mem} {F : Int32 → Mem → Prop} {r : Nat} (hr : 2 ≤ r ∧ r < 27) (q : F (nI (stN (r + 26))) S) : C X 1 MJ0_length_8abf5 [vR r] S (RI F) :=
  C_of_V rfl (Nat.le_of_ble_eq_true rfl) rfl (w_J0_length_8abf5_0 r ⟨hr, ⟨by omega, by omega⟩, hr, 0, Nat.le_refl _, c_coder hr ⟨_, rfl, by rw [sh0]; exact q⟩⟩)
theorem c_isLatin1 {X : Cx} {S : Mem} {F : Int32 → Mem → Prop} {r : Nat} (hr : 2 ≤ r ∧ r < 27) (q : F 1 S) : C X 0 MJ0_isLatin1_aae02 [vR r] S (RI F) :=
  C_of_V rfl (Nat.le_of_ble_eq_true rfl) rfl (w_J0_isLatin1_aae02_0 r ⟨fun h => absurd h (by decide), fun _ => ⟨hr, fun n => absurd rfl n, fun _ => w_J0_isLatin1_aae02_18 r 1 ⟨Or.inr rfl, 1, rfl, q⟩⟩⟩)
theorem c_pIndex {X : Cx} {S : Mem} {F : Int32 → Mem → Prop} {x y : Int32} {r : Nat} (h1 : ¬ x < 0) (h2 : x < y) (q : F x S) : C X 0 MJ3_checkIndex_8e157 [vI x, vI y, vR r] S (RI F) :=
  C_of_V rfl (Nat.le_of_ble_eq_true rfl) rfl (w_J3_checkIndex_8e157_0 x y r ⟨fun h => absurd h h1, fun _ => ⟨fun _ => ⟨x, rfl, q⟩, fun n => absurd h2 n⟩⟩)
theorem c_sIndex {X : Cx} {S : Mem} {F : Mem → Prop} {x y : Int32} (h1 : ¬ x < 0) (h2 : x < y) (q : F S) : C X 1 MJ0_checkIndex_df160 [vI x, vI y] S (RV F) :=
  C_of_V rfl (Nat.le_of_ble_eq_true rfl) rfl (w_J0_checkIndex_df160_0 x y (fun r _ => ⟨0, Nat.le_refl _, c_pIndex h1 h2 ⟨rfl, q⟩⟩))
/-- a character: a byte of the row -/
def chB (b : Int32) : Int32 := (((b &&& 255) : Int32).toUInt32 % 65536).toInt32
theorem chB_char (b : Int32) : narrow .char (.int (chB b)) = .int (chB b) := by
  have h : ∀ x : UInt32, narrow .char (.int (x % 65536).toInt32) = .int (x % 65536).toInt32 := by
    intro x
    have e : x % 65536 % 65536 = x % 65536 := UInt32.toNat_inj.mp (by simp [UInt32.toNat_mod])
    simp [narrow, e]
  exact h _
theorem c_lCharAt {X : Cx} {S : Mem} {F : Int32 → Mem → Prop} {a i : Nat} (ha : 28 ≤ a ∧ a < 53) (hi : i < stN a) (q : F (chB (stB a i)) S) : C X 2 MJ1_charAt_3b067 [vR a, vI (nI i)] S (RI F) := by
  have hs := stN_lt a
  refine C_of_V rfl (Nat.le_of_ble_eq_true rfl) rfl (w_J1_charAt_3b067_0 a (nI i) ⟨ha, 1, Nat.le_refl _, c_sIndex (nI_pos (by omega)) (nI_lt hi hs) ⟨ha, vp_in_nI hi (by omega), ?_, _, rfl, ?_⟩⟩)
  · exact chB_char _
  · rw [cl_nI (by omega)]; exact q
theorem c_charAt {X : Cx} {S : Mem} {F : Int32 → Mem → Prop} {r i : Nat} (hr : 2 ≤ r ∧ r < 27) (hi : i < stN (r + 26)) (q : F (chB (stB (r + 26) i)) S) : C X 3 MJ0_charAt_5068e [vR r, vI (nI i)] S (RI F) :=
  C_of_V rfl (Nat.le_of_ble_eq_true rfl) rfl (w_J0_charAt_5068e_0 r (nI i) ⟨hr, 0, by omega, c_isLatin1 hr ⟨fun n => absurd n (by decide), fun _ => ⟨hr, 2, Nat.le_refl _, c_lCharAt ⟨by omega, by omega⟩ hi ⟨chB_char _, _, rfl, q⟩⟩⟩⟩)

