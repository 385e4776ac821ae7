/-! THE REFERENCE'S OWN MACHINE: its memory as a view (ints and longs by field and place); the same judgements over the view -/
/-- of each field that holds an array or object: its place behind the reference, its kind, its length (0: a number stands in the field) -/
def mAF : List Nat := [1, 2, 0, 3, 0, 4, 5, 6, 7, 8, 0, 9, 0, 10, 11, 12, 13, 0, 0, 14, 15, 16, 17, 18, 19, 0, 20, 21, 22, 0, 23, 24, 25, 26, 0, 0, 0, 0, 27, 28, 29, 0, 30, 31, 0, 32, 0, 0, 0, 33, 34, 35, 36, 37, 38, 39, 40, 41, 42, 43, 44, 45, 46, 47, 48, 49, 50, 51, 52, 53, 54, 55, 56, 57, 58, 0, 0, 0, 0, 0, 0, 59, 60, 0, 61, 62, 63, 0, 0, 64, 65, 66, 67, 68, 69, 70, 71, 0, 72, 73, 74, 75, 0]
def mKD : List Nat := [12, 20, 0, 20, 0, 21, 21, 21, 21, 22, 0, 27, 0, 21, 21, 21, 21, 0, 0, 21, 21, 21, 21, 21, 22, 0, 22, 21, 21, 0, 21, 21, 21, 21, 0, 0, 0, 0, 21, 21, 21, 0, 21, 21, 0, 21, 0, 0, 0, 21, 21, 21, 21, 21, 21, 21, 21, 23, 21, 23, 21, 21, 21, 21, 21, 21, 21, 21, 21, 21, 21, 21, 21, 21, 21, 0, 0, 0, 0, 0, 0, 21, 21, 0, 21, 21, 21, 0, 0, 21, 21, 21, 21, 21, 21, 21, 21, 0, 23, 21, 21, 21, 0]
def mLN : List Nat := [0, 3000, 0, 3000, 0, 3002, 3002, 3002, 3002, 3002, 0, 23, 0, 12000, 12000, 12000, 12000, 0, 0, 12, 12, 12, 12, 12, 1600, 0, 12, 1000, 1000, 0, 1000, 1000, 1000, 1000, 0, 0, 0, 0, 1600, 1600, 1600, 0, 1600, 1600, 0, 1000, 0, 0, 0, 61, 61, 61, 61, 61, 61, 61, 61, 61, 61, 12, 12, 720, 720, 720, 720, 720, 28800, 18000, 12, 18000, 18000, 18000, 18000, 12, 122400, 0, 0, 0, 0, 0, 0, 300, 300, 0, 300, 300, 64, 0, 0, 8000, 8000, 8000, 8000, 8000, 8000, 8000, 8000, 0, 61, 40, 40, 40, 0]
def maf (k : Nat) : Nat := mAF.getD k 0
def mkd (k : Nat) : Nat := mKD.getD k 0
def mln (k : Nat) : Nat := mLN.getD k 0
abbrev Rm : Type := (Nat → Nat → Int32) × (Nat → Nat → Int64)
def sI (σ : Rm) (k : Nat) : Int32 := σ.1 k 0
def aI (σ : Rm) (k i : Nat) : Int32 := σ.1 k i
def aL (σ : Rm) (k i : Nat) : Int64 := σ.2 k i
def wI (σ : Rm) (k i : Nat) (v : Int32) : Rm := (up2 σ.1 k i v, σ.2)
abbrev wS (σ : Rm) (k : Nat) (v : Int32) : Rm := wI σ k 0 v
def vwI (b : Nat) (T : Mem) (k i : Nat) : Int32 := if k < 103 then (if maf k = 0 then (if i = 0 then gI T b k else 0) else gI T (b + maf k) i) else 0
def vwL (b : Nat) (T : Mem) (k i : Nat) : Int64 := if k < 103 ∧ maf k ≠ 0 then gL T (b + maf k) i else 0
def vw (b : Nat) (T : Mem) : Rm := (vwI b T, vwL b T)
/-- how the reference lies in the memory; nothing of it ever changes -/
def Lay (b : Nat) (T : Mem) : Prop := 64 ≤ b ∧ isK T b 13 ∧ (∀ k, k < 103 → maf k ≠ 0 → gR T b k = b + maf k ∧ isK T (b + maf k) (mkd k) ∧ gN T (b + maf k) = mln k) ∧ ∀ i, i < 23 → gR T (b + 9) i = 4 + i
/-- outside the reference, and of its form, all is as it was -/
def Fr (b : Nat) (T T' : Mem) : Prop := gR T' = gR T ∧ gK T' = gK T ∧ gN T' = gN T ∧ tp T' = tp T ∧ sz T' = sz T ∧ ∀ a, (a < b ∨ b + 76 ≤ a) → gI T' a = gI T a ∧ gL T' a = gL T a
theorem maf_lt : ∀ k, maf k < 76 := by
  intro k
  by_cases h : k < 103
  · have h2 : ∀ i : Fin 103, maf i.1 < 76 := by decide +kernel
    exact h2 ⟨k, h⟩
  · unfold maf
    rw [List.getD_eq_getElem?_getD, List.getElem?_eq_none (by show 103 ≤ k; omega)]
    decide
theorem maf_inj {k j : Nat} (hk : k < 103) (hj : j < 103) (h0 : maf k ≠ 0) (h : maf k = maf j) : k = j := by
  have h2 : ∀ i : Fin 103, ∀ q : Fin 103, maf i.1 ≠ 0 → maf i.1 = maf q.1 → i.1 = q.1 := by decide +kernel
  exact h2 ⟨k, hk⟩ ⟨j, hj⟩ h0 h
theorem Fr.refl {b : Nat} {T : Mem} : Fr b T T := ⟨rfl, rfl, rfl, rfl, rfl, fun _ _ => ⟨rfl, rfl⟩⟩
theorem Fr.trans {b : Nat} {T T1 T2 : Mem} (h : Fr b T T1) (h' : Fr b T1 T2) : Fr b T T2 := ⟨h'.1.trans h.1, h'.2.1.trans h.2.1, h'.2.2.1.trans h.2.2.1, h'.2.2.2.1.trans h.2.2.2.1, h'.2.2.2.2.1.trans h.2.2.2.2.1, fun a ha => ⟨(h'.2.2.2.2.2 a ha).1.trans (h.2.2.2.2.2 a ha).1, (h'.2.2.2.2.2 a ha).2.trans (h.2.2.2.2.2 a ha).2⟩⟩
theorem Lay.fr {b : Nat} {T T' : Mem} (h : Lay b T) (f : Fr b T T') : Lay b T' := by
  obtain ⟨h1, h2, h3, h4⟩ := h
  refine ⟨h1, ⟨by rw [f.2.2.2.1]; exact h2.1, by rw [f.2.1]; exact h2.2⟩, fun k hk h0 => ?_, fun i hi => by rw [f.1]; exact h4 i hi⟩
  obtain ⟨q1, q2, q3⟩ := h3 k hk h0
  exact ⟨by rw [f.1]; exact q1, ⟨by rw [f.2.2.2.1]; exact q2.1, by rw [f.2.1]; exact q2.2⟩, by rw [f.2.2.1]; exact q3⟩
theorem vw_sc {b k : Nat} {T : Mem} {σ : Rm} (hv : vw b T = σ) (hk : k < 103) (h0 : maf k = 0) : gI T b k = sI σ k := by
  subst hv
  show _ = vwI b T k 0
  unfold vwI
  rw [if_pos hk, if_pos h0, if_pos rfl]
theorem vw_ai {b k i : Nat} {T : Mem} {σ : Rm} (hv : vw b T = σ) (hk : k < 103) (h0 : maf k ≠ 0) : gI T (b + maf k) i = aI σ k i := by
  subst hv
  show _ = vwI b T k i
  unfold vwI
  rw [if_pos hk, if_neg h0]
theorem vw_al {b k i : Nat} {T : Mem} {σ : Rm} (hv : vw b T = σ) (hk : k < 103) (h0 : maf k ≠ 0) : gL T (b + maf k) i = aL σ k i := by
  subst hv
  show _ = vwL b T k i
  unfold vwL
  rw [if_pos ⟨hk, h0⟩]
theorem vw_uI {b k i : Nat} {T : Mem} {v : Int32} (hk : k < 103) (h0 : maf k ≠ 0) : vw b (uI T (b + maf k) i v) = wI (vw b T) k i v := by
  have hz : maf k ≠ 0 := h0
  refine Prod.ext ?_ rfl
  funext j q
  show vwI b (uI T (b + maf k) i v) j q = (if j = k ∧ q = i then v else vwI b T j q)
  unfold vwI
  by_cases hj : j < 103
  · rw [if_pos hj, if_pos hj]
    by_cases hm : maf j = 0
    · rw [if_pos hm, if_pos hm]
      have hjk : ¬ (j = k ∧ q = i) := fun h => h0 (h.1 ▸ hm)
      rw [if_neg hjk]
      by_cases hq : q = 0
      · rw [if_pos hq, if_pos hq]
        exact congrFun (up2_ne (f := T.1) (a := b + maf k) (k := i) (v := v) (b := b) (by omega)) j
      · rw [if_neg hq, if_neg hq]
    · rw [if_neg hm, if_neg hm]
      by_cases hjk : j = k ∧ q = i
      · rw [if_pos hjk, hjk.1, hjk.2]; exact up2_at
      · rw [if_neg hjk]
        show up2 T.1 (b + maf k) i v (b + maf j) q = T.1 (b + maf j) q
        unfold up2
        by_cases hc : b + maf j = b + maf k ∧ q = i
        · exact absurd ⟨maf_inj hj hk hm (by omega), hc.2⟩ hjk
        · rw [if_neg hc]
  · rw [if_neg hj, if_neg hj]
    have hjk : ¬ (j = k ∧ q = i) := fun h => hj (h.1 ▸ hk)
    rw [if_neg hjk]
theorem vw_uS {b k : Nat} {T : Mem} {v : Int32} (hk : k < 103) (h0 : maf k = 0) : vw b (uI T b k v) = wS (vw b T) k v := by
  refine Prod.ext ?_ rfl
  funext j q
  show vwI b (uI T b k v) j q = (if j = k ∧ q = 0 then v else vwI b T j q)
  unfold vwI
  by_cases hj : j < 103
  · rw [if_pos hj, if_pos hj]
    by_cases hm : maf j = 0
    · rw [if_pos hm, if_pos hm]
      by_cases hq : q = 0
      · rw [if_pos hq, if_pos hq]
        by_cases hjk : j = k
        · rw [if_pos ⟨hjk, hq⟩, hjk]; exact up2_at
        · rw [if_neg (fun h => hjk h.1)]
          exact up2_nk hjk
      · rw [if_neg hq, if_neg hq, if_neg (fun h => hq h.2)]
    · rw [if_neg hm, if_neg hm]
      rw [if_neg (fun h : j = k ∧ q = 0 => hm (h.1 ▸ h0))]
      exact congrFun (up2_ne (f := T.1) (a := b) (k := k) (v := v) (b := b + maf j) (by omega)) q
  · rw [if_neg hj, if_neg hj]
    rw [if_neg (fun h : j = k ∧ q = 0 => hj (h.1 ▸ hk))]
theorem Fr.uI {b a i : Nat} {T : Mem} {v : Int32} (h1 : b ≤ a) (h2 : a < b + 76) : Fr b T (uI T a i v) := ⟨rfl, rfl, rfl, rfl, rfl, fun q hq => ⟨by show up2 T.1 a i v q = T.1 q; exact up2_ne (by omega), rfl⟩⟩
theorem Fr.uL {b a i : Nat} {T : Mem} {v : Int64} (h1 : b ≤ a) (h2 : a < b + 76) : Fr b T (uL T a i v) := ⟨rfl, rfl, rfl, rfl, rfl, fun q hq => ⟨rfl, by show up2 T.2.1 a i v q = T.2.1 q; exact up2_ne (by omega)⟩⟩
def AE (X : Cx) (b d : Nat) (M : MI) (pc : Nat) (lv : Lv) (st : List AV) (σ : Rm) (r : Res) (σ' : Rm) : Prop := ∀ T : Mem, Lay b T → vw b T = σ → ∃ T' : Mem, Ev X d M pc lv st T r T' ∧ vw b T' = σ' ∧ Fr b T T'
def A (X : Cx) (b d : Nat) (M : MI) (pc : Nat) (lv : Lv) (st : List AV) (σ : Rm) (Q : Res → Rm → Prop) : Prop := ∃ (r : Res) (σ' : Rm), AE X b d M pc lv st σ r σ' ∧ Q r σ'
def ACR (X : Cx) (b d : Nat) (M : MI) (as : List AV) (σ : Rm) (r : Res) (σ' : Rm) : Prop := ∀ T : Mem, Lay b T → vw b T = σ → ∃ T' : Mem, CR X d M as T r T' ∧ vw b T' = σ' ∧ Fr b T T'
def AC (X : Cx) (b d : Nat) (M : MI) (as : List AV) (σ : Rm) (Q : Res → Rm → Prop) : Prop := ∃ (r : Res) (σ' : Rm), ACR X b d M as σ r σ' ∧ Q r σ'
/-- what a callee gives back -/
def aRI (F : Int32 → Rm → Prop) : Res → Rm → Prop := fun r S => ∃ x : Int32, r = .inl (some (vI x)) ∧ F x S
def aRJ (F : Int64 → Rm → Prop) : Res → Rm → Prop := fun r S => ∃ x : Int64, r = .inl (some (vL x)) ∧ F x S
def aRV (F : Rm → Prop) : Res → Rm → Prop := fun r S => r = .inl none ∧ F S
def aTI (Q : Res → Rm → Prop) (F : Int32 → Rm → Prop) : Res → Rm → Prop := fun r S => (∃ x : Int32, r = .inl (some (vI x)) ∧ F x S) ∨ ∃ y : Nat, r = .inr y ∧ Q (.inr y) S
def aTV (Q : Res → Rm → Prop) (F : Rm → Prop) : Res → Rm → Prop := fun r S => (r = .inl none ∧ F S) ∨ ∃ y : Nat, r = .inr y ∧ Q (.inr y) S
section MODEL
variable {X : Cx} {b d : Nat} {M : MI} {pc pc2 : Nat} {lv lv2 : Lv} {st st2 : List AV} {σ : Rm} {Q : Res → Rm → Prop}
theorem AC.mono {as : List AV} {Q' : Res → Rm → Prop} (h : AC X b d M as σ Q) (hq : ∀ r s, Q r s → Q' r s) : AC X b d M as σ Q' := by
  obtain ⟨r, s, e, q⟩ := h
  exact ⟨r, s, e, hq r s q⟩
theorem A.mono {Q' : Res → Rm → Prop} (h : A X b d M pc lv st σ Q) (hq : ∀ r s, Q r s → Q' r s) : A X b d M pc lv st σ Q' := by
  obtain ⟨r, s, e, q⟩ := h
  exact ⟨r, s, e, hq r s q⟩
theorem AC_of_A {as : List AV} (hy : plainName M.1.cls = true) (hw : (as.map cat).sum ≤ M.2.2.1) (hc : kcn.getD M.2.2.2.2 "" = M.1.cls) (h : A X b d M 0 (lvE 0 as) [] σ Q) (h15 : M.2.2.2.2 ≠ 15 := by decide) : AC X b d M as σ Q := by
  obtain ⟨r, σ', e, q⟩ := h
  refine ⟨r, σ', fun T L hv => ?_, q⟩
  obtain ⟨T', ev, h1, h2⟩ := e T L hv
  obtain ⟨r2, S2, cr, rfl, rfl⟩ := C_of_V hy hw hc (Q := fun r' S' => r' = r ∧ S' = T') ⟨r, T', ev, rfl, rfl⟩ h15
  exact ⟨S2, cr, h1, h2⟩
/-- a row that leaves the memory as it is -/
theorem A_p (h : ∀ (T : Mem) (Q' : Res → Mem → Prop), Lay b T → vw b T = σ → V X d M pc2 lv2 st2 T Q' → V X d M pc lv st T Q') (k : A X b d M pc2 lv2 st2 σ Q) : A X b d M pc lv st σ Q := by
  obtain ⟨r, σ', e, q⟩ := k
  refine ⟨r, σ', fun T L hv => ?_, q⟩
  obtain ⟨T', ev, h1, h2⟩ := e T L hv
  obtain ⟨r2, S2, ev2, rfl, rfl⟩ := h T (fun r' S' => r' = r ∧ S' = T') L hv ⟨r, T', ev, rfl, rfl⟩
  exact ⟨S2, ev2, h1, h2⟩
/-- a row that writes -/
theorem A_w {σ2 : Rm} (g : Mem → Mem) (hg : ∀ T : Mem, Lay b T → vw b T = σ → vw b (g T) = σ2 ∧ Fr b T (g T)) (h : ∀ (T : Mem) (Q' : Res → Mem → Prop), Lay b T → vw b T = σ → V X d M pc2 lv2 st2 (g T) Q' → V X d M pc lv st T Q') (k : A X b d M pc2 lv2 st2 σ2 Q) : A X b d M pc lv st σ Q := by
  obtain ⟨r, σ', e, q⟩ := k
  refine ⟨r, σ', fun T L hv => ?_, q⟩
  obtain ⟨g1, g2⟩ := hg T L hv
  obtain ⟨T', ev, h1, h2⟩ := e (g T) (L.fr g2) g1
  obtain ⟨r2, S2, ev2, rfl, rfl⟩ := h T (fun r' S' => r' = r ∧ S' = T') L hv ⟨r, T', ev, rfl, rfl⟩
  exact ⟨S2, ev2, h1, g2.trans h2⟩
/-- an end -/
theorem A_ret {r : Res} (h : ∀ (T : Mem) (Q' : Res → Mem → Prop), Lay b T → Q' r T → V X d M pc lv st T Q') (q : Q r σ) : A X b d M pc lv st σ Q := by
  refine ⟨r, σ, fun T L hv => ?_, q⟩
  obtain ⟨r2, S2, ev2, rfl, rfl⟩ := h T (fun r' S' => r' = r ∧ S' = T) L ⟨rfl, rfl⟩
  exact ⟨S2, ev2, hv, Fr.refl⟩
/-- two ways -/
theorem A_if {c : Prop} {pa pb : Nat} (h : ∀ (T : Mem) (Q' : Res → Mem → Prop), (c → V X d M pa lv2 st2 T Q') → (¬ c → V X d M pb lv2 st2 T Q') → V X d M pc lv st T Q') (k1 : c → A X b d M pa lv2 st2 σ Q) (k2 : ¬ c → A X b d M pb lv2 st2 σ Q) : A X b d M pc lv st σ Q := by
  by_cases hc : c
  · exact A_p (fun T Q' _ _ k => h T Q' (fun _ => k) (fun n => absurd hc n)) (k1 hc)
  · exact A_p (fun T Q' _ _ k => h T Q' (fun y => absurd y hc) (fun _ => k)) (k2 hc)
/-- a call -/
theorem A_call {e : Nat} {M' : MI} {as stk : List AV} {Qc : Res → Rm → Prop} (h : ∀ (T : Mem) (Q' Qc' : Res → Mem → Prop), Lay b T → C X e M' as T Qc' → (∀ r S1, Qc' r S1 → ∃ v, r = .inl v ∧ V X d M pc2 lv (v.toList ++ st) S1 Q') → V X d M pc lv stk T Q')
    (hc : AC X b e M' as σ Qc) (k : ∀ r σ1, Qc r σ1 → ∃ v, r = .inl v ∧ A X b d M pc2 lv (v.toList ++ st) σ1 Q) : A X b d M pc lv stk σ Q := by
  obtain ⟨r, σ1, cr, qc⟩ := hc
  obtain ⟨v, rfl, r2, σ2, ae, q⟩ := k r σ1 qc
  refine ⟨r2, σ2, fun T L hv => ?_, q⟩
  obtain ⟨T1, c1, v1, f1⟩ := cr T L hv
  obtain ⟨T2, e2, v2, f2⟩ := ae T1 (L.fr f1) v1
  obtain ⟨r3, S3, ev3, rfl, rfl⟩ := h T (fun r' S' => r' = r2 ∧ S' = T2) (fun r' S' => r' = .inl v ∧ S' = T1) L ⟨_, _, c1, rfl, rfl⟩ (fun r' S' hh => ⟨v, hh.1, by rw [hh.2]; exact ⟨r2, T2, e2, rfl, rfl⟩⟩)
  exact ⟨S3, ev3, v2, f1.trans f2⟩
theorem A_callT {e : Nat} {M' : MI} {as stk : List AV} {Qc : Res → Rm → Prop} (h : ∀ (T : Mem) (Q' Qc' : Res → Mem → Prop), Lay b T → C X e M' as T Qc' → (∀ r S1, Qc' r S1 → (∃ v, r = .inl v ∧ V X d M pc2 lv (v.toList ++ st) S1 Q') ∨ ∃ x, r = .inr x ∧ Q' (.inr x) S1) → V X d M pc lv stk T Q')
    (hc : AC X b e M' as σ Qc) (k : ∀ r σ1, Qc r σ1 → (∃ v, r = .inl v ∧ A X b d M pc2 lv (v.toList ++ st) σ1 Q) ∨ ∃ x, r = .inr x ∧ Q (.inr x) σ1) : A X b d M pc lv stk σ Q := by
  obtain ⟨r, σ1, cr, qc⟩ := hc
  rcases k r σ1 qc with ⟨v, rfl, r2, σ2, ae, q⟩ | ⟨x, rfl, q⟩
  · refine ⟨r2, σ2, fun T L hv => ?_, q⟩
    obtain ⟨T1, c1, v1, f1⟩ := cr T L hv
    obtain ⟨T2, e2, v2, f2⟩ := ae T1 (L.fr f1) v1
    obtain ⟨r3, S3, ev3, rfl, rfl⟩ := h T (fun r' S' => r' = r2 ∧ S' = T2) (fun r' S' => r' = .inl v ∧ S' = T1) L ⟨_, _, c1, rfl, rfl⟩ (fun r' S' hh => Or.inl ⟨v, hh.1, by rw [hh.2]; exact ⟨r2, T2, e2, rfl, rfl⟩⟩)
    exact ⟨S3, ev3, v2, f1.trans f2⟩
  · refine ⟨.inr x, σ1, fun T L hv => ?_, q⟩
    obtain ⟨T1, c1, v1, f1⟩ := cr T L hv
    obtain ⟨r3, S3, ev3, rfl, rfl⟩ := h T (fun r' S' => r' = .inr x ∧ S' = T1) (fun r' S' => r' = .inr x ∧ S' = T1) L ⟨_, _, c1, rfl, rfl⟩ (fun r' S' hh => Or.inr ⟨x, hh.1, rfl, hh.2⟩)
    exact ⟨S3, ev3, v1, f1⟩
theorem aRI.k {F : Int32 → Rm → Prop} (h : ∀ x s, F x s → A X b d M pc2 lv (vI x :: st) s Q) : ∀ r s, aRI F r s → ∃ v, r = .inl v ∧ A X b d M pc2 lv (v.toList ++ st) s Q := fun _ s ⟨x, e, hf⟩ => ⟨some (vI x), e, h x s hf⟩
theorem aRJ.k {F : Int64 → Rm → Prop} (h : ∀ x s, F x s → A X b d M pc2 lv (vL x :: st) s Q) : ∀ r s, aRJ F r s → ∃ v, r = .inl v ∧ A X b d M pc2 lv (v.toList ++ st) s Q := fun _ s ⟨x, e, hf⟩ => ⟨some (vL x), e, h x s hf⟩
theorem aRV.k {F : Rm → Prop} (h : ∀ s, F s → A X b d M pc2 lv st s Q) : ∀ r s, aRV F r s → ∃ v, r = .inl v ∧ A X b d M pc2 lv (v.toList ++ st) s Q := fun _ s ⟨e, hf⟩ => ⟨none, e, h s hf⟩
theorem aTI.k {F : Int32 → Rm → Prop} (h : ∀ x s, F x s → A X b d M pc2 lv (vI x :: st) s Q) : ∀ r s, aTI Q F r s → (∃ v, r = .inl v ∧ A X b d M pc2 lv (v.toList ++ st) s Q) ∨ ∃ x, r = .inr x ∧ Q (.inr x) s := by
  rintro r s (⟨x, e, hf⟩ | hx)
  · exact Or.inl ⟨some (vI x), e, h x s hf⟩
  · exact Or.inr hx
theorem aTV.k {F : Rm → Prop} (h : ∀ s, F s → A X b d M pc2 lv st s Q) : ∀ r s, aTV Q F r s → (∃ v, r = .inl v ∧ A X b d M pc2 lv (v.toList ++ st) s Q) ∨ ∃ x, r = .inr x ∧ Q (.inr x) s := by
  rintro r s (⟨e, hf⟩ | hx)
  · exact Or.inl ⟨none, e, h s hf⟩
  · exact Or.inr hx
theorem A_table {dflt lo hi : Int} {offs : Array Int} {len : Nat} {x : Int32} (hd : decode M.2.1 pc = .ok (.tableswitch dflt lo hi offs, len)) (tgts : List Nat) (dt : Nat) (hdt : (pc : Int) + dflt = (dt : Int)) (hlh : lo ≤ hi) (hz : tgts.length = (hi - lo).toNat + 1) (hts : ∀ j, j < tgts.length → ∃ off, offs[j]? = some off ∧ (pc : Int) + off = ((tgts.getD j 0 : Nat) : Int))
    (kd : (x.toInt < lo ∨ hi < x.toInt) → A X b d M dt lv st σ Q) (kt : ∀ j, j < tgts.length → x.toInt = lo + j → A X b d M (tgts.getD j 0) lv st σ Q) : A X b d M pc lv (vI x :: st) σ Q := by
  by_cases h : x.toInt < lo ∨ hi < x.toInt
  · exact A_p (fun T Q' _ _ k => V_table hd tgts dt hdt hz hts (fun _ => k) (fun j hj hx => by exfalso; omega)) (kd h)
  · have h1 : ¬ x.toInt < lo := fun q => h (Or.inl q)
    have h2 : ¬ hi < x.toInt := fun q => h (Or.inr q)
    refine A_p (fun T Q' _ _ k => V_table hd tgts dt hdt hz hts (fun y => absurd y h) (fun j hj hx => ?_)) (kt (x.toInt - lo).toNat (by omega) (by omega))
    have e : j = (x.toInt - lo).toNat := by omega
    rw [e]; exact k
/-- a number of the reference -/
theorem A_sc {ix : Nat} (k : Nat) (hd : decode M.2.1 pc = .ok (.getfield ix, 3)) (hw : Cond.fieldLink (kcn.getD M.2.2.2.2 "") ix (TX13 k).1 (TX13 k).2.1 (TX13 k).2.2.1 ∈ lw_tbl) (hk : k < 103) (h0 : maf k = 0) (hv : ∀ S : Mem, fvl X S b (tyX13 k) k = .int (gI S b k)) (hp : pc + 3 = pc2) (kk : A X b d M pc2 lv (vI (sI σ k) :: st) σ Q) : A X b d M pc lv (vR b :: st) σ Q :=
  A_p (fun T Q' L hvw k' => V_getI kc13 (pc2 := pc2) k hd hw hk hv hp L.2.1 (by rw [vw_sc hvw hk h0]; exact k')) kk
/-- an array of the reference -/
theorem A_ar {ix a : Nat} (k : Nat) (hd : decode M.2.1 pc = .ok (.getfield ix, 3)) (hw : Cond.fieldLink (kcn.getD M.2.2.2.2 "") ix (TX13 k).1 (TX13 k).2.1 (TX13 k).2.2.1 ∈ lw_tbl) (hk : k < 103) (h0 : maf k ≠ 0) (ha : maf k = a) (hv : ∀ S : Mem, fvl X S b (tyX13 k) k = va_rf (rO X (gR S b k))) (hp : pc + 3 = pc2) (kk : A X b d M pc2 lv (vR (b + a) :: st) σ Q) : A X b d M pc lv (vR b :: st) σ Q :=
  A_p (fun T Q' L hvw k' => V_getR kc13 (pc2 := pc2) k hd hw hk hv hp L.2.1 (by rw [(L.2.2.1 k hk h0).1, ha]; exact k')) kk
theorem A_ild {a n : Nat} {i : Int32} (k : Nat) (hd : decode M.2.1 pc = .ok (.iaload, 1)) (hp : pc + 1 = pc2) (hk : k < 103) (ha : maf k = a) (h0 : maf k ≠ 0) (h1 : mkd k = 21) (hn : mln k = n) (hin : vp_in i n) (kk : A X b d M pc2 lv (vI (aI σ k i.toNatClampNeg) :: st) σ Q) : A X b d M pc lv (vI i :: vR (b + a) :: st) σ Q := by
  subst ha
  exact A_p (fun T Q' L hvw k' => V_iald hd hp (h1 ▸ (L.2.2.1 k hk h0).2.1) (by rw [(L.2.2.1 k hk h0).2.2, hn]; exact hin) (by rw [vw_ai hvw hk h0]; exact k')) kk
theorem A_bld {a n : Nat} {i : Int32} (k : Nat) (hd : decode M.2.1 pc = .ok (.baload, 1)) (hp : pc + 1 = pc2) (hk : k < 103) (ha : maf k = a) (h0 : maf k ≠ 0) (h1 : mkd k = 20) (hn : mln k = n) (hin : vp_in i n) (kk : A X b d M pc2 lv (vI (aI σ k i.toNatClampNeg) :: st) σ Q) : A X b d M pc lv (vI i :: vR (b + a) :: st) σ Q := by
  subst ha
  exact A_p (fun T Q' L hvw k' => V_bald hd hp (h1 ▸ (L.2.2.1 k hk h0).2.1) (by rw [(L.2.2.1 k hk h0).2.2, hn]; exact hin) (by rw [vw_ai hvw hk h0]; exact k')) kk
theorem A_lld {a n : Nat} {i : Int32} (k : Nat) (hd : decode M.2.1 pc = .ok (.laload, 1)) (hp : pc + 1 = pc2) (hk : k < 103) (ha : maf k = a) (h0 : maf k ≠ 0) (h1 : mkd k = 22) (hn : mln k = n) (hin : vp_in i n) (kk : A X b d M pc2 lv (vL (aL σ k i.toNatClampNeg) :: st) σ Q) : A X b d M pc lv (vI i :: vR (b + a) :: st) σ Q := by
  subst ha
  exact A_p (fun T Q' L hvw k' => V_lald hd hp (h1 ▸ (L.2.2.1 k hk h0).2.1) (by rw [(L.2.2.1 k hk h0).2.2, hn]; exact hin) (by rw [vw_al hvw hk h0]; exact k')) kk
theorem A_ist {a n : Nat} {i x : Int32} (k : Nat) (hd : decode M.2.1 pc = .ok (.iastore, 1)) (hp : pc + 1 = pc2) (hk : k < 103) (ha : maf k = a) (h0 : maf k ≠ 0) (h1 : mkd k = 21) (hn : mln k = n) (hin : vp_in i n) (kk : A X b d M pc2 lv st (wI σ k i.toNatClampNeg x) Q) : A X b d M pc lv (vI x :: vI i :: vR (b + a) :: st) σ Q := by
  subst ha
  exact A_w (fun T => uI T (b + maf k) i.toNatClampNeg x) (fun T L hvw => ⟨by rw [vw_uI hk h0, hvw], Fr.uI (by omega) (by have := maf_lt k; omega)⟩) (fun T Q' L hvw k' => V_iast hd hp (h1 ▸ (L.2.2.1 k hk h0).2.1) (by rw [(L.2.2.1 k hk h0).2.2, hn]; exact hin) k') kk
theorem A_bst {a n : Nat} {i x : Int32} (k : Nat) (hd : decode M.2.1 pc = .ok (.bastore, 1)) (hp : pc + 1 = pc2) (hk : k < 103) (ha : maf k = a) (h0 : maf k ≠ 0) (h1 : mkd k = 20) (hn : mln k = n) (hin : vp_in i n) (kk : A X b d M pc2 lv st (wI σ k i.toNatClampNeg x.toInt8.toInt32) Q) : A X b d M pc lv (vI x :: vI i :: vR (b + a) :: st) σ Q := by
  subst ha
  exact A_w (fun T => uI T (b + maf k) i.toNatClampNeg x.toInt8.toInt32) (fun T L hvw => ⟨by rw [vw_uI hk h0, hvw], Fr.uI (by omega) (by have := maf_lt k; omega)⟩) (fun T Q' L hvw k' => V_bast hd hp (h1 ▸ (L.2.2.1 k hk h0).2.1) (by rw [(L.2.2.1 k hk h0).2.2, hn]; exact hin) k') kk
theorem A_zst {a n : Nat} {i x : Int32} (k : Nat) (hd : decode M.2.1 pc = .ok (.bastore, 1)) (hp : pc + 1 = pc2) (hk : k < 103) (ha : maf k = a) (h0 : maf k ≠ 0) (h1 : mkd k = 23) (hn : mln k = n) (hin : vp_in i n) (hx : x = 0 ∨ x = 1) (kk : A X b d M pc2 lv st (wI σ k i.toNatClampNeg x) Q) : A X b d M pc lv (vI x :: vI i :: vR (b + a) :: st) σ Q := by
  subst ha
  exact A_w (fun T => uI T (b + maf k) i.toNatClampNeg x) (fun T L hvw => ⟨by rw [vw_uI hk h0, hvw], Fr.uI (by omega) (by have := maf_lt k; omega)⟩) (fun T Q' L hvw k' => V_zast hd hp (h1 ▸ (L.2.2.1 k hk h0).2.1) (by rw [(L.2.2.1 k hk h0).2.2, hn]; exact hin) hx k') kk
theorem A_put {ix : Nat} {x : Int32} (k : Nat) (hd : decode M.2.1 pc = .ok (.putfield ix, 3)) (hw : Cond.fieldLink (kcn.getD M.2.2.2.2 "") ix (TX13 k).1 (TX13 k).2.1 (TX13 k).2.2.1 ∈ lw_tbl) (hk : k < 103) (h0 : maf k = 0) (hf : (TX13 k).2.2.2 = false) (hty : tyX13 k = .int) (hp : pc + 3 = pc2) (kk : A X b d M pc2 lv st (wS σ k x) Q) : A X b d M pc lv (vI x :: vR b :: st) σ Q :=
  A_w (fun T => uI T b k x) (fun T L hvw => ⟨by rw [vw_uS hk h0, hvw], Fr.uI (by omega) (by omega)⟩) (fun T Q' L hvw k' => V_putI kc13 (pc2 := pc2) k hd hw hk (Or.inl hf) hty hp L.2.1 k') kk
theorem A_putZ {ix : Nat} {x : Int32} (k : Nat) (hd : decode M.2.1 pc = .ok (.putfield ix, 3)) (hw : Cond.fieldLink (kcn.getD M.2.2.2.2 "") ix (TX13 k).1 (TX13 k).2.1 (TX13 k).2.2.1 ∈ lw_tbl) (hk : k < 103) (h0 : maf k = 0) (hf : (TX13 k).2.2.2 = false) (hty : tyX13 k = .boolean) (hp : pc + 3 = pc2) (hx : x = 0 ∨ x = 1) (kk : A X b d M pc2 lv st (wS σ k x) Q) : A X b d M pc lv (vI x :: vR b :: st) σ Q :=
  A_w (fun T => uI T b k x) (fun T L hvw => ⟨by rw [vw_uS hk h0, hvw], Fr.uI (by omega) (by omega)⟩) (fun T Q' L hvw k' => V_putZ kc13 (pc2 := pc2) k hd hw hk (Or.inl hf) hty hp L.2.1 hx k') kk
theorem A_putN {x : Int32} (hd : decode M.2.1 pc = .ok (.putfield 328, 3)) (hcn : kcn.getD M.2.2.2.2 "" = RX13) (hp : pc + 3 = pc2) (kk : A X b d M pc2 lv st (wI σ 0 6 x) Q) : A X b d M pc lv (vI x :: vR (b + 1) :: st) σ Q :=
  A_w (fun T => uI T (b + maf 0) 6 x) (fun T L hvw => ⟨by rw [vw_uI (by decide) (by decide), hvw], Fr.uI (by omega) (by have := maf_lt 0; omega)⟩) (fun T Q' L hvw k' => V_putNI kc12 (pc2 := pc2) 6 hd (by rw [hcn]; exact fn_13_328) (by decide) rfl rfl hp (L.2.2.1 0 (by decide) (by decide)).2.1 k') kk
theorem A_getN (hd : decode M.2.1 pc = .ok (.getfield 328, 3)) (hcn : kcn.getD M.2.2.2.2 "" = RX13) (hp : pc + 3 = pc2) (kk : A X b d M pc2 lv (vI (aI σ 0 6) :: st) σ Q) : A X b d M pc lv (vR (b + 1) :: st) σ Q :=
  A_p (fun T Q' L hvw k' => V_getNI kc12 (pc2 := pc2) 6 hd (by rw [hcn]; exact fn_13_328) (by decide) (fun _ => rfl) hp (L.2.2.1 0 (by decide) (by decide)).2.1 (by rw [show gI T (b + 1) 6 = aI σ 0 6 from vw_ai (k := 0) hvw (by decide) (by decide)]; exact k')) kk
/-- the reference's contract as one over the whole memory -/
theorem C_of_AC {e : Nat} {M' : MI} {as : List AV} {T : Mem} {Q' : Res → Mem → Prop} (L : Lay b T) (h : AC X b e M' as (vw b T) Q) (hq : ∀ r σ' T', Q r σ' → vw b T' = σ' → Fr b T T' → Q' r T') : C X e M' as T Q' := by
  obtain ⟨r, σ', cr, q⟩ := h
  obtain ⟨T', c, h1, h2⟩ := cr T L rfl
  exact ⟨r, T', c, hq r σ' T' q h1 h2⟩
end MODEL

