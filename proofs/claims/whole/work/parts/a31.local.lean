/-! what one voice does leaves the others alone -/
section LOCAL
variable {κ0 κ κ' : Km} {σ0 σ σ' : Rm} {b V al S T sp z LT HT F0 v p n : Nat} {st : Nat → Nat} {fr : Nat → List Frm} {pt : Nat → Nat} {ch : List Nat} {fs : List Frm}
theorem vh (h : n ≠ v) : 1002 + 8 * n ≠ 1002 + 8 * v ∧ 1002 + 8 * n ≠ 1002 + 8 * v + 1 ∧ 1002 + 8 * n + 1 ≠ 1002 + 8 * v ∧ 1002 + 8 * n + 1 ≠ 1002 + 8 * v + 1 := by omega
theorem Vo.h (ko : Vo v κ κ') {h : Nat} (h1 : h ≠ 1002 + 8 * v) (h2 : h ≠ 1002 + 8 * v + 1) : kI κ' h = kI κ h ∧ kL κ' h = kL κ h ∧ kW κ' h = kW κ h := ko.1.1 h (fun z => z.elim h1 h2)
theorem Ro.s (ro : Ro p σ σ') {k : Nat} (hk : k < 60 ∨ 74 < k) : aI σ' k = aI σ k := ro.1 k (by omega)
theorem Cod.vo (h : Cod κ0 σ0 κ σ) (hv1 : 1 ≤ v) (ko : Vo v κ κ') (ro : Ro p σ σ') : Cod κ0 σ0 κ' σ' := by
  have ek : ∀ m k, k = 1 ∨ k = 10 → kI κ' (1002 + 8 * m) k = kI κ (1002 + 8 * m) k := fun m k hk => by
    by_cases c : m = v
    · subst c; exact ko.2.2 k (by omega) (by omega) (by omega) (by omega) (by omega)
    · rw [(ko.h (vh c).1 (vh c).2.1).1]
  refine ⟨fun g hg => ?_, ⟨ko.1.2.2.1.trans h.2.1.1, h.2.1.2.cg (Nat.le_of_eq ko.1.2.2.2.symm) ek (by rw [(ko.h (h := 79) (by omega) (by omega)).1]) (fun k hk => ro.s (by omega))⟩, fun k k1 k2 => ?_⟩
  · unfold hCd at hg
    obtain ⟨e1, e2, e3⟩ := ko.h (h := g) (by omega) (by omega)
    rw [e1, e2, e3]
    exact h.1 g hg
  · rw [ro.s (by omega), ro.2.1]
    exact h.2.2 k k1 k2
theorem Stg.vo (h : Stg κ σ V al S T sp z) (ko : Vo v κ κ') (ro : Ro p σ σ') : Stg κ' σ' V al S T sp z := by
  have e : ∀ k, k < 60 ∨ 74 < k → sI σ' k = sI σ k := fun k hk => congrFun (ro.s hk) 0
  unfold Stg
  rw [(ko.h (h := 79) (by omega) (by omega)).1, e 47 (by decide), e 48 (by decide), e 75 (by decide), e 76 (by decide), e 77 (by decide), e 79 (by decide), ko.1.2.2.2]
  exact h
theorem Vof.vo {s : Nat} (h : Vof κ σ V b n s) (ko : Vo v κ κ') (ro : Ro p σ σ') : Vof κ' σ' V b n s := by
  have e : ∀ k, k = 0 ∨ (1 ≤ k ∧ k ≤ 7) ∨ k = 11 → kI κ' (1002 + 8 * n) k = kI κ (1002 + 8 * n) k := fun k hk => by
    by_cases c : n = v
    · subst c; exact ko.2.2 k (by omega) (by omega) (by omega) (by omega) (by omega)
    · rw [(ko.h (vh c).1 (vh c).2.1).1]
  unfold Vof
  rw [e 0 (by decide), e 1 (by decide), e 2 (by decide), e 3 (by decide), e 4 (by decide), e 5 (by decide), e 6 (by decide), e 7 (by decide), e 11 (by decide), ro.s (k := 19) (by decide), ro.s (k := 49) (by decide), ro.s (k := 50) (by decide), ro.s (k := 51) (by decide), ro.s (k := 52) (by decide), ro.s (k := 53) (by decide), ro.s (k := 54) (by decide), ro.s (k := 55) (by decide), ro.s (k := 57) (by decide)]
  exact h
theorem Lnk.cg (e : aI σ' 54 = aI σ 54) : ∀ l, Lnk σ l → Lnk σ' l := by
  intro l
  induction l with
  | nil => intro _; trivial
  | cons x r ih =>
    intro h
    exact ⟨by rw [e]; exact h.1, ih h.2⟩
theorem Chan.cg (h : Chan σ V T st ch) (e4 : aI σ' 54 = aI σ 54) (e6 : aI σ' 56 = aI σ 56) (e7 : aI σ' 57 = aI σ 57) : Chan σ' V T st ch := by
  obtain ⟨h1, h2, h3, h4, h5, h6, h7⟩ := h
  refine ⟨h1, h2, h3, h4, h5, h6.cg e4 _, ?_⟩
  rw [e4, e6, e7]
  exact h7
theorem Rows.vo (h : Rows κ σ V al sp st fr pt) (hv : 1 ≤ v ∧ v ≤ V) (ko : Vo v κ κ') (ro : Ro p σ σ') (h1 : fr v ≠ []) (h2 : fs ≠ []) : Rows κ' σ' V al sp st (un fr v fs) pt := by
  obtain ⟨r1, r2, r3, r4, r5, r6⟩ := h
  have hne : ∀ n, un fr v fs n ≠ [] ↔ fr n ≠ [] := fun n => by
    by_cases c : n = v
    · subst c; rw [un_eq]; exact ⟨fun _ => h1, fun _ => h2⟩
    · rw [un_ne c]
  have hf : ∀ n, hasF (un fr v fs) n = hasF fr n := fun n => by
    unfold hasF
    by_cases c : n = v
    · subst c
      rw [un_eq, if_neg (fun z => h2 (List.length_eq_zero_iff.mp z)), if_neg (fun z => h1 (List.length_eq_zero_iff.mp z))]
    · rw [un_ne c]
  refine ⟨r1, by rw [cn_cg V (fun n _ _ => hf n)]; exact r2, fun k hk => ?_, fun n n1 n2 => ?_, fun n m a1 a2 a3 a4 a5 a6 a7 => r5 n m a1 a2 a3 a4 a5 ((hne n).mp a6) ((hne m).mp a7), fun q hq => ?_⟩
  · rw [(ko.h (h := 1004 + 8 * k) (by omega) (by omega)).2.2]; exact r3 k hk
  · rw [(ko.h (vh (n := n) (v := v) (by omega)).2.2.1 (vh (n := n) (v := v) (by omega)).2.2.2).2.2]; exact r4 n n1 n2
  · rw [ro.s (by decide)]
    exact (r6 q hq).imp id (fun ⟨e, n, n1, n2, n3, n4⟩ => ⟨e, n, n1, n2, (hne n).mpr n3, n4⟩)
theorem Lns.vo (h : Lns κ σ LT HT) (ko : Vo v κ κ') (ro : Ro p σ σ') : Lns κ' σ' LT HT := by
  obtain ⟨⟨g1, a1, a2⟩, ⟨g2, b1, b2⟩, R, c0, c1, c2, c3, c4⟩ := h
  have e : ∀ h, h < 1000 → kI κ' h = kI κ h ∧ kL κ' h = kL κ h ∧ kW κ' h = kW κ h := fun h hh => ko.h (by omega) (by omega)
  refine ⟨⟨g1, a1.fr (e 80 (by decide)).1 (e 81 (by decide)).1 (e 81 (by decide)).2.2, a2.fr (ro.s (by decide)) (ro.s (by decide)) (ro.s (by decide))⟩, ⟨g2, b1.fr (e 82 (by decide)).1 (e 83 (by decide)).1 (e 83 (by decide)).2.2, b2.fr (ro.s (by decide)) (ro.s (by decide)) (ro.s (by decide))⟩, R, ?_⟩
  rw [(e 79 (by decide)).1, (e 91 (by decide)).1, (e 91 (by decide)).2.2, show sI σ' 87 = sI σ 87 from congrFun (ro.s (by decide)) 0, ro.s (k := 86) (by decide)]
  exact ⟨c0, c1, c2, c3, c4⟩
theorem FRl.vo (h : FRl κ σ F0) (ko : Vo v κ κ') (ro : Ro p σ σ') : FRl κ' σ' F0 :=
  h.fr (by rw [(ko.h (h := 84) (by omega) (by omega)).1]) (ko.h (h := 85) (by omega) (by omega)).1 (ko.h (h := 85) (by omega) (by omega)).2.2 (fun k k1 k2 => ro.s (by omega))
theorem RelM.vo (h : RelM κ0 σ0 κ σ b V al S T sp z LT HT F0 st fr pt ch) (hv : 1 ≤ v ∧ v ≤ V) (ko : Vo v κ κ') (ro : Ro p σ σ') (h1 : fr v ≠ []) (h2 : fs ≠ []) : RelM κ0 σ0 κ' σ' b V al S T sp z LT HT F0 st (un fr v fs) pt ch := by
  obtain ⟨⟨a1, a2, a3⟩, a4, a5, a6, a7, a8, a9⟩ := h
  exact ⟨⟨a1.vo (by omega) ko ro, a2, a3.trans ko.2.1⟩, a4.vo ko ro, fun n n1 n2 => (a5 n n1 n2).vo ko ro, a6.cg (ro.s (by decide)) (ro.s (by decide)) (ro.s (by decide)), a7.vo hv ko ro h1 h2, a8.vo ko ro, a9.vo ko ro⟩
theorem Vfr.vo {s : Nat} {q : Nat} (h : Vfr κ0 σ0 κ σ F0 b n s fs q) (hn : n ≠ v) (hq : fs ≠ [] → q ≠ p) (ko : Vo v κ κ') (ro : Ro p σ σ') : Vfr κ0 σ0 κ' σ' F0 b n s fs q := by
  have e1 := ko.h (vh hn).1 (vh hn).2.1
  have e2 := ko.h (vh hn).2.2.1 (vh hn).2.2.2
  rcases h with ⟨h1, h2, h3, h4, h5⟩ | ⟨h1, h2, h3, h4, m, h5, h6⟩
  · exact Or.inl ⟨h1, h2, by rw [e2.2.2]; exact h3, by rw [ro.s (by decide)]; exact h4, by rw [e1.1]; exact h5⟩
  · have ne : fs ≠ [] := fun z => by rw [z] at h5; exact h5
    refine Or.inr ⟨h1, h2.fr e1.1 e2.1 e2.2.2 (by rw [ko.1.2.2.2]; exact Nat.le_refl _), h3.ro (hq ne) ro, by rw [ro.s (by decide)]; exact h4, m, h5, ?_⟩
    rw [ro.s (k := 56) (by decide)]
    exact h6
theorem RelV.vo (h : RelV κ0 σ0 κ σ b V F0 v st fr pt) (rm : RelM κ0 σ0 κ σ b V al S T sp z LT HT F0 st fr pt ch) (hv : 1 ≤ v ∧ v ≤ V) (hf : fr v ≠ []) (ko : Vo v κ κ') (ro : Ro (pt v) σ σ') : RelV κ0 σ0 κ' σ' b V F0 v st (un fr v fs) pt := fun n n1 n2 hn => by
  rw [un_ne hn]
  exact (h n n1 n2 hn).vo hn (fun z => rm.2.2.2.2.1.2.2.2.2.1 n v n1 n2 hv.1 hv.2 hn z hf) ko ro
theorem Acc.loc (h : Acc V S F0 LT HT st fr) (hv : 1 ≤ v ∧ v ≤ V) (ha : arm fs ≤ arm (fr v)) (hw : fws fs ≤ fws (fr v)) : Acc V S F0 LT HT st (un fr v fs) ∧ pot V S st (un fr v fs) + fws (fr v) = pot V S st fr + fws fs := by
  obtain ⟨h1, h2, h3⟩ := h
  have e1 := cn_up (g := vArm st fr) (g' := vArm st (un fr v fs)) (n := v) (fun k hk => by unfold vArm; rw [un_ne hk]) V hv.1 hv.2
  have e2 := cn_up (g := vWt st fr) (g' := vWt st (un fr v fs)) (n := v) (fun k hk => by unfold vWt; rw [un_ne hk]) V hv.1 hv.2
  have e3 : vArm st fr v = arm (fr v) + if st v = 0 then 1 else 0 := rfl
  have e4 : vArm st (un fr v fs) v = arm fs + if st v = 0 then 1 else 0 := by unfold vArm; rw [un_eq]
  have e5 : vWt st fr v = fws (fr v) + if st v = 0 then 9800 else 0 := rfl
  have e6 : vWt st (un fr v fs) v = fws fs + if st v = 0 then 9800 else 0 := by unfold vWt; rw [un_eq]
  rw [e3, e4] at e1
  rw [e5, e6] at e2
  have e7 : pot V S st (un fr v fs) + fws (fr v) = pot V S st fr + fws fs := by
    unfold pot
    omega
  exact ⟨⟨by omega, by omega, by omega⟩, e7⟩
end LOCAL
