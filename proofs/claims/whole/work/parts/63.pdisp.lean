/-! the reference's dispatch in P -/
section RP
variable {X : Cx} {N b P : Nat} {κ : Km} {σ : Rm}
def RP (X : Cx) (κ : Km) (σ σ' : Rm) (r : Res) : Prop := ∀ (d : Nat) (Q : Res → Rm → Prop), dU (oC κ) ≤ d + 1 → Q r σ' → A X 92 d MX13_readP 0 [(0, vR 92)] [] σ Q
theorem rp_name {d : Nat} {Q : Res → Rm → Prop} (h : Ps κ σ N b P) (hc : kI κ 72 7 = 2 ∨ kI κ 72 7 = 5) (hA : ∃ e15 : Nat, e15 + 1 ≤ d ∧ AC X 92 e15 MX13_mustName [vR 92] σ (aTI Q fun y18 s19 => ∃ e20 : Nat, e20 + 1 ≤ d ∧ AC X 92 e20 MX13_isSign [vR 92, vI 40] s19 (aRI fun y23 s24 => ((y23 = 0 → ∃ e26 : Nat, e26 + 1 ≤ d ∧ AC X 92 e26 MX13_emit [vR 92, vI 2, vI 0, vI 0] s24 (aRI fun y29 s30 => (vp_in (sI s30 44) 1600) ∧ ∀ s32 : Rm, s32 = wI s30 42 (((sI s30 44) : Int32).toNatClampNeg) y29 → (vp_in (sI s32 44) 1600) ∧ ∀ s34 : Rm, s34 = wI s32 43 (((sI s32 44) : Int32).toNatClampNeg) y18 → ∀ s35 : Rm, s35 = wS s34 44 ((sI s34 44) + 1) → A X 92 d MX13_readP 181 [(0, vR 92), (1, vI y29), (2, vI y18)] [] s35 Q)) ∧ (¬ y23 = 0 → ∃ e36 : Nat, e36 + 1 ≤ d ∧ AC X 92 e36 MX13_opens [vR 92] s24 (aTV Q fun s39 => A X 92 d MX13_readP 60 [(0, vR 92), (2, vI y18), (3, vI 0)] [] s39 Q)))))) : A X 92 d MX13_readP 0 [(0, vR 92)] [] σ Q := by
  obtain ⟨f, t, t1, t2, t3, t4, t5, t6, t7, t8⟩ := h.tok
  have hp := h.p3
  refine a_readP_0 ?_
  rw [h.2.2.2.2.1, vpn (by omega), cl_nI (by omega)]
  have s1 : aI σ 5 (pC κ) = 1 := by
    rcases t7.name with ⟨c, c1, -⟩ | ⟨c, c1, -⟩ | ⟨c, c1, -⟩
    · exact c1
    · exact c1
    · rcases hc with z | z
      · exact absurd z c
      · exact absurd z c1
  rw [s1]
  exact ⟨by omega, fun z => absurd z (by decide), fun _ => ⟨by omega, fun _ => hA, fun z => absurd rfl z⟩⟩
theorem rp_number {d : Nat} {Q : Res → Rm → Prop} (h : Ps κ σ N b P) (hc : kI κ 72 7 = 3 ∨ kI κ 72 7 = 6) (hA : ∃ e3 : Nat, e3 + 1 ≤ d ∧ AC X 92 e3 MX13_mustNumber [vR 92] σ (aTI Q fun y6 s7 => ∃ e8 : Nat, e8 + 1 ≤ d ∧ AC X 92 e8 MX13_emit [vR 92, vI 1, vI y6, vI 0] s7 (aRI fun _ s12 => A X 92 d MX13_readP 547 [(0, vR 92)] [] s12 Q))) : A X 92 d MX13_readP 0 [(0, vR 92)] [] σ Q := by
  obtain ⟨f, t, t1, t2, t3, t4, t5, t6, t7, t8⟩ := h.tok
  have hp := h.p3
  refine a_readP_0 ?_
  rw [h.2.2.2.2.1, vpn (by omega), cl_nI (by omega)]
  have s2 : aI σ 5 (pC κ) = 2 := by
    rcases t7.number with ⟨x, hx, c, c1, -⟩ | ⟨c, c1, -⟩ | ⟨c, c1, -⟩
    · exact c1
    · exact c1
    · rcases hc with z | z
      · exact absurd z c
      · exact absurd z c1
  rw [s2]
  exact ⟨by omega, fun _ => hA, fun z => absurd rfl z⟩

theorem rp_paren {d : Nat} {Q : Res → Rm → Prop} (h : Ps κ σ N b P) (hd : dU (oC κ) ≤ d + 1) (hc : kI κ 72 7 = 40) (hA : ∃ e147 : Nat, e147 + 1 ≤ d ∧ AC X 92 e147 MX13_opens [vR 92] σ (aTV Q fun s150 => ∃ e151 : Nat, e151 + 1 ≤ d ∧ AC X 92 e151 MX13_readE [vR 92] s150 (aTV Q fun s154 => ∃ e155 : Nat, e155 + 1 ≤ d ∧ AC X 92 e155 MX13_closes [vR 92, vI 41] s154 (aTV Q fun s158 => A X 92 d MX13_readP 547 [(0, vR 92)] [] s158 Q)))) : A X 92 d MX13_readP 0 [(0, vR 92)] [] σ Q := by
  obtain ⟨f, t, t1, t2, t3, t4, t5, t6, t7, t8⟩ := h.tok
  have hp := h.p3
  have ns2 : ¬ aI σ 5 (pC κ) = 2 := by
    rcases t7.number with ⟨x, hx, c, -⟩ | ⟨c, -⟩ | ⟨-, -, c⟩
    · exact absurd (hc.symm.trans c) (by decide)
    · exact absurd (hc.symm.trans c) (by decide)
    · exact c
  have ns1 : ¬ aI σ 5 (pC κ) = 1 := by
    rcases t7.name with ⟨c, -⟩ | ⟨c, -⟩ | ⟨-, -, c⟩
    · exact absurd (hc.symm.trans c) (by decide)
    · exact absurd (hc.symm.trans c) (by decide)
    · exact c
  have n3 : kI κ 72 7 ≠ 219 := by rw [hc]; decide
  have n4 : kI κ 72 7 ≠ 220 := by rw [hc]; decide
  have n5 : kI κ 72 7 ≠ 211 := by rw [hc]; decide
  have n6 : kI κ 72 7 ≠ 212 := by rw [hc]; decide
  have n7 : kI κ 72 7 ≠ 213 := by rw [hc]; decide
  have n8 : kI κ 72 7 ≠ 216 := by rw [hc]; decide
  have n9 : kI κ 72 7 ≠ 214 := by rw [hc]; decide
  refine a_readP_0 ?_
  rw [h.2.2.2.2.1, vpn (by omega), cl_nI (by omega)]
  exact ⟨by omega, fun z => absurd z ns2, fun _ => ⟨by omega, fun z => absurd z ns1, fun _ => ⟨0, by simp only [dU] at hd; omega, ac_isSign h (by decide) (fun _ => ⟨fun z => absurd z (by decide), fun _ => hA⟩) (fun z => absurd hc z)⟩⟩⟩

theorem rp_me {d : Nat} {Q : Res → Rm → Prop} (h : Ps κ σ N b P) (hd : dU (oC κ) ≤ d + 1) (hc : kI κ 72 7 = 219) (hA : ∀ s141 : Rm, s141 = wS σ 10 ((sI σ 10) + 1) → ∃ e142 : Nat, e142 + 1 ≤ d ∧ AC X 92 e142 MX13_emit [vR 92, vI 13, vI 0, vI 0] s141 (aRI fun _ s146 => A X 92 d MX13_readP 547 [(0, vR 92)] [] s146 Q)) : A X 92 d MX13_readP 0 [(0, vR 92)] [] σ Q := by
  obtain ⟨f, t, t1, t2, t3, t4, t5, t6, t7, t8⟩ := h.tok
  have hp := h.p3
  have ns2 : ¬ aI σ 5 (pC κ) = 2 := by
    rcases t7.number with ⟨x, hx, c, -⟩ | ⟨c, -⟩ | ⟨-, -, c⟩
    · exact absurd (hc.symm.trans c) (by decide)
    · exact absurd (hc.symm.trans c) (by decide)
    · exact c
  have ns1 : ¬ aI σ 5 (pC κ) = 1 := by
    rcases t7.name with ⟨c, -⟩ | ⟨c, -⟩ | ⟨-, -, c⟩
    · exact absurd (hc.symm.trans c) (by decide)
    · exact absurd (hc.symm.trans c) (by decide)
    · exact c
  have n2 : kI κ 72 7 ≠ 40 := by rw [hc]; decide
  have n4 : kI κ 72 7 ≠ 220 := by rw [hc]; decide
  have n5 : kI κ 72 7 ≠ 211 := by rw [hc]; decide
  have n6 : kI κ 72 7 ≠ 212 := by rw [hc]; decide
  have n7 : kI κ 72 7 ≠ 213 := by rw [hc]; decide
  have n8 : kI κ 72 7 ≠ 216 := by rw [hc]; decide
  have n9 : kI κ 72 7 ≠ 214 := by rw [hc]; decide
  refine a_readP_0 ?_
  rw [h.2.2.2.2.1, vpn (by omega), cl_nI (by omega)]
  exact ⟨by omega, fun z => absurd z ns2, fun _ => ⟨by omega, fun z => absurd z ns1, fun _ => ⟨0, by simp only [dU] at hd; omega, ac_isSign h (by decide) (fun z => absurd z (n2)) (fun _ => ⟨fun _ => ⟨5, by simp only [dU] at hd; omega, ac_isWord (w := 19) h (by decide) (fun _ => ⟨fun z => absurd z (by decide), fun _ => hA⟩) (fun z => absurd hc z)⟩, fun z => absurd rfl z⟩)⟩⟩⟩

theorem rp_state {d : Nat} {Q : Res → Rm → Prop} (h : Ps κ σ N b P) (hd : dU (oC κ) ≤ d + 1) (hc : kI κ 72 7 = 220) (hA : A X 92 d MX13_readP 259 [(0, vR 92)] [] σ Q) : A X 92 d MX13_readP 0 [(0, vR 92)] [] σ Q := by
  obtain ⟨f, t, t1, t2, t3, t4, t5, t6, t7, t8⟩ := h.tok
  have hp := h.p3
  have ns2 : ¬ aI σ 5 (pC κ) = 2 := by
    rcases t7.number with ⟨x, hx, c, -⟩ | ⟨c, -⟩ | ⟨-, -, c⟩
    · exact absurd (hc.symm.trans c) (by decide)
    · exact absurd (hc.symm.trans c) (by decide)
    · exact c
  have ns1 : ¬ aI σ 5 (pC κ) = 1 := by
    rcases t7.name with ⟨c, -⟩ | ⟨c, -⟩ | ⟨-, -, c⟩
    · exact absurd (hc.symm.trans c) (by decide)
    · exact absurd (hc.symm.trans c) (by decide)
    · exact c
  have n2 : kI κ 72 7 ≠ 40 := by rw [hc]; decide
  have n3 : kI κ 72 7 ≠ 219 := by rw [hc]; decide
  have n5 : kI κ 72 7 ≠ 211 := by rw [hc]; decide
  have n6 : kI κ 72 7 ≠ 212 := by rw [hc]; decide
  have n7 : kI κ 72 7 ≠ 213 := by rw [hc]; decide
  have n8 : kI κ 72 7 ≠ 216 := by rw [hc]; decide
  have n9 : kI κ 72 7 ≠ 214 := by rw [hc]; decide
  refine a_readP_0 ?_
  rw [h.2.2.2.2.1, vpn (by omega), cl_nI (by omega)]
  exact ⟨by omega, fun z => absurd z ns2, fun _ => ⟨by omega, fun z => absurd z ns1, fun _ => ⟨0, by simp only [dU] at hd; omega, ac_isSign h (by decide) (fun z => absurd z (n2)) (fun _ => ⟨fun _ => ⟨5, by simp only [dU] at hd; omega, ac_isWord (w := 19) h (by decide) (fun z => absurd z (n3)) (fun _ => ⟨fun _ => ⟨5, by simp only [dU] at hd; omega, ac_isWord (w := 20) h (by decide) (fun _ => ⟨fun z => absurd z (by decide), fun _ => hA⟩) (fun z => absurd hc z)⟩, fun z => absurd rfl z⟩)⟩, fun z => absurd rfl z⟩)⟩⟩⟩

theorem rp_yield {d : Nat} {Q : Res → Rm → Prop} (h : Ps κ σ N b P) (hd : dU (oC κ) ≤ d + 1) (hc : kI κ 72 7 = 211) (hA : A X 92 d MX13_readP 259 [(0, vR 92)] [] σ Q) : A X 92 d MX13_readP 0 [(0, vR 92)] [] σ Q := by
  obtain ⟨f, t, t1, t2, t3, t4, t5, t6, t7, t8⟩ := h.tok
  have hp := h.p3
  have ns2 : ¬ aI σ 5 (pC κ) = 2 := by
    rcases t7.number with ⟨x, hx, c, -⟩ | ⟨c, -⟩ | ⟨-, -, c⟩
    · exact absurd (hc.symm.trans c) (by decide)
    · exact absurd (hc.symm.trans c) (by decide)
    · exact c
  have ns1 : ¬ aI σ 5 (pC κ) = 1 := by
    rcases t7.name with ⟨c, -⟩ | ⟨c, -⟩ | ⟨-, -, c⟩
    · exact absurd (hc.symm.trans c) (by decide)
    · exact absurd (hc.symm.trans c) (by decide)
    · exact c
  have n2 : kI κ 72 7 ≠ 40 := by rw [hc]; decide
  have n3 : kI κ 72 7 ≠ 219 := by rw [hc]; decide
  have n4 : kI κ 72 7 ≠ 220 := by rw [hc]; decide
  have n6 : kI κ 72 7 ≠ 212 := by rw [hc]; decide
  have n7 : kI κ 72 7 ≠ 213 := by rw [hc]; decide
  have n8 : kI κ 72 7 ≠ 216 := by rw [hc]; decide
  have n9 : kI κ 72 7 ≠ 214 := by rw [hc]; decide
  refine a_readP_0 ?_
  rw [h.2.2.2.2.1, vpn (by omega), cl_nI (by omega)]
  exact ⟨by omega, fun z => absurd z ns2, fun _ => ⟨by omega, fun z => absurd z ns1, fun _ => ⟨0, by simp only [dU] at hd; omega, ac_isSign h (by decide) (fun z => absurd z (n2)) (fun _ => ⟨fun _ => ⟨5, by simp only [dU] at hd; omega, ac_isWord (w := 19) h (by decide) (fun z => absurd z (n3)) (fun _ => ⟨fun _ => ⟨5, by simp only [dU] at hd; omega, ac_isWord (w := 20) h (by decide) (fun z => absurd z (n4)) (fun _ => ⟨fun _ => ⟨5, by simp only [dU] at hd; omega, ac_isWord (w := 11) h (by decide) (fun _ => ⟨fun z => absurd z (by decide), fun _ => hA⟩) (fun z => absurd hc z)⟩, fun z => absurd rfl z⟩)⟩, fun z => absurd rfl z⟩)⟩, fun z => absurd rfl z⟩)⟩⟩⟩

theorem rp_new {d : Nat} {Q : Res → Rm → Prop} (h : Ps κ σ N b P) (hd : dU (oC κ) ≤ d + 1) (hc : kI κ 72 7 = 212) (hA : ∀ s124 : Rm, s124 = wS σ 10 ((sI σ 10) + 1) → ∃ e125 : Nat, e125 + 1 ≤ d ∧ AC X 92 e125 MX13_mustName [vR 92] s124 (aTI Q fun y128 s129 => ∃ e130 : Nat, e130 + 1 ≤ d ∧ AC X 92 e130 MX13_isSign [vR 92, vI 40] s129 (aRI fun y133 s134 => ((y133 = 0 → (vp_in (sI s134 10) 3002) ∧ ∃ e137 : Nat, e137 + 1 ≤ d ∧ AC X 92 e137 MX13_fail [vR 92, vI (aI s134 6 ((sI s134 10) : Int32).toNatClampNeg)] s134 (aTV Q fun s140 => A X 92 d MX13_readP 351 [(0, vR 92), (2, vI y128)] [] s140 Q)) ∧ (¬ y133 = 0 → A X 92 d MX13_readP 351 [(0, vR 92), (2, vI y128)] [] s134 Q))))) : A X 92 d MX13_readP 0 [(0, vR 92)] [] σ Q := by
  obtain ⟨f, t, t1, t2, t3, t4, t5, t6, t7, t8⟩ := h.tok
  have hp := h.p3
  have ns2 : ¬ aI σ 5 (pC κ) = 2 := by
    rcases t7.number with ⟨x, hx, c, -⟩ | ⟨c, -⟩ | ⟨-, -, c⟩
    · exact absurd (hc.symm.trans c) (by decide)
    · exact absurd (hc.symm.trans c) (by decide)
    · exact c
  have ns1 : ¬ aI σ 5 (pC κ) = 1 := by
    rcases t7.name with ⟨c, -⟩ | ⟨c, -⟩ | ⟨-, -, c⟩
    · exact absurd (hc.symm.trans c) (by decide)
    · exact absurd (hc.symm.trans c) (by decide)
    · exact c
  have n2 : kI κ 72 7 ≠ 40 := by rw [hc]; decide
  have n3 : kI κ 72 7 ≠ 219 := by rw [hc]; decide
  have n4 : kI κ 72 7 ≠ 220 := by rw [hc]; decide
  have n5 : kI κ 72 7 ≠ 211 := by rw [hc]; decide
  have n7 : kI κ 72 7 ≠ 213 := by rw [hc]; decide
  have n8 : kI κ 72 7 ≠ 216 := by rw [hc]; decide
  have n9 : kI κ 72 7 ≠ 214 := by rw [hc]; decide
  refine a_readP_0 ?_
  rw [h.2.2.2.2.1, vpn (by omega), cl_nI (by omega)]
  exact ⟨by omega, fun z => absurd z ns2, fun _ => ⟨by omega, fun z => absurd z ns1, fun _ => ⟨0, by simp only [dU] at hd; omega, ac_isSign h (by decide) (fun z => absurd z (n2)) (fun _ => ⟨fun _ => ⟨5, by simp only [dU] at hd; omega, ac_isWord (w := 19) h (by decide) (fun z => absurd z (n3)) (fun _ => ⟨fun _ => ⟨5, by simp only [dU] at hd; omega, ac_isWord (w := 20) h (by decide) (fun z => absurd z (n4)) (fun _ => ⟨fun _ => ⟨5, by simp only [dU] at hd; omega, ac_isWord (w := 11) h (by decide) (fun z => absurd z (n5)) (fun _ => ⟨fun _ => ⟨5, by simp only [dU] at hd; omega, ac_isWord (w := 12) h (by decide) (fun _ => ⟨fun z => absurd z (by decide), fun _ => hA⟩) (fun z => absurd hc z)⟩, fun z => absurd rfl z⟩)⟩, fun z => absurd rfl z⟩)⟩, fun z => absurd rfl z⟩)⟩, fun z => absurd rfl z⟩)⟩⟩⟩

theorem rp_resume {d : Nat} {Q : Res → Rm → Prop} (h : Ps κ σ N b P) (hd : dU (oC κ) ≤ d + 1) (hc : kI κ 72 7 = 213) (hA : A X 92 d MX13_readP 415 [(0, vR 92)] [] σ Q) : A X 92 d MX13_readP 0 [(0, vR 92)] [] σ Q := by
  obtain ⟨f, t, t1, t2, t3, t4, t5, t6, t7, t8⟩ := h.tok
  have hp := h.p3
  have ns2 : ¬ aI σ 5 (pC κ) = 2 := by
    rcases t7.number with ⟨x, hx, c, -⟩ | ⟨c, -⟩ | ⟨-, -, c⟩
    · exact absurd (hc.symm.trans c) (by decide)
    · exact absurd (hc.symm.trans c) (by decide)
    · exact c
  have ns1 : ¬ aI σ 5 (pC κ) = 1 := by
    rcases t7.name with ⟨c, -⟩ | ⟨c, -⟩ | ⟨-, -, c⟩
    · exact absurd (hc.symm.trans c) (by decide)
    · exact absurd (hc.symm.trans c) (by decide)
    · exact c
  have n2 : kI κ 72 7 ≠ 40 := by rw [hc]; decide
  have n3 : kI κ 72 7 ≠ 219 := by rw [hc]; decide
  have n4 : kI κ 72 7 ≠ 220 := by rw [hc]; decide
  have n5 : kI κ 72 7 ≠ 211 := by rw [hc]; decide
  have n6 : kI κ 72 7 ≠ 212 := by rw [hc]; decide
  have n8 : kI κ 72 7 ≠ 216 := by rw [hc]; decide
  have n9 : kI κ 72 7 ≠ 214 := by rw [hc]; decide
  refine a_readP_0 ?_
  rw [h.2.2.2.2.1, vpn (by omega), cl_nI (by omega)]
  exact ⟨by omega, fun z => absurd z ns2, fun _ => ⟨by omega, fun z => absurd z ns1, fun _ => ⟨0, by simp only [dU] at hd; omega, ac_isSign h (by decide) (fun z => absurd z (n2)) (fun _ => ⟨fun _ => ⟨5, by simp only [dU] at hd; omega, ac_isWord (w := 19) h (by decide) (fun z => absurd z (n3)) (fun _ => ⟨fun _ => ⟨5, by simp only [dU] at hd; omega, ac_isWord (w := 20) h (by decide) (fun z => absurd z (n4)) (fun _ => ⟨fun _ => ⟨5, by simp only [dU] at hd; omega, ac_isWord (w := 11) h (by decide) (fun z => absurd z (n5)) (fun _ => ⟨fun _ => ⟨5, by simp only [dU] at hd; omega, ac_isWord (w := 12) h (by decide) (fun z => absurd z (n6)) (fun _ => ⟨fun _ => ⟨5, by simp only [dU] at hd; omega, ac_isWord (w := 13) h (by decide) (fun _ => ⟨fun z => absurd z (by decide), fun _ => hA⟩) (fun z => absurd hc z)⟩, fun z => absurd rfl z⟩)⟩, fun z => absurd rfl z⟩)⟩, fun z => absurd rfl z⟩)⟩, fun z => absurd rfl z⟩)⟩, fun z => absurd rfl z⟩)⟩⟩⟩

theorem rp_hand {d : Nat} {Q : Res → Rm → Prop} (h : Ps κ σ N b P) (hd : dU (oC κ) ≤ d + 1) (hc : kI κ 72 7 = 216) (hA : A X 92 d MX13_readP 415 [(0, vR 92)] [] σ Q) : A X 92 d MX13_readP 0 [(0, vR 92)] [] σ Q := by
  obtain ⟨f, t, t1, t2, t3, t4, t5, t6, t7, t8⟩ := h.tok
  have hp := h.p3
  have ns2 : ¬ aI σ 5 (pC κ) = 2 := by
    rcases t7.number with ⟨x, hx, c, -⟩ | ⟨c, -⟩ | ⟨-, -, c⟩
    · exact absurd (hc.symm.trans c) (by decide)
    · exact absurd (hc.symm.trans c) (by decide)
    · exact c
  have ns1 : ¬ aI σ 5 (pC κ) = 1 := by
    rcases t7.name with ⟨c, -⟩ | ⟨c, -⟩ | ⟨-, -, c⟩
    · exact absurd (hc.symm.trans c) (by decide)
    · exact absurd (hc.symm.trans c) (by decide)
    · exact c
  have n2 : kI κ 72 7 ≠ 40 := by rw [hc]; decide
  have n3 : kI κ 72 7 ≠ 219 := by rw [hc]; decide
  have n4 : kI κ 72 7 ≠ 220 := by rw [hc]; decide
  have n5 : kI κ 72 7 ≠ 211 := by rw [hc]; decide
  have n6 : kI κ 72 7 ≠ 212 := by rw [hc]; decide
  have n7 : kI κ 72 7 ≠ 213 := by rw [hc]; decide
  have n9 : kI κ 72 7 ≠ 214 := by rw [hc]; decide
  refine a_readP_0 ?_
  rw [h.2.2.2.2.1, vpn (by omega), cl_nI (by omega)]
  exact ⟨by omega, fun z => absurd z ns2, fun _ => ⟨by omega, fun z => absurd z ns1, fun _ => ⟨0, by simp only [dU] at hd; omega, ac_isSign h (by decide) (fun z => absurd z (n2)) (fun _ => ⟨fun _ => ⟨5, by simp only [dU] at hd; omega, ac_isWord (w := 19) h (by decide) (fun z => absurd z (n3)) (fun _ => ⟨fun _ => ⟨5, by simp only [dU] at hd; omega, ac_isWord (w := 20) h (by decide) (fun z => absurd z (n4)) (fun _ => ⟨fun _ => ⟨5, by simp only [dU] at hd; omega, ac_isWord (w := 11) h (by decide) (fun z => absurd z (n5)) (fun _ => ⟨fun _ => ⟨5, by simp only [dU] at hd; omega, ac_isWord (w := 12) h (by decide) (fun z => absurd z (n6)) (fun _ => ⟨fun _ => ⟨5, by simp only [dU] at hd; omega, ac_isWord (w := 13) h (by decide) (fun z => absurd z (n7)) (fun _ => ⟨fun _ => ⟨5, by simp only [dU] at hd; omega, ac_isWord (w := 16) h (by decide) (fun _ => ⟨fun z => absurd z (by decide), fun _ => hA⟩) (fun z => absurd hc z)⟩, fun z => absurd rfl z⟩)⟩, fun z => absurd rfl z⟩)⟩, fun z => absurd rfl z⟩)⟩, fun z => absurd rfl z⟩)⟩, fun z => absurd rfl z⟩)⟩, fun z => absurd rfl z⟩)⟩⟩⟩

theorem rp_inject {d : Nat} {Q : Res → Rm → Prop} (h : Ps κ σ N b P) (hd : dU (oC κ) ≤ d + 1) (hc : kI κ 72 7 = 214) (hA : ∃ e93 : Nat, e93 + 1 ≤ d ∧ AC X 92 e93 MX13_opens [vR 92] σ (aTV Q fun s96 => ∃ e97 : Nat, e97 + 1 ≤ d ∧ AC X 92 e97 MX13_mustNumber [vR 92] s96 (aTI Q fun y100 s101 => ∃ e102 : Nat, e102 + 1 ≤ d ∧ AC X 92 e102 MX13_mustWord [vR 92, vR 22] s101 (aTV Q fun s105 => ∃ e106 : Nat, e106 + 1 ≤ d ∧ AC X 92 e106 MX13_readU [vR 92] s105 (aTV Q fun s109 => ∃ e110 : Nat, e110 + 1 ≤ d ∧ AC X 92 e110 MX13_mustWord [vR 92, vR 21] s109 (aTV Q fun s113 => ∃ e114 : Nat, e114 + 1 ≤ d ∧ AC X 92 e114 MX13_readU [vR 92] s113 (aTV Q fun s117 => ∀ s118 : Rm, s118 = wS s117 12 ((sI s117 12) - 1) → ∃ e119 : Nat, e119 + 1 ≤ d ∧ AC X 92 e119 MX13_emit [vR 92, vI 18, vI (y100 - y100 / 10 * 10), vI 0] s118 (aRI fun _ s123 => A X 92 d MX13_readP 547 [(0, vR 92)] [] s123 Q)))))))) : A X 92 d MX13_readP 0 [(0, vR 92)] [] σ Q := by
  obtain ⟨f, t, t1, t2, t3, t4, t5, t6, t7, t8⟩ := h.tok
  have hp := h.p3
  have ns2 : ¬ aI σ 5 (pC κ) = 2 := by
    rcases t7.number with ⟨x, hx, c, -⟩ | ⟨c, -⟩ | ⟨-, -, c⟩
    · exact absurd (hc.symm.trans c) (by decide)
    · exact absurd (hc.symm.trans c) (by decide)
    · exact c
  have ns1 : ¬ aI σ 5 (pC κ) = 1 := by
    rcases t7.name with ⟨c, -⟩ | ⟨c, -⟩ | ⟨-, -, c⟩
    · exact absurd (hc.symm.trans c) (by decide)
    · exact absurd (hc.symm.trans c) (by decide)
    · exact c
  have n2 : kI κ 72 7 ≠ 40 := by rw [hc]; decide
  have n3 : kI κ 72 7 ≠ 219 := by rw [hc]; decide
  have n4 : kI κ 72 7 ≠ 220 := by rw [hc]; decide
  have n5 : kI κ 72 7 ≠ 211 := by rw [hc]; decide
  have n6 : kI κ 72 7 ≠ 212 := by rw [hc]; decide
  have n7 : kI κ 72 7 ≠ 213 := by rw [hc]; decide
  have n8 : kI κ 72 7 ≠ 216 := by rw [hc]; decide
  refine a_readP_0 ?_
  rw [h.2.2.2.2.1, vpn (by omega), cl_nI (by omega)]
  exact ⟨by omega, fun z => absurd z ns2, fun _ => ⟨by omega, fun z => absurd z ns1, fun _ => ⟨0, by simp only [dU] at hd; omega, ac_isSign h (by decide) (fun z => absurd z (n2)) (fun _ => ⟨fun _ => ⟨5, by simp only [dU] at hd; omega, ac_isWord (w := 19) h (by decide) (fun z => absurd z (n3)) (fun _ => ⟨fun _ => ⟨5, by simp only [dU] at hd; omega, ac_isWord (w := 20) h (by decide) (fun z => absurd z (n4)) (fun _ => ⟨fun _ => ⟨5, by simp only [dU] at hd; omega, ac_isWord (w := 11) h (by decide) (fun z => absurd z (n5)) (fun _ => ⟨fun _ => ⟨5, by simp only [dU] at hd; omega, ac_isWord (w := 12) h (by decide) (fun z => absurd z (n6)) (fun _ => ⟨fun _ => ⟨5, by simp only [dU] at hd; omega, ac_isWord (w := 13) h (by decide) (fun z => absurd z (n7)) (fun _ => ⟨fun _ => ⟨5, by simp only [dU] at hd; omega, ac_isWord (w := 16) h (by decide) (fun z => absurd z (n8)) (fun _ => ⟨fun _ => ⟨5, by simp only [dU] at hd; omega, ac_isWord (w := 14) h (by decide) (fun _ => ⟨fun z => absurd z (by decide), fun _ => hA⟩) (fun z => absurd hc z)⟩, fun z => absurd rfl z⟩)⟩, fun z => absurd rfl z⟩)⟩, fun z => absurd rfl z⟩)⟩, fun z => absurd rfl z⟩)⟩, fun z => absurd rfl z⟩)⟩, fun z => absurd rfl z⟩)⟩, fun z => absurd rfl z⟩)⟩⟩⟩

theorem rp_else {d : Nat} {Q : Res → Rm → Prop} (h : Ps κ σ N b P) (hd : dU (oC κ) ≤ d + 1) (m2 : kI κ 72 7 ≠ 2) (m5 : kI κ 72 7 ≠ 5) (m3 : kI κ 72 7 ≠ 3) (m6 : kI κ 72 7 ≠ 6) (n2 : kI κ 72 7 ≠ 40) (n3 : kI κ 72 7 ≠ 219) (n4 : kI κ 72 7 ≠ 220) (n5 : kI κ 72 7 ≠ 211) (n6 : kI κ 72 7 ≠ 212) (n7 : kI κ 72 7 ≠ 213) (n8 : kI κ 72 7 ≠ 216) (n9 : kI κ 72 7 ≠ 214) (hq : Q (.inr 93) (wI σ 0 6 (kI κ 72 8))) : A X 92 d MX13_readP 0 [(0, vR 92)] [] σ Q := by
  obtain ⟨f, t, t1, t2, t3, t4, t5, t6, t7, t8⟩ := h.tok
  have hp := h.p3
  have ns2 : ¬ aI σ 5 (pC κ) = 2 := by
    rcases t7.number with ⟨x, hx, c, -⟩ | ⟨c, -⟩ | ⟨-, -, c⟩
    · exact absurd c m3
    · exact absurd c m6
    · exact c
  have ns1 : ¬ aI σ 5 (pC κ) = 1 := by
    rcases t7.name with ⟨c, -⟩ | ⟨c, -⟩ | ⟨-, -, c⟩
    · exact absurd c m2
    · exact absurd c m5
    · exact c
  have hA : (vp_in (sI σ 10) 3002) ∧ ∃ e89 : Nat, e89 + 1 ≤ d ∧ AC X 92 e89 MX13_fail [vR 92, vI (aI σ 6 ((sI σ 10) : Int32).toNatClampNeg)] σ (aTV Q fun s92 => A X 92 d MX13_readP 547 [(0, vR 92)] [] s92 Q) := by
    rw [h.2.2.2.2.1, vpn (by omega), cl_nI (by omega), t2, ← t1]
    exact ⟨by omega, 0, by simp only [dU] at hd; omega, ac_failT hq⟩
  refine a_readP_0 ?_
  rw [h.2.2.2.2.1, vpn (by omega), cl_nI (by omega)]
  exact ⟨by omega, fun z => absurd z ns2, fun _ => ⟨by omega, fun z => absurd z ns1, fun _ => ⟨0, by simp only [dU] at hd; omega, ac_isSign h (by decide) (fun z => absurd z (n2)) (fun _ => ⟨fun _ => ⟨5, by simp only [dU] at hd; omega, ac_isWord (w := 19) h (by decide) (fun z => absurd z (n3)) (fun _ => ⟨fun _ => ⟨5, by simp only [dU] at hd; omega, ac_isWord (w := 20) h (by decide) (fun z => absurd z (n4)) (fun _ => ⟨fun _ => ⟨5, by simp only [dU] at hd; omega, ac_isWord (w := 11) h (by decide) (fun z => absurd z (n5)) (fun _ => ⟨fun _ => ⟨5, by simp only [dU] at hd; omega, ac_isWord (w := 12) h (by decide) (fun z => absurd z (n6)) (fun _ => ⟨fun _ => ⟨5, by simp only [dU] at hd; omega, ac_isWord (w := 13) h (by decide) (fun z => absurd z (n7)) (fun _ => ⟨fun _ => ⟨5, by simp only [dU] at hd; omega, ac_isWord (w := 16) h (by decide) (fun z => absurd z (n8)) (fun _ => ⟨fun _ => ⟨5, by simp only [dU] at hd; omega, ac_isWord (w := 14) h (by decide) (fun z => absurd z (n9)) (fun _ => ⟨fun _ => hA, fun z => absurd rfl z⟩)⟩, fun z => absurd rfl z⟩)⟩, fun z => absurd rfl z⟩)⟩, fun z => absurd rfl z⟩)⟩, fun z => absurd rfl z⟩)⟩, fun z => absurd rfl z⟩)⟩, fun z => absurd rfl z⟩)⟩, fun z => absurd rfl z⟩)⟩⟩⟩
end RP
