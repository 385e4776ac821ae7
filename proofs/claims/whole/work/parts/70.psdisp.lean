/-! the reference's dispatch of statements -/
section RS
variable {X : Cx} {N b P : Nat} {κ κ1 : Km} {σ : Rm}
abbrev sg (κ : Km) (σ : Rm) : Rm := em σ 0 (kI κ 72 8) 0

theorem rs_tell {d : Nat} {Q : Res → Rm → Prop} (h : Ps κ σ N b P) (hj : rJ σ < 12000) (h1 : Ps κ1 (sg κ σ) N b P) (hd : 10 ≤ d) (hc : kI κ1 72 7 = 210) (hA : ∀ s207 : Rm, s207 = wS (sg κ σ) 10 ((sI (sg κ σ) 10) + 1) → ∃ e208 : Nat, e208 + 1 ≤ d ∧ AC X 92 e208 MX13_readE [vR 92] s207 (aTV Q fun s211 => ∃ e212 : Nat, e212 + 1 ≤ d ∧ AC X 92 e212 MX13_mustSign [vR 92, vI 59] s211 (aTV Q fun s215 => ∃ e216 : Nat, e216 + 1 ≤ d ∧ AC X 92 e216 MX13_emit [vR 92, vI 21, vI 0, vI 0] s215 (aRI fun y219 s220 => A X 92 d MX13_readStatement 526 [(0, vR 92), (1, vI (kI κ 72 8)), (2, vI y219)] [] s220 Q)))) : A X 92 d MX13_readStatement 0 [(0, vR 92)] [] σ Q := by
  have n2 : kI κ1 72 7 ≠ 202 := by rw [hc]; decide
  have n4 : kI κ1 72 7 ≠ 204 := by rw [hc]; decide
  have n8 : kI κ1 72 7 ≠ 208 := by rw [hc]; decide
  have n9 : kI κ1 72 7 ≠ 209 := by rw [hc]; decide
  have n15 : kI κ1 72 7 ≠ 215 := by rw [hc]; decide
  have n21 : kI κ1 72 7 ≠ 221 := by rw [hc]; decide
  have n5 : kI κ1 72 7 ≠ 205 := by rw [hc]; decide
  obtain ⟨f, t, t1, t2, t3, t4, t5, t6, t7, t8⟩ := h.tok
  have hp := h.p3
  refine a_readStatement_0 ?_
  rw [h.2.2.2.2.1, vpn (by omega), cl_nI (by omega), t2, ← t1]
  refine ⟨by omega, 0, by omega, ac_emit h.2.2.2.2.2.2.2.2.2.2.2.1 hj ?_⟩
  exact ⟨5, by omega, ac_isWord (w := 10) h1 (by decide) (fun _ => ⟨fun z => absurd z (by decide), fun _ => hA⟩) (fun z => absurd hc z)⟩

theorem rs_if {d : Nat} {Q : Res → Rm → Prop} (h : Ps κ σ N b P) (hj : rJ σ < 12000) (h1 : Ps κ1 (sg κ σ) N b P) (hd : 10 ≤ d) (hc : kI κ1 72 7 = 202) (hA : ∀ s171 : Rm, s171 = wS (sg κ σ) 10 ((sI (sg κ σ) 10) + 1) → ∃ e172 : Nat, e172 + 1 ≤ d ∧ AC X 92 e172 MX13_readTest [vR 92] s171 (aTV Q fun s175 => ∃ e176 : Nat, e176 + 1 ≤ d ∧ AC X 92 e176 MX13_emit [vR 92, vI 24, vI 0, vI 0] s175 (aRI fun y179 s180 => ∃ e181 : Nat, e181 + 1 ≤ d ∧ AC X 92 e181 MX13_readBlock [vR 92] s180 (aTV Q fun s184 => ∃ e185 : Nat, e185 + 1 ≤ d ∧ AC X 92 e185 MX13_isWord [vR 92, vR 7] s184 (aRI fun y188 s189 => ((y188 = 0 → (vp_in y179 12000) ∧ ∀ s192 : Rm, s192 = wI s189 14 ((y179 : Int32).toNatClampNeg) (sI s189 17) → A X 92 d MX13_readStatement 162 [(0, vR 92), (1, vI (kI κ 72 8)), (2, vI (nI (rJ σ))), (3, vI y179)] [] s192 Q) ∧ (¬ y188 = 0 → ∀ s193 : Rm, s193 = wS s189 10 ((sI s189 10) + 1) → ∃ e194 : Nat, e194 + 1 ≤ d ∧ AC X 92 e194 MX13_emit [vR 92, vI 23, vI 0, vI 0] s193 (aRI fun y197 s198 => (vp_in y179 12000) ∧ ∀ s200 : Rm, s200 = wI s198 14 ((y179 : Int32).toNatClampNeg) (sI s198 17) → ∃ e201 : Nat, e201 + 1 ≤ d ∧ AC X 92 e201 MX13_readBlock [vR 92] s200 (aTV Q fun s204 => (vp_in y197 12000) ∧ ∀ s206 : Rm, s206 = wI s204 14 ((y197 : Int32).toNatClampNeg) (sI s204 17) → A X 92 d MX13_readStatement 162 [(0, vR 92), (1, vI (kI κ 72 8)), (2, vI (nI (rJ σ))), (3, vI y179)] [] s206 Q))))))))) : A X 92 d MX13_readStatement 0 [(0, vR 92)] [] σ Q := by
  have n10 : kI κ1 72 7 ≠ 210 := by rw [hc]; decide
  have n4 : kI κ1 72 7 ≠ 204 := by rw [hc]; decide
  have n8 : kI κ1 72 7 ≠ 208 := by rw [hc]; decide
  have n9 : kI κ1 72 7 ≠ 209 := by rw [hc]; decide
  have n15 : kI κ1 72 7 ≠ 215 := by rw [hc]; decide
  have n21 : kI κ1 72 7 ≠ 221 := by rw [hc]; decide
  have n5 : kI κ1 72 7 ≠ 205 := by rw [hc]; decide
  obtain ⟨f, t, t1, t2, t3, t4, t5, t6, t7, t8⟩ := h.tok
  have hp := h.p3
  refine a_readStatement_0 ?_
  rw [h.2.2.2.2.1, vpn (by omega), cl_nI (by omega), t2, ← t1]
  refine ⟨by omega, 0, by omega, ac_emit h.2.2.2.2.2.2.2.2.2.2.2.1 hj ?_⟩
  exact ⟨5, by omega, ac_isWord (w := 10) h1 (by decide) (fun z => absurd z n10) (fun _ => ⟨fun _ => ⟨5, by omega, ac_isWord (w := 2) h1 (by decide) (fun _ => ⟨fun z => absurd z (by decide), fun _ => hA⟩) (fun z => absurd hc z)⟩, fun z => absurd rfl z⟩)⟩

theorem rs_while {d : Nat} {Q : Res → Rm → Prop} (h : Ps κ σ N b P) (hj : rJ σ < 12000) (h1 : Ps κ1 (sg κ σ) N b P) (hd : 10 ≤ d) (hc : kI κ1 72 7 = 204) (hA : ∀ s145 : Rm, s145 = wS (sg κ σ) 10 ((sI (sg κ σ) 10) + 1) → ∃ e146 : Nat, e146 + 1 ≤ d ∧ AC X 92 e146 MX13_readTest [vR 92] s145 (aTV Q fun s149 => ∃ e150 : Nat, e150 + 1 ≤ d ∧ AC X 92 e150 MX13_emit [vR 92, vI 24, vI 0, vI 0] s149 (aRI fun y153 s154 => ∃ e155 : Nat, e155 + 1 ≤ d ∧ AC X 92 e155 MX13_readBlock [vR 92] s154 (aTV Q fun s158 => ∃ e159 : Nat, e159 + 1 ≤ d ∧ AC X 92 e159 MX13_emit [vR 92, vI 0, vI (kI κ 72 8), vI 0] s158 (aRI fun y162 s163 => ∃ e164 : Nat, e164 + 1 ≤ d ∧ AC X 92 e164 MX13_emit [vR 92, vI 23, vI (sI s145 17), vI 0] s163 (aRI fun y167 s168 => (vp_in y153 12000) ∧ ∀ s170 : Rm, s170 = wI s168 14 ((y153 : Int32).toNatClampNeg) (sI s168 17) → A X 92 d MX13_readStatement 526 [(0, vR 92), (1, vI (kI κ 72 8)), (2, vI y167)] [] s170 Q)))))) : A X 92 d MX13_readStatement 0 [(0, vR 92)] [] σ Q := by
  have n10 : kI κ1 72 7 ≠ 210 := by rw [hc]; decide
  have n2 : kI κ1 72 7 ≠ 202 := by rw [hc]; decide
  have n8 : kI κ1 72 7 ≠ 208 := by rw [hc]; decide
  have n9 : kI κ1 72 7 ≠ 209 := by rw [hc]; decide
  have n15 : kI κ1 72 7 ≠ 215 := by rw [hc]; decide
  have n21 : kI κ1 72 7 ≠ 221 := by rw [hc]; decide
  have n5 : kI κ1 72 7 ≠ 205 := by rw [hc]; decide
  obtain ⟨f, t, t1, t2, t3, t4, t5, t6, t7, t8⟩ := h.tok
  have hp := h.p3
  refine a_readStatement_0 ?_
  rw [h.2.2.2.2.1, vpn (by omega), cl_nI (by omega), t2, ← t1]
  refine ⟨by omega, 0, by omega, ac_emit h.2.2.2.2.2.2.2.2.2.2.2.1 hj ?_⟩
  exact ⟨5, by omega, ac_isWord (w := 10) h1 (by decide) (fun z => absurd z n10) (fun _ => ⟨fun _ => ⟨5, by omega, ac_isWord (w := 2) h1 (by decide) (fun z => absurd z n2) (fun _ => ⟨fun _ => ⟨5, by omega, ac_isWord (w := 4) h1 (by decide) (fun _ => ⟨fun z => absurd z (by decide), fun _ => hA⟩) (fun z => absurd hc z)⟩, fun z => absurd rfl z⟩)⟩, fun z => absurd rfl z⟩)⟩

theorem rs_throw {d : Nat} {Q : Res → Rm → Prop} (h : Ps κ σ N b P) (hj : rJ σ < 12000) (h1 : Ps κ1 (sg κ σ) N b P) (hd : 10 ≤ d) (hc : kI κ1 72 7 = 208) (hA : ∀ s126 : Rm, s126 = wS (sg κ σ) 10 ((sI (sg κ σ) 10) + 1) → ∃ e127 : Nat, e127 + 1 ≤ d ∧ AC X 92 e127 MX13_mustNumber [vR 92] s126 (aTI Q fun y130 s131 => ∃ e132 : Nat, e132 + 1 ≤ d ∧ AC X 92 e132 MX13_readE [vR 92] s131 (aTV Q fun s135 => ∃ e136 : Nat, e136 + 1 ≤ d ∧ AC X 92 e136 MX13_mustSign [vR 92, vI 59] s135 (aTV Q fun s139 => ∃ e140 : Nat, e140 + 1 ≤ d ∧ AC X 92 e140 MX13_emit [vR 92, vI 25, vI (y130 - y130 / 10 * 10), vI ((sI s139 35) - 1)] s139 (aRI fun y143 s144 => A X 92 d MX13_readStatement 526 [(0, vR 92), (1, vI (kI κ 72 8)), (2, vI y143)] [] s144 Q))))) : A X 92 d MX13_readStatement 0 [(0, vR 92)] [] σ Q := by
  have n10 : kI κ1 72 7 ≠ 210 := by rw [hc]; decide
  have n2 : kI κ1 72 7 ≠ 202 := by rw [hc]; decide
  have n4 : kI κ1 72 7 ≠ 204 := by rw [hc]; decide
  have n9 : kI κ1 72 7 ≠ 209 := by rw [hc]; decide
  have n15 : kI κ1 72 7 ≠ 215 := by rw [hc]; decide
  have n21 : kI κ1 72 7 ≠ 221 := by rw [hc]; decide
  have n5 : kI κ1 72 7 ≠ 205 := by rw [hc]; decide
  obtain ⟨f, t, t1, t2, t3, t4, t5, t6, t7, t8⟩ := h.tok
  have hp := h.p3
  refine a_readStatement_0 ?_
  rw [h.2.2.2.2.1, vpn (by omega), cl_nI (by omega), t2, ← t1]
  refine ⟨by omega, 0, by omega, ac_emit h.2.2.2.2.2.2.2.2.2.2.2.1 hj ?_⟩
  exact ⟨5, by omega, ac_isWord (w := 10) h1 (by decide) (fun z => absurd z n10) (fun _ => ⟨fun _ => ⟨5, by omega, ac_isWord (w := 2) h1 (by decide) (fun z => absurd z n2) (fun _ => ⟨fun _ => ⟨5, by omega, ac_isWord (w := 4) h1 (by decide) (fun z => absurd z n4) (fun _ => ⟨fun _ => ⟨5, by omega, ac_isWord (w := 8) h1 (by decide) (fun _ => ⟨fun z => absurd z (by decide), fun _ => hA⟩) (fun z => absurd hc z)⟩, fun z => absurd rfl z⟩)⟩, fun z => absurd rfl z⟩)⟩, fun z => absurd rfl z⟩)⟩

theorem rs_return {d : Nat} {Q : Res → Rm → Prop} (h : Ps κ σ N b P) (hj : rJ σ < 12000) (h1 : Ps κ1 (sg κ σ) N b P) (hd : 10 ≤ d) (hc : kI κ1 72 7 = 209) (hA : ∀ s110 : Rm, s110 = wS (sg κ σ) 10 ((sI (sg κ σ) 10) + 1) → ∃ e111 : Nat, e111 + 1 ≤ d ∧ AC X 92 e111 MX13_isSign [vR 92, vI 59] s110 (aRI fun y114 s115 => ((y114 = 0 → ∃ e117 : Nat, e117 + 1 ≤ d ∧ AC X 92 e117 MX13_readE [vR 92] s115 (aTV Q fun s120 => A X 92 d MX13_readStatement 335 [(0, vR 92), (1, vI (kI κ 72 8)), (2, vI (nI (rJ σ)))] [] s120 Q)) ∧ (¬ y114 = 0 → ∃ e121 : Nat, e121 + 1 ≤ d ∧ AC X 92 e121 MX13_emit [vR 92, vI 1, vI 0, vI 0] s115 (aRI fun y124 s125 => A X 92 d MX13_readStatement 335 [(0, vR 92), (1, vI (kI κ 72 8)), (2, vI y124)] [] s125 Q))))) : A X 92 d MX13_readStatement 0 [(0, vR 92)] [] σ Q := by
  have n10 : kI κ1 72 7 ≠ 210 := by rw [hc]; decide
  have n2 : kI κ1 72 7 ≠ 202 := by rw [hc]; decide
  have n4 : kI κ1 72 7 ≠ 204 := by rw [hc]; decide
  have n8 : kI κ1 72 7 ≠ 208 := by rw [hc]; decide
  have n15 : kI κ1 72 7 ≠ 215 := by rw [hc]; decide
  have n21 : kI κ1 72 7 ≠ 221 := by rw [hc]; decide
  have n5 : kI κ1 72 7 ≠ 205 := by rw [hc]; decide
  obtain ⟨f, t, t1, t2, t3, t4, t5, t6, t7, t8⟩ := h.tok
  have hp := h.p3
  refine a_readStatement_0 ?_
  rw [h.2.2.2.2.1, vpn (by omega), cl_nI (by omega), t2, ← t1]
  refine ⟨by omega, 0, by omega, ac_emit h.2.2.2.2.2.2.2.2.2.2.2.1 hj ?_⟩
  exact ⟨5, by omega, ac_isWord (w := 10) h1 (by decide) (fun z => absurd z n10) (fun _ => ⟨fun _ => ⟨5, by omega, ac_isWord (w := 2) h1 (by decide) (fun z => absurd z n2) (fun _ => ⟨fun _ => ⟨5, by omega, ac_isWord (w := 4) h1 (by decide) (fun z => absurd z n4) (fun _ => ⟨fun _ => ⟨5, by omega, ac_isWord (w := 8) h1 (by decide) (fun z => absurd z n8) (fun _ => ⟨fun _ => ⟨5, by omega, ac_isWord (w := 9) h1 (by decide) (fun _ => ⟨fun z => absurd z (by decide), fun _ => hA⟩) (fun z => absurd hc z)⟩, fun z => absurd rfl z⟩)⟩, fun z => absurd rfl z⟩)⟩, fun z => absurd rfl z⟩)⟩, fun z => absurd rfl z⟩)⟩

theorem rs_close {d : Nat} {Q : Res → Rm → Prop} (h : Ps κ σ N b P) (hj : rJ σ < 12000) (h1 : Ps κ1 (sg κ σ) N b P) (hd : 10 ≤ d) (hc : kI κ1 72 7 = 215) (hA : ∀ s96 : Rm, s96 = wS (sg κ σ) 10 ((sI (sg κ σ) 10) + 1) → ∃ e97 : Nat, e97 + 1 ≤ d ∧ AC X 92 e97 MX13_readE [vR 92] s96 (aTV Q fun s100 => ∃ e101 : Nat, e101 + 1 ≤ d ∧ AC X 92 e101 MX13_mustSign [vR 92, vI 59] s100 (aTV Q fun s104 => ∃ e105 : Nat, e105 + 1 ≤ d ∧ AC X 92 e105 MX13_emit [vR 92, vI 27, vI 0, vI 0] s104 (aRI fun y108 s109 => A X 92 d MX13_readStatement 526 [(0, vR 92), (1, vI (kI κ 72 8)), (2, vI y108)] [] s109 Q)))) : A X 92 d MX13_readStatement 0 [(0, vR 92)] [] σ Q := by
  have n10 : kI κ1 72 7 ≠ 210 := by rw [hc]; decide
  have n2 : kI κ1 72 7 ≠ 202 := by rw [hc]; decide
  have n4 : kI κ1 72 7 ≠ 204 := by rw [hc]; decide
  have n8 : kI κ1 72 7 ≠ 208 := by rw [hc]; decide
  have n9 : kI κ1 72 7 ≠ 209 := by rw [hc]; decide
  have n21 : kI κ1 72 7 ≠ 221 := by rw [hc]; decide
  have n5 : kI κ1 72 7 ≠ 205 := by rw [hc]; decide
  obtain ⟨f, t, t1, t2, t3, t4, t5, t6, t7, t8⟩ := h.tok
  have hp := h.p3
  refine a_readStatement_0 ?_
  rw [h.2.2.2.2.1, vpn (by omega), cl_nI (by omega), t2, ← t1]
  refine ⟨by omega, 0, by omega, ac_emit h.2.2.2.2.2.2.2.2.2.2.2.1 hj ?_⟩
  exact ⟨5, by omega, ac_isWord (w := 10) h1 (by decide) (fun z => absurd z n10) (fun _ => ⟨fun _ => ⟨5, by omega, ac_isWord (w := 2) h1 (by decide) (fun z => absurd z n2) (fun _ => ⟨fun _ => ⟨5, by omega, ac_isWord (w := 4) h1 (by decide) (fun z => absurd z n4) (fun _ => ⟨fun _ => ⟨5, by omega, ac_isWord (w := 8) h1 (by decide) (fun z => absurd z n8) (fun _ => ⟨fun _ => ⟨5, by omega, ac_isWord (w := 9) h1 (by decide) (fun z => absurd z n9) (fun _ => ⟨fun _ => ⟨5, by omega, ac_isWord (w := 15) h1 (by decide) (fun _ => ⟨fun z => absurd z (by decide), fun _ => hA⟩) (fun z => absurd hc z)⟩, fun z => absurd rfl z⟩)⟩, fun z => absurd rfl z⟩)⟩, fun z => absurd rfl z⟩)⟩, fun z => absurd rfl z⟩)⟩, fun z => absurd rfl z⟩)⟩

theorem rs_each {d : Nat} {Q : Res → Rm → Prop} (h : Ps κ σ N b P) (hj : rJ σ < 12000) (h1 : Ps κ1 (sg κ σ) N b P) (hd : 10 ≤ d) (hc : kI κ1 72 7 = 221) (hA : ∃ e92 : Nat, e92 + 1 ≤ d ∧ AC X 92 e92 MX13_readEach [vR 92, vI (kI κ 72 8)] (sg κ σ) (aTV Q fun s95 => A X 92 d MX13_readStatement 526 [(0, vR 92), (1, vI (kI κ 72 8)), (2, vI (nI (rJ σ)))] [] s95 Q)) : A X 92 d MX13_readStatement 0 [(0, vR 92)] [] σ Q := by
  have n10 : kI κ1 72 7 ≠ 210 := by rw [hc]; decide
  have n2 : kI κ1 72 7 ≠ 202 := by rw [hc]; decide
  have n4 : kI κ1 72 7 ≠ 204 := by rw [hc]; decide
  have n8 : kI κ1 72 7 ≠ 208 := by rw [hc]; decide
  have n9 : kI κ1 72 7 ≠ 209 := by rw [hc]; decide
  have n15 : kI κ1 72 7 ≠ 215 := by rw [hc]; decide
  have n5 : kI κ1 72 7 ≠ 205 := by rw [hc]; decide
  obtain ⟨f, t, t1, t2, t3, t4, t5, t6, t7, t8⟩ := h.tok
  have hp := h.p3
  refine a_readStatement_0 ?_
  rw [h.2.2.2.2.1, vpn (by omega), cl_nI (by omega), t2, ← t1]
  refine ⟨by omega, 0, by omega, ac_emit h.2.2.2.2.2.2.2.2.2.2.2.1 hj ?_⟩
  exact ⟨5, by omega, ac_isWord (w := 10) h1 (by decide) (fun z => absurd z n10) (fun _ => ⟨fun _ => ⟨5, by omega, ac_isWord (w := 2) h1 (by decide) (fun z => absurd z n2) (fun _ => ⟨fun _ => ⟨5, by omega, ac_isWord (w := 4) h1 (by decide) (fun z => absurd z n4) (fun _ => ⟨fun _ => ⟨5, by omega, ac_isWord (w := 8) h1 (by decide) (fun z => absurd z n8) (fun _ => ⟨fun _ => ⟨5, by omega, ac_isWord (w := 9) h1 (by decide) (fun z => absurd z n9) (fun _ => ⟨fun _ => ⟨5, by omega, ac_isWord (w := 15) h1 (by decide) (fun z => absurd z n15) (fun _ => ⟨fun _ => ⟨5, by omega, ac_isWord (w := 21) h1 (by decide) (fun _ => ⟨fun z => absurd z (by decide), fun _ => hA⟩) (fun z => absurd hc z)⟩, fun z => absurd rfl z⟩)⟩, fun z => absurd rfl z⟩)⟩, fun z => absurd rfl z⟩)⟩, fun z => absurd rfl z⟩)⟩, fun z => absurd rfl z⟩)⟩, fun z => absurd rfl z⟩)⟩

theorem rs_try {d : Nat} {Q : Res → Rm → Prop} (h : Ps κ σ N b P) (hj : rJ σ < 12000) (h1 : Ps κ1 (sg κ σ) N b P) (hd : 10 ≤ d) (hc : kI κ1 72 7 = 205) (hA : ∃ e88 : Nat, e88 + 1 ≤ d ∧ AC X 92 e88 MX13_readTry [vR 92] (sg κ σ) (aTV Q fun s91 => A X 92 d MX13_readStatement 526 [(0, vR 92), (1, vI (kI κ 72 8)), (2, vI (nI (rJ σ)))] [] s91 Q)) : A X 92 d MX13_readStatement 0 [(0, vR 92)] [] σ Q := by
  have n10 : kI κ1 72 7 ≠ 210 := by rw [hc]; decide
  have n2 : kI κ1 72 7 ≠ 202 := by rw [hc]; decide
  have n4 : kI κ1 72 7 ≠ 204 := by rw [hc]; decide
  have n8 : kI κ1 72 7 ≠ 208 := by rw [hc]; decide
  have n9 : kI κ1 72 7 ≠ 209 := by rw [hc]; decide
  have n15 : kI κ1 72 7 ≠ 215 := by rw [hc]; decide
  have n21 : kI κ1 72 7 ≠ 221 := by rw [hc]; decide
  obtain ⟨f, t, t1, t2, t3, t4, t5, t6, t7, t8⟩ := h.tok
  have hp := h.p3
  refine a_readStatement_0 ?_
  rw [h.2.2.2.2.1, vpn (by omega), cl_nI (by omega), t2, ← t1]
  refine ⟨by omega, 0, by omega, ac_emit h.2.2.2.2.2.2.2.2.2.2.2.1 hj ?_⟩
  exact ⟨5, by omega, ac_isWord (w := 10) h1 (by decide) (fun z => absurd z n10) (fun _ => ⟨fun _ => ⟨5, by omega, ac_isWord (w := 2) h1 (by decide) (fun z => absurd z n2) (fun _ => ⟨fun _ => ⟨5, by omega, ac_isWord (w := 4) h1 (by decide) (fun z => absurd z n4) (fun _ => ⟨fun _ => ⟨5, by omega, ac_isWord (w := 8) h1 (by decide) (fun z => absurd z n8) (fun _ => ⟨fun _ => ⟨5, by omega, ac_isWord (w := 9) h1 (by decide) (fun z => absurd z n9) (fun _ => ⟨fun _ => ⟨5, by omega, ac_isWord (w := 15) h1 (by decide) (fun z => absurd z n15) (fun _ => ⟨fun _ => ⟨5, by omega, ac_isWord (w := 21) h1 (by decide) (fun z => absurd z n21) (fun _ => ⟨fun _ => ⟨5, by omega, ac_isWord (w := 5) h1 (by decide) (fun _ => ⟨fun z => absurd z (by decide), fun _ => hA⟩) (fun z => absurd hc z)⟩, fun z => absurd rfl z⟩)⟩, fun z => absurd rfl z⟩)⟩, fun z => absurd rfl z⟩)⟩, fun z => absurd rfl z⟩)⟩, fun z => absurd rfl z⟩)⟩, fun z => absurd rfl z⟩)⟩, fun z => absurd rfl z⟩)⟩

/-- no key word: a name with = behind it, or an expression -/
theorem rs_plain {d : Nat} {Q : Res → Rm → Prop} (h : Ps κ σ N b P) (hj : rJ σ < 12000) (h1 : Ps κ1 (sg κ σ) N b P) (hd : 10 ≤ d) (n10 : kI κ1 72 7 ≠ 210) (n2 : kI κ1 72 7 ≠ 202) (n4 : kI κ1 72 7 ≠ 204) (n8 : kI κ1 72 7 ≠ 208) (n9 : kI κ1 72 7 ≠ 209) (n15 : kI κ1 72 7 ≠ 215) (n21 : kI κ1 72 7 ≠ 221) (n5 : kI κ1 72 7 ≠ 205) (hA : (kI κ1 72 7 = 2 ∨ kI κ1 72 7 = 5) → kI κ1 74 (pC κ1 + 1) = 61 → ∃ e61 : Nat, e61 + 1 ≤ d ∧ AC X 92 e61 MX13_mustName [vR 92] (sg κ σ) (aTI Q fun y64 s65 => ∃ e66 : Nat, e66 + 1 ≤ d ∧ AC X 92 e66 MX13_variable [vR 92, vI y64] s65 (aRI fun y69 s70 => ∃ e71 : Nat, e71 + 1 ≤ d ∧ AC X 92 e71 MX13_mustSign [vR 92, vI 61] s70 (aTV Q fun s74 => ∃ e75 : Nat, e75 + 1 ≤ d ∧ AC X 92 e75 MX13_readE [vR 92] s74 (aTV Q fun s78 => ∃ e79 : Nat, e79 + 1 ≤ d ∧ AC X 92 e79 MX13_mustSign [vR 92, vI 59] s78 (aTV Q fun s82 => ∃ e83 : Nat, e83 + 1 ≤ d ∧ AC X 92 e83 MX13_emit [vR 92, vI 3, vI y69, vI 0] s82 (aRI fun y86 s87 => A X 92 d MX13_readStatement 526 [(0, vR 92), (1, vI (kI κ 72 8)), (2, vI y86)] [] s87 Q))))))) (hE : ¬ ((kI κ1 72 7 = 2 ∨ kI κ1 72 7 = 5) ∧ kI κ1 74 (pC κ1 + 1) = 61) → A X 92 d MX13_readStatement 507 [(0, vR 92), (1, vI (kI κ 72 8)), (2, vI (nI (rJ σ)))] [] (sg κ σ) Q) : A X 92 d MX13_readStatement 0 [(0, vR 92)] [] σ Q := by
  obtain ⟨f, t, t1, t2, t3, t4, t5, t6, t7, t8⟩ := h.tok
  have hp := h.p3
  refine a_readStatement_0 ?_
  rw [h.2.2.2.2.1, vpn (by omega), cl_nI (by omega), t2, ← t1]
  refine ⟨by omega, 0, by omega, ac_emit h.2.2.2.2.2.2.2.2.2.2.2.1 hj ?_⟩
  have rest : (vp_in (sI (sg κ σ) 10) 3002) ∧ (((aI (sg κ σ) 5 ((sI (sg κ σ) 10) : Int32).toNatClampNeg) = 1 → (vp_in ((sI (sg κ σ) 10) + 1) 3002) ∧ (((aI (sg κ σ) 5 (((sI (sg κ σ) 10) + 1) : Int32).toNatClampNeg) = 3 → (vp_in ((sI (sg κ σ) 10) + 1) 3002) ∧ (((aI (sg κ σ) 8 (((sI (sg κ σ) 10) + 1) : Int32).toNatClampNeg) = 61 → ∃ e61 : Nat, e61 + 1 ≤ d ∧ AC X 92 e61 MX13_mustName [vR 92] (sg κ σ) (aTI Q fun y64 s65 => ∃ e66 : Nat, e66 + 1 ≤ d ∧ AC X 92 e66 MX13_variable [vR 92, vI y64] s65 (aRI fun y69 s70 => ∃ e71 : Nat, e71 + 1 ≤ d ∧ AC X 92 e71 MX13_mustSign [vR 92, vI 61] s70 (aTV Q fun s74 => ∃ e75 : Nat, e75 + 1 ≤ d ∧ AC X 92 e75 MX13_readE [vR 92] s74 (aTV Q fun s78 => ∃ e79 : Nat, e79 + 1 ≤ d ∧ AC X 92 e79 MX13_mustSign [vR 92, vI 59] s78 (aTV Q fun s82 => ∃ e83 : Nat, e83 + 1 ≤ d ∧ AC X 92 e83 MX13_emit [vR 92, vI 3, vI y69, vI 0] s82 (aRI fun y86 s87 => A X 92 d MX13_readStatement 526 [(0, vR 92), (1, vI (kI κ 72 8)), (2, vI y86)] [] s87 Q))))))) ∧ (¬ (aI (sg κ σ) 8 (((sI (sg κ σ) 10) + 1) : Int32).toNatClampNeg) = 61 → A X 92 d MX13_readStatement 507 [(0, vR 92), (1, vI (kI κ 72 8)), (2, vI (nI (rJ σ)))] [] (sg κ σ) Q))) ∧ (¬ (aI (sg κ σ) 5 (((sI (sg κ σ) 10) + 1) : Int32).toNatClampNeg) = 3 → A X 92 d MX13_readStatement 507 [(0, vR 92), (1, vI (kI κ 72 8)), (2, vI (nI (rJ σ)))] [] (sg κ σ) Q))) ∧ (¬ (aI (sg κ σ) 5 ((sI (sg κ σ) 10) : Int32).toNatClampNeg) = 1 → A X 92 d MX13_readStatement 507 [(0, vR 92), (1, vI (kI κ 72 8)), (2, vI (nI (rJ σ)))] [] (sg κ σ) Q)) := by
    obtain ⟨f', t', u1, u2, u3, u4, u5, u6, u7, u8⟩ := h1.tok
    have hp1 := h1.p3
    rw [h1.2.2.2.2.1, nI_1, vpn (by omega), vpn (by omega), cl_nI (by omega), cl_nI (by omega)]
    refine ⟨by omega, fun c1 => ?_, fun c1 => hE (fun z => ?_)⟩
    · have nm : kI κ1 72 7 = 2 ∨ kI κ1 72 7 = 5 := by
        rcases u7.name with ⟨z, -⟩ | ⟨z, -⟩ | ⟨-, -, z⟩
        · exact Or.inl z
        · exact Or.inr z
        · exact absurd c1 z
      have hlt : pC κ1 < N := by
        rcases nm with z | z
        · exact h1.n0 (c := 2) z (by omega) (by omega)
        · exact h1.n0 (c := 5) z (by omega) (by omega)
      obtain ⟨p2, t2', n1, n2, n3, n4, n5, n6, n7, n8, n9, n10, n11⟩ := h1.next hlt
      obtain ⟨f2, t2'', v1, v2, v3, v4, v5, v6, v7, v8⟩ := p2.tok
      have k2 : kI (setC κ1 (pC κ1 + 1)) 72 7 = kI κ1 74 (pC κ1 + 1) := setC_cur.2.1
      rw [n1, k2, aI_ne (by decide), aI_ne (by decide)] at v7
      refine ⟨by omega, fun c2 => ⟨by omega, fun c3 => hA nm ((v7.sign (x := 61) (by decide)).mp ⟨c2, c3⟩), fun c3 => hE (fun z => c3 ((v7.sign (x := 61) (by decide)).mpr z.2).2)⟩, fun c2 => hE (fun z => c2 ((v7.sign (x := 61) (by decide)).mpr z.2).1)⟩
    · rcases u7.name with ⟨-, z', -⟩ | ⟨-, z', -⟩ | ⟨z1, z2, -⟩
      · exact c1 z'
      · exact c1 z'
      · rcases z.1 with z' | z'
        · exact z1 z'
        · exact z2 z'
  exact ⟨5, by omega, ac_isWord (w := 10) h1 (by decide) (fun z => absurd z n10) (fun _ => ⟨fun _ => ⟨5, by omega, ac_isWord (w := 2) h1 (by decide) (fun z => absurd z n2) (fun _ => ⟨fun _ => ⟨5, by omega, ac_isWord (w := 4) h1 (by decide) (fun z => absurd z n4) (fun _ => ⟨fun _ => ⟨5, by omega, ac_isWord (w := 8) h1 (by decide) (fun z => absurd z n8) (fun _ => ⟨fun _ => ⟨5, by omega, ac_isWord (w := 9) h1 (by decide) (fun z => absurd z n9) (fun _ => ⟨fun _ => ⟨5, by omega, ac_isWord (w := 15) h1 (by decide) (fun z => absurd z n15) (fun _ => ⟨fun _ => ⟨5, by omega, ac_isWord (w := 21) h1 (by decide) (fun z => absurd z n21) (fun _ => ⟨fun _ => ⟨5, by omega, ac_isWord (w := 5) h1 (by decide) (fun z => absurd z n5) (fun _ => ⟨fun _ => rest, fun z => absurd rfl z⟩)⟩, fun z => absurd rfl z⟩)⟩, fun z => absurd rfl z⟩)⟩, fun z => absurd rfl z⟩)⟩, fun z => absurd rfl z⟩)⟩, fun z => absurd rfl z⟩)⟩, fun z => absurd rfl z⟩)⟩, fun z => absurd rfl z⟩)⟩
end RS
