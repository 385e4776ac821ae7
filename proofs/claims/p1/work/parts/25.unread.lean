/-! what both answer as long as no story is read; feed and drop of the reference -/
theorem u_plays {X : Cx} {S : Mem} {a : Nat} {F : Int32 → Mem → Prop} (hk : isK S a 11) (h : gI S a 5 = 0) (q : F 0 S) : C X 0 MX11_plays [vR a] S (RI F) :=
  C_of_V rfl (Nat.le_of_ble_eq_true rfl) rfl (w_X11_plays_0 a ⟨hk, fun _ => w_X11_plays_21 a (w_X11_plays_22 a 0 ⟨Or.inl rfl, _, rfl, q⟩), fun n => absurd h n⟩)
theorem u_body {X : Cx} {S : Mem} {a : Nat} {x1 x2 : Int32} {F : Int32 → Mem → Prop} (hk : isK S a 11) (h : gI S a 5 = 0) (q : F (-2) S) : C X 0 MX11_body [vR a, vI x1, vI x2] S (RI F) :=
  C_of_V rfl (Nat.le_of_ble_eq_true rfl) rfl (w_X11_body_0 a x1 x2 ⟨hk, fun n => absurd h n, fun _ => ⟨_, rfl, q⟩⟩)
theorem u_told {X : Cx} {S : Mem} {a : Nat} {x1 x2 : Int32} {F : Int32 → Mem → Prop} (hk : isK S a 11) (h : gI S a 5 = 0) (q : F (-2) S) : C X 0 MX11_told [vR a, vI x1, vI x2] S (RI F) :=
  C_of_V rfl (Nat.le_of_ble_eq_true rfl) rfl (w_X11_told_0 a x1 x2 ⟨hk, fun n => absurd h n, fun _ => ⟨_, rfl, q⟩⟩)
theorem u_local {X : Cx} {S : Mem} {a : Nat} {x1 x2 x3 : Int32} {F : Int32 → Mem → Prop} (hk : isK S a 11) (h : gI S a 5 = 0) (q : F (-2) S) : C X 0 MX11_local [vR a, vI x1, vI x2, vI x3] S (RI F) :=
  C_of_V rfl (Nat.le_of_ble_eq_true rfl) rfl (w_X11_local_0 a x1 x2 x3 ⟨hk, fun n => absurd h n, fun _ => ⟨_, rfl, q⟩⟩)
theorem u_failure {X : Cx} {S : Mem} {a : Nat} {x1 x2 : Int32} {F : Int32 → Mem → Prop} (hk : isK S a 11) (h : gI S a 5 = 0) (q : F (-2) S) : C X 0 MX11_failure [vR a, vI x1, vI x2] S (RI F) :=
  C_of_V rfl (Nat.le_of_ble_eq_true rfl) rfl (w_X11_failure_0 a x1 x2 ⟨hk, fun n => absurd h n, fun _ => ⟨_, rfl, q⟩⟩)
theorem u_count {X : Cx} {S : Mem} {a : Nat} {x1 : Int32} {F : Int32 → Mem → Prop} (hk : isK S a 11) (h : gI S a 5 = 0) (q : F (-2) S) : C X 0 MX11_count [vR a, vI x1] S (RI F) :=
  C_of_V rfl (Nat.le_of_ble_eq_true rfl) rfl (w_X11_count_0 a x1 ⟨hk, fun n => absurd h n, fun _ => ⟨_, rfl, q⟩⟩)
theorem u_digest {X : Cx} {S : Mem} {a : Nat} {F : Int64 → Mem → Prop} (hk : isK S a 11) (h : gI S a 5 = 0) (q : F 0 S) : C X 0 MX11_digest [vR a] S (RJ F) :=
  C_of_V rfl (Nat.le_of_ble_eq_true rfl) rfl (w_X11_digest_0 a ⟨hk, fun n => absurd h n, fun _ => ⟨_, rfl, q⟩⟩)
theorem u_answer {X : Cx} {S : Mem} {a : Nat} {F : Int32 → Mem → Prop} (hk : isK S a 11) (h : gI S a 5 = 0) (q : F (-2) S) : C X 0 MX11_answer [vR a] S (RI F) :=
  C_of_V rfl (Nat.le_of_ble_eq_true rfl) rfl (w_X11_answer_0 a  ⟨hk, fun _ => w_X11_answer_19 a  (-2) ⟨_, rfl, q⟩, fun n => absurd h n⟩)
theorem u_lines {X : Cx} {S : Mem} {a : Nat} {F : Int32 → Mem → Prop} (hk : isK S a 11) (h : gI S a 5 = 0) (q : F (-2) S) : C X 0 MX11_lines [vR a] S (RI F) :=
  C_of_V rfl (Nat.le_of_ble_eq_true rfl) rfl (w_X11_lines_0 a  ⟨hk, fun _ => w_X11_lines_22 a  (-2) ⟨_, rfl, q⟩, fun n => absurd h n⟩)
theorem u_line {X : Cx} {S : Mem} {a : Nat} {x1 x2 : Int32} {F : Int32 → Mem → Prop} (hk : isK S a 11) (h : gI S a 5 = 0) (q : F (-2) S) : C X 0 MX11_line [vR a, vI x1, vI x2] S (RI F) :=
  C_of_V rfl (Nat.le_of_ble_eq_true rfl) rfl (w_X11_line_0 a x1 x2 ⟨hk, fun _ => w_X11_line_24 a x1 x2 (-2) ⟨_, rfl, q⟩, fun n => absurd h n⟩)
theorem u_handings {X : Cx} {S : Mem} {a : Nat} {F : Int32 → Mem → Prop} (hk : isK S a 11) (h : gI S a 5 = 0) (q : F (-2) S) : C X 0 MX11_handings [vR a] S (RI F) :=
  C_of_V rfl (Nat.le_of_ble_eq_true rfl) rfl (w_X11_handings_0 a  ⟨hk, fun _ => w_X11_handings_22 a  (-2) ⟨_, rfl, q⟩, fun n => absurd h n⟩)
theorem u_handing {X : Cx} {S : Mem} {a : Nat} {x1 x2 : Int32} {F : Int32 → Mem → Prop} (hk : isK S a 11) (h : gI S a 5 = 0) (q : F (-2) S) : C X 0 MX11_handing [vR a, vI x1, vI x2] S (RI F) :=
  C_of_V rfl (Nat.le_of_ble_eq_true rfl) rfl (w_X11_handing_0 a x1 x2 ⟨hk, fun _ => w_X11_handing_24 a x1 x2 (-2) ⟨_, rfl, q⟩, fun n => absurd h n⟩)
theorem u_failures {X : Cx} {S : Mem} {a : Nat} {F : Int32 → Mem → Prop} (hk : isK S a 11) (h : gI S a 5 = 0) (q : F (-2) S) : C X 0 MX11_failures [vR a] S (RI F) :=
  C_of_V rfl (Nat.le_of_ble_eq_true rfl) rfl (w_X11_failures_0 a  ⟨hk, fun _ => w_X11_failures_22 a  (-2) ⟨_, rfl, q⟩, fun n => absurd h n⟩)
theorem u_ring {X : Cx} {S : Mem} {a : Nat} {x1 : Int32} {F : Int32 → Mem → Prop} (hk : isK S a 11) (h : gI S a 5 = 0) (q : F (-2) S) : C X 0 MX11_ring [vR a, vI x1] S (RI F) :=
  C_of_V rfl (Nat.le_of_ble_eq_true rfl) rfl (w_X11_ring_0 a x1 ⟨hk, fun _ => w_X11_ring_20 a x1 (-2) ⟨_, rfl, q⟩, fun n => absurd h n⟩)
theorem u_voice {X : Cx} {S : Mem} {a : Nat} {x1 x2 : Int32} {F : Int32 → Mem → Prop} (hk : isK S a 11) (h : gI S a 5 = 0) (q : F (-2) S) : C X 1 MX11_voice [vR a, vI x1, vI x2] S (RI F) :=
  C_of_V rfl (Nat.le_of_ble_eq_true rfl) rfl (w_X11_voice_0 a x1 x2 ⟨hk, 0, Nat.le_refl _, u_plays hk h ⟨fun n => absurd rfl n, fun _ => ⟨_, rfl, q⟩⟩⟩)
theorem u_resume {X : Cx} {S : Mem} {a : Nat} {x1 x2 : Int32} {F : Int32 → Mem → Prop} (hk : isK S a 11) (h : gI S a 5 = 0) (q : F (-2) S) : C X 1 MX11_resume [vR a, vI x1, vI x2] S (RI F) :=
  C_of_V rfl (Nat.le_of_ble_eq_true rfl) rfl (w_X11_resume_0 a x1 x2 ⟨hk, 0, Nat.le_refl _, u_plays hk h ⟨fun n => absurd rfl n, fun _ => ⟨_, rfl, q⟩⟩⟩)
theorem u_inject {X : Cx} {S : Mem} {a : Nat} {x1 x2 x3 : Int32} {F : Int32 → Mem → Prop} (hk : isK S a 11) (h : gI S a 5 = 0) (q : F (-2) S) : C X 1 MX11_inject [vR a, vI x1, vI x2, vI x3] S (RI F) :=
  C_of_V rfl (Nat.le_of_ble_eq_true rfl) rfl (w_X11_inject_0 a x1 x2 x3 ⟨hk, 0, Nat.le_refl _, u_plays hk h ⟨fun n => absurd rfl n, fun _ => ⟨_, rfl, q⟩⟩⟩)
theorem u_close {X : Cx} {S : Mem} {a : Nat} {x1 : Int32} {F : Int32 → Mem → Prop} (hk : isK S a 11) (h : gI S a 5 = 0) (q : F (-2) S) : C X 1 MX11_close [vR a, vI x1] S (RI F) :=
  C_of_V rfl (Nat.le_of_ble_eq_true rfl) rfl (w_X11_close_0 a x1 ⟨hk, 0, Nat.le_refl _, u_plays hk h ⟨fun n => absurd rfl n, fun _ => ⟨_, rfl, q⟩⟩⟩)
theorem u_sweep {X : Cx} {S : Mem} {a : Nat} {F : Int32 → Mem → Prop} (hk : isK S a 11) (h : gI S a 5 = 0) (q : F (-2) S) : C X 1 MX11_sweep [vR a] S (RI F) :=
  C_of_V rfl (Nat.le_of_ble_eq_true rfl) rfl (w_X11_sweep_0 a  ⟨hk, 0, Nat.le_refl _, u_plays hk h ⟨fun n => absurd rfl n, fun _ => ⟨_, rfl, q⟩⟩⟩)
theorem ua_isSilent {X : Cx} {b : Nat} {σ : Rm} {F : Int32 → Rm → Prop} (h : sI σ 46 = 0) (q : F 1 σ) : AC X b 0 MX13_isSilent [vR b] σ (aRI F) :=
  AC_of_A rfl (Nat.le_of_ble_eq_true rfl) rfl (a_isSilent_0 ⟨fun _ => a_isSilent_14 (a_isSilent_19 1 ⟨Or.inr rfl, _, rfl, q⟩), fun n => absurd h n⟩)
theorem ua_body {X : Cx} {b : Nat} {σ : Rm} {x1 x2 : Int32} {F : Int32 → Rm → Prop} (h : sI σ 46 = 0) (q : F (-2) σ) : AC X b 0 MX13_body [vR b, vI x1, vI x2] σ (aRI F) :=
  AC_of_A rfl (Nat.le_of_ble_eq_true rfl) rfl (a_body_0 x1 x2 ⟨fun _ => ⟨_, rfl, q⟩, fun n => absurd h n⟩)
theorem ua_told {X : Cx} {b : Nat} {σ : Rm} {x1 x2 : Int32} {F : Int32 → Rm → Prop} (h : sI σ 46 = 0) (q : F (-2) σ) : AC X b 0 MX13_told [vR b, vI x1, vI x2] σ (aRI F) :=
  AC_of_A rfl (Nat.le_of_ble_eq_true rfl) rfl (a_told_0 x1 x2 ⟨fun _ => ⟨_, rfl, q⟩, fun n => absurd h n⟩)
theorem ua_local {X : Cx} {b : Nat} {σ : Rm} {x1 x2 x3 : Int32} {F : Int32 → Rm → Prop} (h : sI σ 46 = 0) (q : F (-2) σ) : AC X b 0 MX13_local [vR b, vI x1, vI x2, vI x3] σ (aRI F) :=
  AC_of_A rfl (Nat.le_of_ble_eq_true rfl) rfl (a_local_0 x1 x2 x3 ⟨fun _ => ⟨_, rfl, q⟩, fun n => absurd h n⟩)
theorem ua_line {X : Cx} {b : Nat} {σ : Rm} {x1 x2 : Int32} {F : Int32 → Rm → Prop} (h : sI σ 46 = 0) (q : F (-2) σ) : AC X b 0 MX13_line [vR b, vI x1, vI x2] σ (aRI F) :=
  AC_of_A rfl (Nat.le_of_ble_eq_true rfl) rfl (a_line_0 x1 x2 ⟨fun _ => ⟨_, rfl, q⟩, fun n => absurd h n⟩)
theorem ua_handing {X : Cx} {b : Nat} {σ : Rm} {x1 x2 : Int32} {F : Int32 → Rm → Prop} (h : sI σ 46 = 0) (q : F (-2) σ) : AC X b 0 MX13_handing [vR b, vI x1, vI x2] σ (aRI F) :=
  AC_of_A rfl (Nat.le_of_ble_eq_true rfl) rfl (a_handing_0 x1 x2 ⟨fun _ => ⟨_, rfl, q⟩, fun n => absurd h n⟩)
theorem ua_failures {X : Cx} {b : Nat} {σ : Rm} {F : Int32 → Rm → Prop} (h : sI σ 46 = 0) (q : F (-2) σ) : AC X b 0 MX13_failures [vR b] σ (aRI F) :=
  AC_of_A rfl (Nat.le_of_ble_eq_true rfl) rfl (a_failures_0  ⟨fun _ => ⟨_, rfl, q⟩, fun n => absurd h n⟩)
theorem ua_failure_ {X : Cx} {b : Nat} {σ : Rm} {x1 x2 : Int32} {F : Int32 → Rm → Prop} (h : sI σ 46 = 0) (q : F (-2) σ) : AC X b 0 MX13_failure_ [vR b, vI x1, vI x2] σ (aRI F) :=
  AC_of_A rfl (Nat.le_of_ble_eq_true rfl) rfl (a_failure__0 x1 x2 ⟨fun _ => ⟨_, rfl, q⟩, fun n => absurd h n⟩)
theorem ua_count {X : Cx} {b : Nat} {σ : Rm} {x1 : Int32} {F : Int32 → Rm → Prop} (h : sI σ 46 = 0) (q : F (-2) σ) : AC X b 0 MX13_count [vR b, vI x1] σ (aRI F) :=
  AC_of_A rfl (Nat.le_of_ble_eq_true rfl) rfl (a_count_0 x1 ⟨fun _ => ⟨_, rfl, q⟩, fun n => absurd h n⟩)
theorem ua_digest {X : Cx} {b : Nat} {σ : Rm} {F : Int64 → Rm → Prop} (h : sI σ 46 = 0) (q : F 0 σ) : AC X b 0 MX13_digest [vR b] σ (aRJ F) :=
  AC_of_A rfl (Nat.le_of_ble_eq_true rfl) rfl (a_digest_0 ⟨fun _ => ⟨_, rfl, q⟩, fun n => absurd h n⟩)
theorem ua_answer {X : Cx} {b : Nat} {σ : Rm} {F : Int32 → Rm → Prop} (h : sI σ 46 = 0) (q : F (-2) σ) : AC X b 0 MX13_answer [vR b] σ (aRI F) :=
  AC_of_A rfl (Nat.le_of_ble_eq_true rfl) rfl (a_answer_0  ⟨fun _ => a_answer_16  (-2) ⟨_, rfl, q⟩, fun n => absurd h n⟩)
theorem ua_lines {X : Cx} {b : Nat} {σ : Rm} {F : Int32 → Rm → Prop} (h : sI σ 46 = 0) (q : F (-2) σ) : AC X b 0 MX13_lines [vR b] σ (aRI F) :=
  AC_of_A rfl (Nat.le_of_ble_eq_true rfl) rfl (a_lines_0  ⟨fun _ => a_lines_16  (-2) ⟨_, rfl, q⟩, fun n => absurd h n⟩)
theorem ua_handings {X : Cx} {b : Nat} {σ : Rm} {F : Int32 → Rm → Prop} (h : sI σ 46 = 0) (q : F (-2) σ) : AC X b 0 MX13_handings [vR b] σ (aRI F) :=
  AC_of_A rfl (Nat.le_of_ble_eq_true rfl) rfl (a_handings_0  ⟨fun _ => a_handings_16  (-2) ⟨_, rfl, q⟩, fun n => absurd h n⟩)
theorem ua_ring {X : Cx} {b : Nat} {σ : Rm} {x1 : Int32} {F : Int32 → Rm → Prop} (h : sI σ 46 = 0) (q : F (-2) σ) : AC X b 0 MX13_ring [vR b, vI x1] σ (aRI F) :=
  AC_of_A rfl (Nat.le_of_ble_eq_true rfl) rfl (a_ring_0 x1 ⟨fun _ => a_ring_37 x1 (-2) ⟨_, rfl, q⟩, fun n => absurd h n⟩)
theorem ua_voice {X : Cx} {b : Nat} {σ : Rm} {x1 x2 : Int32} {F : Int32 → Rm → Prop} (h : sI σ 46 = 0) (q : F (-2) σ) : AC X b 1 MX13_voice [vR b, vI x1, vI x2] σ (aRI F) :=
  AC_of_A rfl (Nat.le_of_ble_eq_true rfl) rfl (a_voice_0 x1 x2 ⟨0, Nat.le_refl _, ua_isSilent h ⟨fun n => absurd n (by decide), fun _ => ⟨_, rfl, q⟩⟩⟩)
theorem ua_resume {X : Cx} {b : Nat} {σ : Rm} {x1 x2 : Int32} {F : Int32 → Rm → Prop} (h : sI σ 46 = 0) (q : F (-2) σ) : AC X b 1 MX13_resume [vR b, vI x1, vI x2] σ (aRI F) :=
  AC_of_A rfl (Nat.le_of_ble_eq_true rfl) rfl (a_resume_0 x1 x2 ⟨0, Nat.le_refl _, ua_isSilent h ⟨fun n => absurd n (by decide), fun _ => ⟨_, rfl, q⟩⟩⟩)
theorem ua_inject {X : Cx} {b : Nat} {σ : Rm} {x1 x2 x3 : Int32} {F : Int32 → Rm → Prop} (h : sI σ 46 = 0) (q : F (-2) σ) : AC X b 1 MX13_inject [vR b, vI x1, vI x2, vI x3] σ (aRI F) :=
  AC_of_A rfl (Nat.le_of_ble_eq_true rfl) rfl (a_inject_0 x1 x2 x3 ⟨0, Nat.le_refl _, ua_isSilent h ⟨fun n => absurd n (by decide), fun _ => ⟨_, rfl, q⟩⟩⟩)
theorem ua_close {X : Cx} {b : Nat} {σ : Rm} {x1 : Int32} {F : Int32 → Rm → Prop} (h : sI σ 46 = 0) (q : F (-2) σ) : AC X b 1 MX13_close [vR b, vI x1] σ (aRI F) :=
  AC_of_A rfl (Nat.le_of_ble_eq_true rfl) rfl (a_close_0 x1 ⟨0, Nat.le_refl _, ua_isSilent h ⟨fun n => absurd n (by decide), fun _ => a_close_30 x1 (-2) ⟨_, rfl, q⟩⟩⟩)
theorem ua_sweep {X : Cx} {b : Nat} {σ : Rm} {F : Int32 → Rm → Prop} (h : sI σ 46 = 0) (q : F (-2) σ) : AC X b 1 MX13_sweep [vR b] σ (aRI F) :=
  AC_of_A rfl (Nat.le_of_ble_eq_true rfl) rfl (a_sweep_0  ⟨0, Nat.le_refl _, ua_isSilent h ⟨fun n => absurd n (by decide), fun _ => ⟨_, rfl, q⟩⟩⟩)
theorem sI_wI {σ : Rm} {k i j : Nat} {v : Int32} (h : j ≠ k) : sI (wI σ k i v) j = sI σ j := by
  show (if j = k ∧ 0 = i then v else σ.1 j 0) = σ.1 j 0
  rw [if_neg (fun z => h z.1)]
theorem sI_wS {σ : Rm} {k : Nat} {v : Int32} : sI (wS σ k v) k = v := by
  show (if k = k ∧ 0 = 0 then v else σ.1 k 0) = v
  rw [if_pos ⟨rfl, rfl⟩]
theorem ac_in {X : Cx} {b : Nat} {σ : Rm} {F : Int32 → Rm → Prop} (v lo hi : Int32) (q : F (if ¬ v < lo ∧ ¬ hi < v then 1 else 0) σ) : AC X b 0 MX13_in [vI v, vI lo, vI hi] σ (aRI F) := by
  refine AC_of_A rfl (Nat.le_of_ble_eq_true rfl) rfl (a_in_0 v lo hi ⟨fun h1 => ?_, fun h1 => ⟨fun h2 => ?_, fun h2 => ?_⟩⟩)
  · rw [if_neg (fun z => z.1 h1)] at q; exact a_in_14 _ _ _ (a_in_15 _ _ _ _ ⟨Or.inl rfl, _, rfl, q⟩)
  · rw [if_neg (fun z => z.2 h2)] at q; exact a_in_14 _ _ _ (a_in_15 _ _ _ _ ⟨Or.inl rfl, _, rfl, q⟩)
  · rw [if_pos ⟨h1, h2⟩] at q; exact a_in_15 _ _ _ _ ⟨Or.inr rfl, _, rfl, q⟩
/-- the reference's tape with k bytes of l more, from n on -/
def fdB (σ : Rm) (n : Nat) (l : Int64) : Nat → Rm
  | 0 => σ
  | k + 1 => wI (fdB σ n l k) 1 (n + k) (byR l k)
theorem fdB_sI {σ : Rm} {n j : Nat} {l : Int64} (h : j ≠ 1) : ∀ k, sI (fdB σ n l k) j = sI σ j := by
  intro k
  induction k with
  | zero => rfl
  | succ k ih => exact (sI_wI h).trans ih
theorem rfeed_loop {X : Cx} {b : Nat} {σ : Rm} {Q : Res → Rm → Prop} {n w : Nat} {l : Int64} (hw : w ≤ 8) (hn : n + w ≤ 3000) (h2 : sI σ 2 = nI n) (q : Q (.inl (some (vI (nI (n + w))))) (wS (fdB σ n l w) 2 (nI (n + w)))) : ∀ m k : Nat, m + k = w → A X b 1 MX13_feed 30 [(0, vR b), (1, vL l), (3, vI (nI w)), (4, vI (nI k))] [] (fdB σ n l k) Q := by
  intro m
  induction m with
  | zero =>
    intro k hk
    have : k = w := by omega
    subst this
    refine a_feed_30 l _ _ ⟨fun _ s2 e2 => ?_, fun hc => absurd (by rw [le_nI (by omega) (by omega)]; omega) hc⟩
    have e : s2 = wS (fdB σ n l k) 2 (nI (n + k)) := by rw [e2, fdB_sI (by decide), h2, nI_add]
    rw [e, sI_wS]; exact q
  | succ m ih =>
    intro k hk
    refine a_feed_30 l _ _ ⟨fun hc => ?_, fun _ => ⟨?_, fun s4 e4 => ?_⟩⟩
    · rw [le_nI (by omega) (by omega)] at hc; omega
    · rw [fdB_sI (by decide), h2, nI_add]; exact vp_in_nI (by omega) (by omega)
    · have e8 : ((l >>> ((8 * nI k : Int32).toInt64 &&& 63)).toInt32.toInt8.toInt32).toInt8.toInt32 = byR l k := by unfold byR; simp
      rw [fdB_sI (by decide), h2, nI_add, cl_nI (by omega), e8] at e4
      rw [nI_1, e4]
      exact ih (k + 1) (by omega)
/-- StoryRoundModel.feed -/
theorem ac_feed {X : Cx} {b : Nat} {σ : Rm} {Q : Res → Rm → Prop} {n : Nat} {l : Int64} {x : Int32} (h2 : sI σ 2 = nI n) (hn : n ≤ 3000) (q1 : (x < 1 ∨ 8 < x) → Q (.inl (some (vI (-1)))) σ) (q2 : ∀ w, 1 ≤ w → w ≤ 8 → x = nI w → 3000 < n + w → Q (.inl (some (vI (-3)))) σ)
    (q3 : ∀ w, 1 ≤ w → w ≤ 8 → x = nI w → n + w ≤ 3000 → Q (.inl (some (vI (nI (n + w))))) (wS (fdB σ n l w) 2 (nI (n + w)))) : AC X b 1 MX13_feed [vR b, vL l, vI x] σ Q := by
  refine AC_of_A rfl (Nat.le_of_ble_eq_true rfl) rfl (a_feed_0 l x ⟨0, Nat.le_refl _, ac_in x 1 8 ⟨fun hc => ?_, fun hc => ⟨fun h3 => ?_, fun h3 => ?_⟩⟩⟩)
  · by_cases c1 : x < 1
    · exact q1 (Or.inl c1)
    · by_cases c2 : 8 < x
      · exact q1 (Or.inr c2)
      · rw [if_pos ⟨c1, c2⟩] at hc; exact absurd hc (by decide)
  · by_cases c : ¬ x < 1 ∧ ¬ 8 < x
    · obtain ⟨w, hw, rfl⟩ := nI_of2 (n := 8) (M := 8) (by decide) (fun z => c.1 (Int32.lt_trans z (by decide))) (Int32.not_lt.mp c.2)
      have c1 := c.1
      rw [litI 1, lt_nI (by omega) (by omega)] at c1
      rw [h2, nI_add, litI 3000, le_nI (by omega) (by omega)] at h3
      exact rfeed_loop hw h3 h2 (q3 w (by omega) hw rfl h3) w 0 rfl
    · rw [if_neg c] at hc; exact absurd rfl hc
  · by_cases c : ¬ x < 1 ∧ ¬ 8 < x
    · obtain ⟨w, hw, rfl⟩ := nI_of2 (n := 8) (M := 8) (by decide) (fun z => c.1 (Int32.lt_trans z (by decide))) (Int32.not_lt.mp c.2)
      have c1 := c.1
      rw [litI 1, lt_nI (by omega) (by omega)] at c1
      rw [h2, nI_add, litI 3000, le_nI (by omega) (by omega)] at h3
      exact q2 w (by omega) hw rfl (by omega)
    · rw [if_neg c] at hc; exact absurd rfl hc
theorem ac_drop {X : Cx} {b : Nat} {σ : Rm} {F : Int32 → Rm → Prop} (q : F (sI σ 2) (wS σ 2 0)) : AC X b 0 MX13_drop [vR b] σ (aRI F) :=
  AC_of_A rfl (Nat.le_of_ble_eq_true rfl) rfl (a_drop_0 fun s1 e1 => ⟨_, rfl, by rw [e1]; exact q⟩)
theorem c_Tape_clear {X : Cx} {S : Mem} {F : Mem → Prop} {a : Nat} (hk : isK S a 8) (q : F (uI S a 1 0)) : C X 0 MX8_clear [vR a] S (RV F) :=
  C_of_V rfl (Nat.le_of_ble_eq_true rfl) rfl (w_X8_clear_0 a ⟨hk, fun S2 e2 => ⟨rfl, by rw [e2]; exact q⟩⟩)
theorem c_drop {X : Cx} {S : Mem} {F : Int32 → Mem → Prop} {a n : Nat} {f : Nat → Int32} (hk : isK S a 11) (hT : Tape S (gR S a 0) n f) (q : F (nI n) (uI S (gR S a 0) 1 0)) : C X 1 MX11_drop [vR a] S (RI F) :=
  C_of_V rfl (Nat.le_of_ble_eq_true rfl) rfl (w_X11_drop_0 a ⟨hk, hT.1, 0, by decide, c_Tape_size hT ⟨hk, hT.1, 0, by decide, c_Tape_clear hT.1 ⟨_, rfl, q⟩⟩⟩)

