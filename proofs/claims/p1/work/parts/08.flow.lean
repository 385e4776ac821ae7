section FLOW
variable {X : Cx} {d : Nat} {M : MI} {pc : Nat} {lv : Lv} {st : List AV} {S : Mem} {Q : Res → Mem → Prop}
theorem V_ifeq {off : Int} {tgt pc2 : Nat} {x : Int32} (hd : decode M.2.1 pc = .ok (.ifCond .eq off, 3)) (ht : (pc : Int) + off = (tgt : Int)) (hp : pc + 3 = pc2) (kt : x = 0 → V X d M tgt lv st S Q) (kf : ¬ x = 0 → V X d M pc2 lv st S Q) : V X d M pc lv (vI x :: st) S Q := by
  subst hp; by_cases h : x = 0
  · exact V_p (fun _ F _ _ w => lv_if_eq F.1 F.2.1 hd ht (fun _ => w) (fun q => absurd h q)) (kt h)
  · exact V_p (fun _ F _ _ w => lv_if_eq F.1 F.2.1 hd ht (fun q => absurd q h) (fun _ => w)) (kf h)
theorem V_ifne {off : Int} {tgt pc2 : Nat} {x : Int32} (hd : decode M.2.1 pc = .ok (.ifCond .ne off, 3)) (ht : (pc : Int) + off = (tgt : Int)) (hp : pc + 3 = pc2) (kt : ¬ x = 0 → V X d M tgt lv st S Q) (kf : x = 0 → V X d M pc2 lv st S Q) : V X d M pc lv (vI x :: st) S Q := by
  subst hp; by_cases h : x = 0
  · exact V_p (fun _ F _ _ w => lv_if_ne F.1 F.2.1 hd ht (fun q => absurd h q) (fun _ => w)) (kf h)
  · exact V_p (fun _ F _ _ w => lv_if_ne F.1 F.2.1 hd ht (fun _ => w) (fun q => absurd q h)) (kt h)
theorem V_iflt {off : Int} {tgt pc2 : Nat} {x : Int32} (hd : decode M.2.1 pc = .ok (.ifCond .lt off, 3)) (ht : (pc : Int) + off = (tgt : Int)) (hp : pc + 3 = pc2) (kt : x < 0 → V X d M tgt lv st S Q) (kf : ¬ x < 0 → V X d M pc2 lv st S Q) : V X d M pc lv (vI x :: st) S Q := by
  subst hp; by_cases h : x < 0
  · exact V_p (fun _ F _ _ w => lv_if_lt F.1 F.2.1 hd ht (fun _ => w) (fun q => absurd h q)) (kt h)
  · exact V_p (fun _ F _ _ w => lv_if_lt F.1 F.2.1 hd ht (fun q => absurd q h) (fun _ => w)) (kf h)
theorem V_ifge {off : Int} {tgt pc2 : Nat} {x : Int32} (hd : decode M.2.1 pc = .ok (.ifCond .ge off, 3)) (ht : (pc : Int) + off = (tgt : Int)) (hp : pc + 3 = pc2) (kt : 0 ≤ x → V X d M tgt lv st S Q) (kf : ¬ 0 ≤ x → V X d M pc2 lv st S Q) : V X d M pc lv (vI x :: st) S Q := by
  subst hp; by_cases h : 0 ≤ x
  · exact V_p (fun _ F _ _ w => lv_if_ge F.1 F.2.1 hd ht (fun _ => w) (fun q => absurd h q)) (kt h)
  · exact V_p (fun _ F _ _ w => lv_if_ge F.1 F.2.1 hd ht (fun q => absurd q h) (fun _ => w)) (kf h)
theorem V_ifle {off : Int} {tgt pc2 : Nat} {x : Int32} (hd : decode M.2.1 pc = .ok (.ifCond .le off, 3)) (ht : (pc : Int) + off = (tgt : Int)) (hp : pc + 3 = pc2) (kt : x ≤ 0 → V X d M tgt lv st S Q) (kf : ¬ x ≤ 0 → V X d M pc2 lv st S Q) : V X d M pc lv (vI x :: st) S Q := by
  subst hp; by_cases h : x ≤ 0
  · exact V_p (fun _ F _ _ w => lv_if_le F.1 F.2.1 hd ht (fun _ => w) (fun q => absurd h q)) (kt h)
  · exact V_p (fun _ F _ _ w => lv_if_le F.1 F.2.1 hd ht (fun q => absurd q h) (fun _ => w)) (kf h)
theorem V_cmpeq {off : Int} {tgt pc2 : Nat} {x y : Int32} (hd : decode M.2.1 pc = .ok (.if_icmp .eq off, 3)) (ht : (pc : Int) + off = (tgt : Int)) (hp : pc + 3 = pc2) (kt : x = y → V X d M tgt lv st S Q) (kf : ¬ x = y → V X d M pc2 lv st S Q) : V X d M pc lv (vI y :: vI x :: st) S Q := by
  subst hp; by_cases h : x = y
  · exact V_p (fun _ F _ _ w => lv_icmp_eq F.1 F.2.1 hd ht (fun _ => w) (fun q => absurd h q)) (kt h)
  · exact V_p (fun _ F _ _ w => lv_icmp_eq F.1 F.2.1 hd ht (fun q => absurd q h) (fun _ => w)) (kf h)
theorem V_cmpne {off : Int} {tgt pc2 : Nat} {x y : Int32} (hd : decode M.2.1 pc = .ok (.if_icmp .ne off, 3)) (ht : (pc : Int) + off = (tgt : Int)) (hp : pc + 3 = pc2) (kt : ¬ x = y → V X d M tgt lv st S Q) (kf : x = y → V X d M pc2 lv st S Q) : V X d M pc lv (vI y :: vI x :: st) S Q := by
  subst hp; by_cases h : x = y
  · exact V_p (fun _ F _ _ w => lv_icmp_ne F.1 F.2.1 hd ht (fun q => absurd h q) (fun _ => w)) (kf h)
  · exact V_p (fun _ F _ _ w => lv_icmp_ne F.1 F.2.1 hd ht (fun _ => w) (fun q => absurd q h)) (kt h)
theorem V_cmplt {off : Int} {tgt pc2 : Nat} {x y : Int32} (hd : decode M.2.1 pc = .ok (.if_icmp .lt off, 3)) (ht : (pc : Int) + off = (tgt : Int)) (hp : pc + 3 = pc2) (kt : x < y → V X d M tgt lv st S Q) (kf : ¬ x < y → V X d M pc2 lv st S Q) : V X d M pc lv (vI y :: vI x :: st) S Q := by
  subst hp; by_cases h : x < y
  · exact V_p (fun _ F _ _ w => lv_icmp_lt F.1 F.2.1 hd ht (fun _ => w) (fun q => absurd h q)) (kt h)
  · exact V_p (fun _ F _ _ w => lv_icmp_lt F.1 F.2.1 hd ht (fun q => absurd q h) (fun _ => w)) (kf h)
theorem V_cmpge {off : Int} {tgt pc2 : Nat} {x y : Int32} (hd : decode M.2.1 pc = .ok (.if_icmp .ge off, 3)) (ht : (pc : Int) + off = (tgt : Int)) (hp : pc + 3 = pc2) (kt : y ≤ x → V X d M tgt lv st S Q) (kf : ¬ y ≤ x → V X d M pc2 lv st S Q) : V X d M pc lv (vI y :: vI x :: st) S Q := by
  subst hp; by_cases h : y ≤ x
  · exact V_p (fun _ F _ _ w => lv_icmp_ge F.1 F.2.1 hd ht (fun _ => w) (fun q => absurd h q)) (kt h)
  · exact V_p (fun _ F _ _ w => lv_icmp_ge F.1 F.2.1 hd ht (fun q => absurd q h) (fun _ => w)) (kf h)
theorem V_cmpgt {off : Int} {tgt pc2 : Nat} {x y : Int32} (hd : decode M.2.1 pc = .ok (.if_icmp .gt off, 3)) (ht : (pc : Int) + off = (tgt : Int)) (hp : pc + 3 = pc2) (kt : y < x → V X d M tgt lv st S Q) (kf : ¬ y < x → V X d M pc2 lv st S Q) : V X d M pc lv (vI y :: vI x :: st) S Q := by
  subst hp; by_cases h : y < x
  · exact V_p (fun _ F _ _ w => lv_icmp_gt F.1 F.2.1 hd ht (fun _ => w) (fun q => absurd h q)) (kt h)
  · exact V_p (fun _ F _ _ w => lv_icmp_gt F.1 F.2.1 hd ht (fun q => absurd q h) (fun _ => w)) (kf h)
theorem V_cmple {off : Int} {tgt pc2 : Nat} {x y : Int32} (hd : decode M.2.1 pc = .ok (.if_icmp .le off, 3)) (ht : (pc : Int) + off = (tgt : Int)) (hp : pc + 3 = pc2) (kt : x ≤ y → V X d M tgt lv st S Q) (kf : ¬ x ≤ y → V X d M pc2 lv st S Q) : V X d M pc lv (vI y :: vI x :: st) S Q := by
  subst hp; by_cases h : x ≤ y
  · exact V_p (fun _ F _ _ w => lv_icmp_le F.1 F.2.1 hd ht (fun _ => w) (fun q => absurd h q)) (kt h)
  · exact V_p (fun _ F _ _ w => lv_icmp_le F.1 F.2.1 hd ht (fun q => absurd q h) (fun _ => w)) (kf h)
theorem V_ifnull {off : Int} {tgt pc2 : Nat} {r : Nat} (hd : decode M.2.1 pc = .ok (.ifnull off, 3)) (ht : (pc : Int) + off = (tgt : Int)) (hp : pc + 3 = pc2) (kt : r = 0 → V X d M tgt lv st S Q) (kf : ¬ r = 0 → V X d M pc2 lv st S Q) : V X d M pc lv (vR r :: st) S Q := by
  subst hp; by_cases h : r = 0
  · subst h; exact V_p (fun _ F _ _ w => lv_ifnullN F.1 F.2.1 hd ht w) (kt rfl)
  · refine V_p (fun _ F _ _ w => ?_) (kf h)
    have e1 : stc X (vR r :: st) = .ref (ad X r) :: stc X st := by show cv X (vR r) :: stc X st = _; rw [cvR h]
    rw [e1]; exact lv_ifnull F.1 F.2.1 hd w
theorem V_ifnonnull {off : Int} {tgt pc2 : Nat} {r : Nat} (hd : decode M.2.1 pc = .ok (.ifnonnull off, 3)) (ht : (pc : Int) + off = (tgt : Int)) (hp : pc + 3 = pc2) (kt : ¬ r = 0 → V X d M tgt lv st S Q) (kf : r = 0 → V X d M pc2 lv st S Q) : V X d M pc lv (vR r :: st) S Q := by
  subst hp; by_cases h : r = 0
  · subst h; exact V_p (fun _ F _ _ w => lv_ifnonnullN F.1 F.2.1 hd w) (kf rfl)
  · refine V_p (fun _ F _ _ w => ?_) (kt h)
    have e1 : stc X (vR r :: st) = .ref (ad X r) :: stc X st := by show cv X (vR r) :: stc X st = _; rw [cvR h]
    rw [e1]; exact lv_ifnonnull F.1 F.2.1 hd ht w
theorem V_table {dflt lo hi : Int} {offs : Array Int} {len : Nat} {x : Int32} (hd : decode M.2.1 pc = .ok (.tableswitch dflt lo hi offs, len)) (tgts : List Nat) (dt : Nat) (hdt : (pc : Int) + dflt = (dt : Int)) (hz : tgts.length = (hi - lo).toNat + 1) (hts : ∀ j, j < tgts.length → ∃ off, offs[j]? = some off ∧ (pc : Int) + off = ((tgts.getD j 0 : Nat) : Int))
    (kd : (x.toInt < lo ∨ hi < x.toInt) → V X d M dt lv st S Q) (kt : ∀ j, j < tgts.length → x.toInt = lo + j → V X d M (tgts.getD j 0) lv st S Q) : V X d M pc lv (vI x :: st) S Q := by
  by_cases h : x.toInt < lo ∨ hi < x.toInt
  · exact V_p (fun _ F _ _ w => lv_tableOut F.1 F.2.1 hd h hdt w) (kd h)
  · have h1 : ¬ x.toInt < lo := fun q => h (Or.inl q)
    have h2 : ¬ hi < x.toInt := fun q => h (Or.inr q)
    obtain ⟨off, ho, ht⟩ := hts (x.toInt - lo).toNat (by omega)
    exact V_p (fun _ F _ _ w => lv_tableIn F.1 F.2.1 hd h1 h2 ho ht w) (kt (x.toInt - lo).toNat (by omega) (by omega))
/-- a sorted list of locals with one more -/
def stS (i : Nat) (v : AV) : Lv → Lv
  | [] => [(i, v)]
  | (j, w) :: r => if j = i then (i, v) :: r else if i < j then (i, v) :: (j, w) :: r else (j, w) :: stS i v r
def clr (i : Nat) (w : Nat) (lv : Lv) : Lv := lv.filter (fun q => !(q.1 == i) && (!(q.1 + 1 == i && cat q.2 == 2) && !(w == 2 && q.1 == i + 1)))
theorem stS_mem {i : Nat} {v : AV} {q : Nat × AV} : ∀ {l : Lv}, q ∈ stS i v l → q = (i, v) ∨ q ∈ l := by
  intro l
  induction l with
  | nil => intro h; exact Or.inl (List.mem_singleton.mp h)
  | cons y r ih =>
    obtain ⟨j, w⟩ := y
    intro h
    unfold stS at h
    by_cases c : j = i
    · rw [if_pos c] at h
      rcases List.mem_cons.mp h with h | h
      · exact Or.inl h
      · exact Or.inr (List.mem_cons_of_mem _ h)
    · rw [if_neg c] at h
      by_cases c2 : i < j
      · rw [if_pos c2] at h
        rcases List.mem_cons.mp h with h | h
        · exact Or.inl h
        · exact Or.inr h
      · rw [if_neg c2] at h
        rcases List.mem_cons.mp h with h | h
        · exact Or.inr (by rw [h]; exact List.mem_cons_self)
        · rcases ih h with h | h
          · exact Or.inl h
          · exact Or.inr (List.mem_cons_of_mem _ h)
theorem stL_has {i : Nat} {v : AV} {lv2 : Lv} {ls : Array Slot} {l' : List (Nat × Value)} (he : stS i v (clr i (cat v) lv) = lv2)
    (hl' : lv_has ls M.2.2.1 l') (h1 : (i, cv X v) ∈ l') (h2 : ∀ q ∈ lvc X lv, q.1 ≠ i → ¬ (q.1 + 1 = i ∧ q.2.category = 2) → ¬ (cat v = 2 ∧ q.1 = i + 1) → q ∈ l') : lv_has ls M.2.2.1 (lvc X lv2) := by
  refine ⟨hl'.1, hl'.2.1, fun q hq => ?_⟩
  obtain ⟨y, hy, rfl⟩ := List.mem_map.mp hq
  rw [← he] at hy
  rcases stS_mem hy with rfl | hy
  · exact hl'.2.2 _ h1
  · obtain ⟨hy1, hy2⟩ := List.mem_filter.mp hy
    simp only [Bool.and_eq_true, Bool.not_eq_true', beq_eq_false_iff_ne, ne_eq, Bool.and_eq_false_iff] at hy2
    refine hl'.2.2 _ (h2 (y.1, cv X y.2) (List.mem_map.mpr ⟨y, hy1, rfl⟩) hy2.1 ?_ ?_)
    · rintro ⟨a1, a2⟩
      rw [cat_cv] at a2
      rcases hy2.2.1 with z | z
      · exact z a1
      · exact z a2
    · rintro ⟨a1, a2⟩
      rcases hy2.2.2 with z | z
      · exact z a1
      · exact z a2
theorem V_s {pc2 : Nat} {st2 : List AV} {lv2 : Lv}
    (h : ∀ {p : Program} {e : Env} {s : State} {m : MethodId} {args : Array Value} {below : List Frame} {meth : Method} {c : Code} {H : Heap} {locs : List Loc} {R : Room} {cells slots : Nat} {Qf : State → Prop} {ls : Array Slot}, Fix X M p s m meth c → lv_has ls M.2.2.1 (lvc X lv) →
      (∀ ls2 : Array Slot, lv_has ls2 M.2.2.1 (lvc X lv2) → W p (xl X) e R s m args below meth c H locs cells slots Qf (F0 m pc2 ls2 (stc X st2))) → W p (xl X) e R s m args below meth c H locs cells slots Qf (F0 m pc ls (stc X st)))
    (k : V X d M pc2 lv2 st2 S Q) : V X d M pc lv st S Q := by
  obtain ⟨r, S', ⟨h1, h2, h3⟩, q⟩ := k
  refine ⟨r, S', ⟨h1, h2, fun G p e s m args below meth c H locs t0 z0 ls F hH hL ht hz hl => ?_⟩, q⟩
  exact h F hl (fun ls2 hl2 => h3 G p e s m args below meth c H locs t0 z0 ls2 F hH hL ht hz hl2)
theorem flt1 {i : Nat} {l : List (Nat × Value)} {q : Nat × Value} (h : q ∈ l) (h1 : q.1 ≠ i) (h2 : ¬ (q.1 + 1 = i ∧ q.2.category = 2)) : q ∈ l.filter (fun q => !(q.1 == i) && !(q.1 + 1 == i && q.2.category == 2)) := by
  refine List.mem_filter.mpr ⟨h, ?_⟩
  simp only [Bool.and_eq_true, Bool.not_eq_true', beq_eq_false_iff_ne, ne_eq, Bool.and_eq_false_iff]
  refine ⟨h1, ?_⟩
  by_cases c : q.1 + 1 = i
  · exact Or.inr (fun z => h2 ⟨c, z⟩)
  · exact Or.inl c
theorem flt2 {i : Nat} {l : List (Nat × Value)} {q : Nat × Value} (h : q ∈ l) (h1 : q.1 ≠ i) (h2 : ¬ (q.1 + 1 = i ∧ q.2.category = 2)) (h3 : q.1 ≠ i + 1) : q ∈ l.filter (fun q => !(q.1 == i) && (!(q.1 == i + 1) && !(q.1 + 1 == i && q.2.category == 2))) := by
  refine List.mem_filter.mpr ⟨h, ?_⟩
  simp only [Bool.and_eq_true, Bool.not_eq_true', beq_eq_false_iff_ne, ne_eq, Bool.and_eq_false_iff]
  refine ⟨h1, h3, ?_⟩
  by_cases c : q.1 + 1 = i
  · exact Or.inr (fun z => h2 ⟨c, z⟩)
  · exact Or.inl c
theorem V_istore_n {n : Fin 4} {i : Nat} {x : Int32} {pc2 : Nat} {lv2 : Lv} (hd : decode M.2.1 pc = .ok (.istore_n n, 1)) (hi : (n : Nat) = i) (hn : i < M.2.2.1) (hl2 : stS i (vI x) (clr i 1 lv) = lv2) (hp : pc + 1 = pc2) (k : V X d M pc2 lv2 st S Q) : V X d M pc lv (vI x :: st) S Q := by
  subst hp
  exact V_s (fun F hl w => lv_istore_n F.1 F.2.1 hd hi hl hn rfl (fun ls2 hl' => w ls2 (stL_has hl2 hl' List.mem_cons_self (fun q h1 h2 h3 _ => List.mem_cons_of_mem _ (flt1 h1 h2 h3))))) k
theorem V_istore {i : Nat} {x : Int32} {pc2 : Nat} {lv2 : Lv} (hd : decode M.2.1 pc = .ok (.istore i, 2)) (hn : i < M.2.2.1) (hl2 : stS i (vI x) (clr i 1 lv) = lv2) (hp : pc + 2 = pc2) (k : V X d M pc2 lv2 st S Q) : V X d M pc lv (vI x :: st) S Q := by
  subst hp
  exact V_s (fun F hl w => lv_istore F.1 F.2.1 hd hl hn rfl (fun ls2 hl' => w ls2 (stL_has hl2 hl' List.mem_cons_self (fun q h1 h2 h3 _ => List.mem_cons_of_mem _ (flt1 h1 h2 h3))))) k
theorem V_lstore_n {n : Fin 4} {i : Nat} {x : Int64} {pc2 : Nat} {lv2 : Lv} (hd : decode M.2.1 pc = .ok (.lstore_n n, 1)) (hi : (n : Nat) = i) (hn : i + 1 < M.2.2.1) (hl2 : stS i (vL x) (clr i 2 lv) = lv2) (hp : pc + 1 = pc2) (k : V X d M pc2 lv2 st S Q) : V X d M pc lv (vL x :: st) S Q := by
  subst hp
  exact V_s (fun F hl w => lv_lstore_n F.1 F.2.1 hd hi hl hn rfl (fun ls2 hl' => w ls2 (stL_has hl2 hl' List.mem_cons_self (fun q h1 h2 h3 h4 => List.mem_cons_of_mem _ (flt2 h1 h2 h3 (fun z => h4 ⟨rfl, z⟩)))))) k
theorem V_lstore {i : Nat} {x : Int64} {pc2 : Nat} {lv2 : Lv} (hd : decode M.2.1 pc = .ok (.lstore i, 2)) (hn : i + 1 < M.2.2.1) (hl2 : stS i (vL x) (clr i 2 lv) = lv2) (hp : pc + 2 = pc2) (k : V X d M pc2 lv2 st S Q) : V X d M pc lv (vL x :: st) S Q := by
  subst hp
  exact V_s (fun F hl w => lv_lstore F.1 F.2.1 hd hl hn rfl (fun ls2 hl' => w ls2 (stL_has hl2 hl' List.mem_cons_self (fun q h1 h2 h3 h4 => List.mem_cons_of_mem _ (flt2 h1 h2 h3 (fun z => h4 ⟨rfl, z⟩)))))) k
theorem V_astore_n {n : Fin 4} {i : Nat} {x : Nat} {pc2 : Nat} {lv2 : Lv} (hd : decode M.2.1 pc = .ok (.astore_n n, 1)) (hi : (n : Nat) = i) (hn : i < M.2.2.1) (hl2 : stS i (vR x) (clr i 1 lv) = lv2) (hp : pc + 1 = pc2) (k : V X d M pc2 lv2 st S Q) : V X d M pc lv (vR x :: st) S Q := by
  subst hp
  refine V_s (fun F hl w => ?_) k
  by_cases hx : x = 0
  · subst hx
    exact lv_astore_nN F.1 F.2.1 hd hi hl hn rfl (fun ls2 hl' => w ls2 (stL_has hl2 hl' List.mem_cons_self (fun q h1 h2 h3 _ => List.mem_cons_of_mem _ (flt1 h1 h2 h3))))
  · have e1 : stc X (vR x :: st) = .ref (ad X x) :: stc X st := by show cv X (vR x) :: stc X st = _; rw [cvR hx]
    rw [e1]
    exact lv_astore_n F.1 F.2.1 hd hi hl hn rfl (fun ls2 hl' => w ls2 (stL_has hl2 hl' (by rw [cvR hx]; exact List.mem_cons_self) (fun q h1 h2 h3 _ => List.mem_cons_of_mem _ (flt1 h1 h2 h3))))
theorem V_astore {i : Nat} {x : Nat} {pc2 : Nat} {lv2 : Lv} (hd : decode M.2.1 pc = .ok (.astore i, 2)) (hn : i < M.2.2.1) (hl2 : stS i (vR x) (clr i 1 lv) = lv2) (hp : pc + 2 = pc2) (k : V X d M pc2 lv2 st S Q) : V X d M pc lv (vR x :: st) S Q := by
  subst hp
  refine V_s (fun F hl w => ?_) k
  by_cases hx : x = 0
  · subst hx
    exact lv_astoreN F.1 F.2.1 hd hl hn rfl (fun ls2 hl' => w ls2 (stL_has hl2 hl' List.mem_cons_self (fun q h1 h2 h3 _ => List.mem_cons_of_mem _ (flt1 h1 h2 h3))))
  · have e1 : stc X (vR x :: st) = .ref (ad X x) :: stc X st := by show cv X (vR x) :: stc X st = _; rw [cvR hx]
    rw [e1]
    exact lv_astore F.1 F.2.1 hd hl hn rfl (fun ls2 hl' => w ls2 (stL_has hl2 hl' (by rw [cvR hx]; exact List.mem_cons_self) (fun q h1 h2 h3 _ => List.mem_cons_of_mem _ (flt1 h1 h2 h3))))
theorem V_iinc {i : Nat} {n : Int} {x y : Int32} {pc2 : Nat} {lv2 : Lv} (hd : decode M.2.1 pc = .ok (.iinc i n, 3)) (hv : (i, vI x) ∈ lv) (hy : x + Int32.ofInt n = y) (hn : i < M.2.2.1) (hl2 : stS i (vI y) (clr i 1 lv) = lv2) (hp : pc + 3 = pc2) (k : V X d M pc2 lv2 st S Q) : V X d M pc lv st S Q := by
  subst hp
  obtain ⟨j, hj⟩ := List.getElem?_of_mem hv
  refine V_s (fun F hl w => lv_iinc (v := y) F.1 F.2.1 hd hl (k := j) (x := x) ?_ hy hn rfl (fun ls2 hl' => w ls2 (stL_has hl2 hl' List.mem_cons_self (fun q h1 h2 h3 _ => List.mem_cons_of_mem _ (flt1 h1 h2 h3))))) k
  unfold lvc; rw [List.getElem?_map, hj]; rfl
/-- ends -/
theorem V_ireturn {x : Int32} (hd : decode M.2.1 pc = .ok (.ireturn, 1)) (hr : M.2.2.2.1 = some .int) (q : Q (.inl (some (vI x))) S) : V X d M pc lv [vI x] S Q := by
  refine ⟨.inl (some (vI x)), S, ⟨Nat.le_refl _, Nat.le_refl _, fun G p e s m args below meth c H locs t0 z0 ls F hH hL ht hz hl => ?_⟩, q⟩
  have hlocks := F.2.2.2.2.2.1
  exact W_ends (W.iret (v := x) F.1 F.2.1 (by rw [F.2.2.2.1]; exact hr) (fun t ht2 hW => ⟨rfl, by rw [ht2]; exact hH, F.2.2.2.2.2.2.1.trans hW⟩) hL hd hlocks)
theorem V_zreturn {x : Int32} (hd : decode M.2.1 pc = .ok (.ireturn, 1)) (hr : M.2.2.2.1 = some .boolean) (hx : x = 0 ∨ x = 1) (q : Q (.inl (some (vI x))) S) : V X d M pc lv [vI x] S Q := by
  refine ⟨.inl (some (vI x)), S, ⟨Nat.le_refl _, Nat.le_refl _, fun G p e s m args below meth c H locs t0 z0 ls F hH hL ht hz hl => ?_⟩, q⟩
  have hlocks := F.2.2.2.2.2.1
  exact W_ends (W.zret (v := x) (ty := .boolean) F.1 F.2.1 (by rw [F.2.2.2.1]; exact hr) (by rcases hx with rfl | rfl <;> rfl) (fun t ht2 hW => ⟨rfl, by rw [ht2]; exact hH, F.2.2.2.2.2.2.1.trans hW⟩) hL hd hlocks)
theorem V_return (hd : decode M.2.1 pc = .ok (.return_, 1)) (hr : M.2.2.2.1 = none) (q : Q (.inl none) S) : V X d M pc lv [] S Q := by
  refine ⟨.inl none, S, ⟨Nat.le_refl _, Nat.le_refl _, fun G p e s m args below meth c H locs t0 z0 ls F hH hL ht hz hl => ?_⟩, q⟩
  have hlocks := F.2.2.2.2.2.1
  exact W_ends (W.vret F.1 F.2.1 (by rw [F.2.2.2.1]; exact hr) (fun t ht2 hW => ⟨rfl, by rw [ht2]; exact hH, F.2.2.2.2.2.2.1.trans hW⟩) hL hd hlocks)
theorem V_lreturn {x : Int64} (hd : decode M.2.1 pc = .ok (.lreturn, 1)) (hr : M.2.2.2.1 = some .long) (q : Q (.inl (some (vL x))) S) : V X d M pc lv [vL x] S Q := by
  refine ⟨.inl (some (vL x)), S, ⟨Nat.le_refl _, Nat.le_refl _, fun G p e s m args below meth c H locs t0 z0 ls F hH hL ht hz hl => ?_⟩, q⟩
  have hlocks := F.2.2.2.2.2.1
  exact W_ends (W.lret (v := x) F.1 F.2.1 (by rw [F.2.2.2.1]; exact hr) (fun t ht2 hW => ⟨rfl, by rw [ht2]; exact hH, F.2.2.2.2.2.2.1.trans hW⟩) hL hd hlocks)
end FLOW

