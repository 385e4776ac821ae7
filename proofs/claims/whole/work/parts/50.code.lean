/-! THE CODE OF BOTH: pairs of places with what is pending there -/
/-- a pending item: (0, 0, 0, 0) the voice of an each; (1, t, h, ph) a guard: its try, its handlers, its phase (0 block, 1 catch, 2 finally) -/
abbrev Itm : Type := Nat × Nat × Nat × Nat
/-- body, act of the class, act of the reference, pending items, operands, whether inside a statement -/
abbrev Pt : Type := Nat × Nat × Nat × List Itm × Nat × Nat
/-- how many each are pending; how many catches run -/
def ecn : List Itm → Nat
  | [] => 0
  | x :: r => (if x.1 = 0 then 1 else 0) + ecn r
def ccn : List Itm → Nat
  | [] => 0
  | x :: r => (if x.1 = 1 ∧ x.2.2.2 = 1 then 1 else 0) + ccn r
theorem ecn_app : ∀ a b : List Itm, ecn (a ++ b) = ecn a + ecn b := by
  intro a b
  induction a with
  | nil => show ecn b = 0 + ecn b; omega
  | cons x r ih => show _ + ecn (r ++ b) = _ + ecn r + ecn b; rw [ih]; omega
theorem ccn_app : ∀ a b : List Itm, ccn (a ++ b) = ccn a + ccn b := by
  intro a b
  induction a with
  | nil => show ccn b = 0 + ccn b; omega
  | cons x r ih => show _ + ccn (r ++ b) = _ + ccn r + ccn b; rw [ih]; omega
theorem ecn_le : ∀ a : List Itm, ecn a ≤ a.length := by
  intro a
  induction a with
  | nil => exact Nat.le_refl _
  | cons x r ih =>
    show (if x.1 = 0 then 1 else 0) + ecn r ≤ r.length + 1
    by_cases c : x.1 = 0
    · rw [if_pos c]; omega
    · rw [if_neg c]; omega
theorem ccn_le : ∀ a : List Itm, ccn a ≤ a.length := by
  intro a
  induction a with
  | nil => exact Nat.le_refl _
  | cons x r ih =>
    show (if x.1 = 1 ∧ x.2.2.2 = 1 then 1 else 0) + ccn r ≤ r.length + 1
    by_cases c : x.1 = 1 ∧ x.2.2.2 = 1
    · rw [if_pos c]; omega
    · rw [if_neg c]; omega
section CODE
variable (κ : Km) (σ : Rm)
/-- variables of a body, as the reference has them -/
abbrev nvB (b : Nat) : Nat := (aI σ 21 b).toNatClampNeg
/-- a body that is a script (1) or a procedure (0), with so many arguments, alike in both -/
def BdK (s k a : Nat) : Prop := s < 12 ∧ nI s < sI σ 18 ∧ aI σ 19 s = nI k ∧ aI σ 20 s = nI a ∧ a ≤ 4
/-- from the first handler on: the catches of a try, then its end -/
def Chn (W : Pt → Prop) (b : Nat) (L : List Itm) (t h0 : Nat) : List Nat → Nat → Prop
  | [], h => (kI κ 69 h = 43 ∧ ∃ jf, aI σ 27 t = nI jf ∧ W (b, h + 1, jf, L ++ [(1, t, h0, 2)], 0, 0)) ∨ (kI κ 69 h = 44 ∧ aI σ 27 t = -9 ∧ h < 2147483648)
  | c :: cs, h => kI κ 69 h = 41 ∧ ((kI κ 70 h = -1 ∧ aI σ 30 c = -9) ∨ ∃ x, x < 1000000000 ∧ kI κ 70 h = nI x ∧ aI σ 30 c = nI x) ∧ (∃ v, v < nvB σ b ∧ aI σ 31 c = nI v ∧ kI κ 69 (h + 2) = 3 ∧ kI κ 70 (h + 2) = nI v) ∧ (∃ jc, aI σ 32 c = nI jc ∧ W (b, h + 3, jc, L ++ [(1, t, h0, 1)], 0, 0)) ∧ aI σ 33 c = nI (ccn L) ∧ ∃ h', kI κ 70 (h + 1) = nI h' ∧ h < h' ∧ Chn W b L t h0 cs h'
/-- the handlers of a try -/
def Hd (W : Pt → Prop) (b : Nat) (L : List Itm) (t h : Nat) : Prop := ∃ cs : List Nat, cs.Pairwise (· < ·) ∧ (∀ c, c ∈ cs ↔ (nI c < sI σ 34 ∧ c < 1000 ∧ aI σ 45 c = nI t)) ∧ cs.length ≤ 1000 ∧ Chn κ σ W b L t h cs h
def HL (W : Pt → Prop) (b : Nat) (L : List Itm) : Prop := ∀ L0 t h ph r, L = L0 ++ (1, t, h, ph) :: r → t < 1000 ∧ ph ≤ 2 ∧ (ph < 2 → Hd κ σ W b L0 t h)
/-- what stands at a pair of places -/
def Cl (W : Pt → Prop) (b i j : Nat) (L : List Itm) (n s : Nat) : Prop :=
  (s = 1 ∧ kI κ 69 i = 1 ∧ aI σ 13 j = 1 ∧ aI σ 14 j = kI κ 70 i ∧ W (b, i + 1, j + 1, L, n + 1, 1)) ∨
  (s = 1 ∧ kI κ 69 i = 1 ∧ kI κ 70 i = 0 ∧ kI κ 69 (i + 1) = 23 ∧ aI σ 13 j = 16 ∧ aI σ 15 j = 0 ∧ (∃ c, kI κ 70 (i + 1) = nI c ∧ aI σ 14 j = nI c ∧ BdK σ c 1 0) ∧ W (b, i + 2, j + 1, L, n + 1, 1)) ∨
  (s = 1 ∧ kI κ 69 i = 23 ∧ aI σ 13 j = 16 ∧ aI σ 15 j = 1 ∧ 1 ≤ n ∧ (∃ c, kI κ 70 i = nI c ∧ aI σ 14 j = nI c ∧ BdK σ c 1 1) ∧ W (b, i + 1, j + 1, L, n, 1)) ∨
  (s = 1 ∧ kI κ 69 i = 2 ∧ aI σ 13 j = 2 ∧ (∃ v, v < nvB σ b ∧ kI κ 70 i = nI v ∧ aI σ 14 j = nI v) ∧ W (b, i + 1, j + 1, L, n + 1, 1)) ∨
  (s = 1 ∧ kI κ 69 i = 3 ∧ aI σ 13 j = 3 ∧ n = 1 ∧ (∃ v, v < nvB σ b ∧ kI κ 70 i = nI v ∧ aI σ 14 j = nI v) ∧ W (b, i + 1, j + 1, L, 0, 0)) ∨
  (s = 1 ∧ kI κ 69 i = 4 ∧ aI σ 13 j = 22 ∧ n = 1 ∧ W (b, i + 1, j + 1, L, 0, 0)) ∨
  (s = 1 ∧ kI κ 69 i = 5 ∧ aI σ 13 j = 13 ∧ W (b, i + 1, j + 1, L, n + 1, 1)) ∨
  (s = 1 ∧ 1 ≤ n ∧ ((kI κ 69 i = 6 ∧ aI σ 13 j = 11) ∨ (kI κ 69 i = 7 ∧ aI σ 13 j = 12) ∨ (kI κ 69 i = 22 ∧ aI σ 13 j = 14) ∨ (kI κ 69 i = 25 ∧ aI σ 13 j = 15)) ∧ W (b, i + 1, j + 1, L, n, 1)) ∨
  (s = 1 ∧ 2 ≤ n ∧ (∃ k, k < 7 ∧ kI κ 69 i = nI (8 + k) ∧ aI σ 13 j = nI (4 + k)) ∧ W (b, i + 1, j + 1, L, n - 1, 1)) ∨
  (s = 1 ∧ 2 ≤ n ∧ ((kI κ 69 i = 26 ∧ aI σ 13 j = 17) ∨ (kI κ 69 i = 28 ∧ aI σ 13 j = 19) ∨ (kI κ 69 i = 27 ∧ aI σ 13 j = 18 ∧ ∃ k, k < 10 ∧ kI κ 70 i = nI k ∧ aI σ 14 j = nI k)) ∧ W (b, i + 1, j + 1, L, n - 1, 1)) ∨
  (s = 1 ∧ kI κ 69 i = 24 ∧ aI σ 13 j = 20 ∧ (∃ c a, kI κ 70 i = nI c ∧ aI σ 14 j = nI c ∧ BdK σ c 0 a ∧ aI σ 15 j = nI a ∧ a ≤ n ∧ W (b, i + 1, j + 1, L, n - a + 1, 1))) ∨
  (s = 1 ∧ n = 1 ∧ ((kI κ 69 i = 21 ∧ aI σ 13 j = 21) ∨ (kI κ 69 i = 29 ∧ aI σ 13 j = 27)) ∧ W (b, i + 1, j + 1, L, 0, 0)) ∨
  (n = 0 ∧ kI κ 69 i = 15 ∧ aI σ 13 j = 23 ∧ ∃ i2 j2, kI κ 70 i = nI i2 ∧ aI σ 14 j = nI j2 ∧ i < i2 ∧ W (b, i2, j2, L, 0, 0)) ∨
  (s = 1 ∧ n = 1 ∧ kI κ 69 i = 16 ∧ aI σ 13 j = 24 ∧ W (b, i + 1, j + 1, L, 0, 0) ∧ ∃ i2 j2, kI κ 70 i = nI i2 ∧ aI σ 14 j = nI j2 ∧ i < i2 ∧ W (b, i2, j2, L, 0, 0)) ∨
  (n = 0 ∧ kI κ 69 i = 20 ∧ aI σ 13 j = 0 ∧ aI σ 14 j = kI κ 70 i ∧ W (b, i + 1, j + 1, L, 0, 1)) ∨
  (n = 0 ∧ kI κ 69 i = 20 ∧ aI σ 13 j = 0 ∧ aI σ 14 j = kI κ 70 i ∧ kI κ 69 (i + 1) = 15 ∧ nI (i + 1) < kI κ 68 2 ∧ aI σ 13 (j + 1) = 23 ∧ ∃ i2 j2, kI κ 70 (i + 1) = nI i2 ∧ aI σ 14 (j + 1) = nI j2 ∧ W (b, i2, j2, L, 0, 1)) ∨
  (s = 1 ∧ n = 1 ∧ kI κ 69 i = 30 ∧ aI σ 13 j = 31 ∧ aI σ 14 j = nI (12 + ecn L) ∧ W (b, i, j + 1, L ++ [(0, 0, 0, 0)], 0, 1)) ∨
  (s = 1 ∧ n = 0 ∧ kI κ 69 i = 30 ∧ aI σ 13 j = 32 ∧ ∃ L0, L = L0 ++ [(0, 0, 0, 0)] ∧ aI σ 15 j = nI (12 + ecn L0) ∧ (∃ v, v < nvB σ b ∧ aI σ 14 j = nI v ∧ kI κ 69 (i + 1) = 3 ∧ kI κ 70 (i + 1) = nI v) ∧ W (b, i + 2, j + 1, L, 0, 0) ∧ ∃ i2 j2, kI κ 70 i = nI i2 ∧ aI σ 16 j = nI j2 ∧ i < i2 ∧ W (b, i2, j2, L0, 0, 0)) ∨
  (s = 1 ∧ n = 0 ∧ kI κ 69 i = 40 ∧ aI σ 13 j = 28 ∧ ∃ t h, aI σ 14 j = nI t ∧ kI κ 70 i = nI h ∧ i < h ∧ t < 1000 ∧ W (b, i + 1, j + 1, L ++ [(1, t, h, 0)], 0, 0)) ∨
  (n = 0 ∧ kI κ 69 i = 15 ∧ aI σ 13 j = 29 ∧ ∃ L0 t h ph e, L = L0 ++ [(1, t, h, ph)] ∧ ph < 2 ∧ aI σ 14 j = nI t ∧ kI κ 70 i = nI e ∧ i < e ∧ ((kI κ 69 e = 43 ∧ ∃ jf, aI σ 27 t = nI jf ∧ W (b, e + 1, jf, L0 ++ [(1, t, h, 2)], 0, 0)) ∨ (kI κ 69 e = 44 ∧ aI σ 27 t = -9 ∧ ∃ jb, aI σ 28 t = nI jb ∧ W (b, e + 1, jb, L0, 0, 0)))) ∨
  (n = 0 ∧ kI κ 69 i = 45 ∧ aI σ 13 j = 30 ∧ ∃ L0 t h jb, L = L0 ++ [(1, t, h, 2)] ∧ aI σ 14 j = nI t ∧ aI σ 28 t = nI jb ∧ W (b, i + 1, jb, L0, 0, 0)) ∨
  (s = 1 ∧ n = 1 ∧ kI κ 69 i = 46 ∧ aI σ 13 j = 26) ∨
  (s = 1 ∧ n = 1 ∧ kI κ 69 i = 47 ∧ aI σ 13 j = 25 ∧ (∃ k, k < 10 ∧ kI κ 70 i = nI k ∧ aI σ 14 j = nI k) ∧ aI σ 15 j = nI (ccn L) - 1) ∨
  (s = 0 ∧ n = 0 ∧ L = [] ∧ kI κ 69 i = 1 ∧ kI κ 70 i = 0 ∧ kI κ 69 (i + 1) = 46 ∧ nI (i + 1) < kI κ 68 2 ∧ aI σ 13 j = 1 ∧ aI σ 14 j = 0 ∧ aI σ 13 (j + 1) = 26)
def Loc (W : Pt → Prop) (x : Pt) : Prop := x.1 < 12 ∧ x.2.1 + 1 < 20000 ∧ nI x.2.1 < kI κ 68 2 ∧ x.2.2.1 + 1 < 12000 ∧ x.2.2.2.1.length ≤ 24 ∧ x.2.2.2.2.1 ≤ 150 ∧ HL κ σ W x.1 x.2.2.2.1 ∧ Cl κ σ W x.1 x.2.1 x.2.2.1 x.2.2.2.1 x.2.2.2.2.1 x.2.2.2.2.2
/-- good, where some places are taken as good -/
def Good2 (A : Pt → Prop) (x : Pt) : Prop := ∃ W : Pt → Prop, (∀ y, W y → A y ∨ Loc κ σ W y) ∧ W x
def Good1 (A : Pt → Prop) (x : Pt) : Prop := Loc κ σ (Good2 κ σ A) x
end CODE
theorem Chn.mono {κ : Km} {σ : Rm} {W W' : Pt → Prop} (h : ∀ x, W x → W' x) {b : Nat} {L : List Itm} {t h0 : Nat} : ∀ (cs : List Nat) (g : Nat), Chn κ σ W b L t h0 cs g → Chn κ σ W' b L t h0 cs g := by
  intro cs
  induction cs with
  | nil =>
    intro g hg
    rcases hg with ⟨a, jf, b1, b2⟩ | hg
    · exact Or.inl ⟨a, jf, b1, h _ b2⟩
    · exact Or.inr hg
  | cons c cs ih =>
    rintro g ⟨a1, a2, a3, ⟨jc, a4, a5⟩, a6, h', a7, a8, a9⟩
    exact ⟨a1, a2, a3, ⟨jc, a4, h _ a5⟩, a6, h', a7, a8, ih h' a9⟩
theorem Hd.mono {κ : Km} {σ : Rm} {W W' : Pt → Prop} (h : ∀ x, W x → W' x) {b : Nat} {L : List Itm} {t g : Nat} : Hd κ σ W b L t g → Hd κ σ W' b L t g := by
  rintro ⟨cs, a, a2, a3, b⟩
  exact ⟨cs, a, a2, a3, Chn.mono h cs g b⟩
theorem Cl.mono {κ : Km} {σ : Rm} {W W' : Pt → Prop} (h : ∀ x, W x → W' x) {b i j : Nat} {L : List Itm} {n s : Nat} : Cl κ σ W b i j L n s → Cl κ σ W' b i j L n s := by
  rintro (⟨a1, a2, a3, a4, w5⟩ | ⟨a6, a7, a8, a9, a10, a11, a12, w13⟩ | ⟨a14, a15, a16, a17, a18, a19, w20⟩ | ⟨a21, a22, a23, a24, w25⟩ | ⟨a26, a27, a28, a29, a30, w31⟩ | ⟨a32, a33, a34, a35, w36⟩ | ⟨a37, a38, a39, w40⟩ | ⟨a41, a42, a43, w44⟩ | ⟨a45, a46, a47, w48⟩ | ⟨a49, a50, a51, w52⟩ | ⟨a53, a54, a55, ⟨e56, e57, ⟨a58, a59, a60, a61, a62, w63⟩⟩⟩ | ⟨a64, a65, a66, w67⟩ | ⟨a68, a69, a70, ⟨e71, e72, ⟨a73, a74, a75, w76⟩⟩⟩ | ⟨a77, a78, a79, a80, w81, ⟨e82, e83, ⟨a84, a85, a86, w87⟩⟩⟩ | ⟨a88, a89, a90, a91, w92⟩ | ⟨a93, a94, a95, a96, a97, a97b, a98, ⟨e99, e100, ⟨a101, a102, w103⟩⟩⟩ | ⟨a104, a105, a106, a107, a108, w109⟩ | ⟨a110, a111, a112, a113, ⟨e114, ⟨a115, a116, a117, w118, ⟨e119, e120, ⟨a121, a122, a123, w124⟩⟩⟩⟩⟩ | ⟨a125, a126, a127, a128, ⟨e129, e130, ⟨a131, a132, a133, a134, w135⟩⟩⟩ | ⟨a136, a137, a138, ⟨e139, e140, e141, e142, e143, ⟨a144, a145, a146, a147, a148, o149⟩⟩⟩ | ⟨a159, a160, a161, ⟨e162, e163, e164, e165, ⟨a166, a167, a168, w169⟩⟩⟩ | a170 | a171 | a172)
  · exact Or.inl ⟨a1, a2, a3, a4, (h _ w5)⟩
  · exact Or.inr (Or.inl ⟨a6, a7, a8, a9, a10, a11, a12, (h _ w13)⟩)
  · exact Or.inr (Or.inr (Or.inl ⟨a14, a15, a16, a17, a18, a19, (h _ w20)⟩))
  · exact Or.inr (Or.inr (Or.inr (Or.inl ⟨a21, a22, a23, a24, (h _ w25)⟩)))
  · exact Or.inr (Or.inr (Or.inr (Or.inr (Or.inl ⟨a26, a27, a28, a29, a30, (h _ w31)⟩))))
  · exact Or.inr (Or.inr (Or.inr (Or.inr (Or.inr (Or.inl ⟨a32, a33, a34, a35, (h _ w36)⟩)))))
  · exact Or.inr (Or.inr (Or.inr (Or.inr (Or.inr (Or.inr (Or.inl ⟨a37, a38, a39, (h _ w40)⟩))))))
  · exact Or.inr (Or.inr (Or.inr (Or.inr (Or.inr (Or.inr (Or.inr (Or.inl ⟨a41, a42, a43, (h _ w44)⟩)))))))
  · exact Or.inr (Or.inr (Or.inr (Or.inr (Or.inr (Or.inr (Or.inr (Or.inr (Or.inl ⟨a45, a46, a47, (h _ w48)⟩))))))))
  · exact Or.inr (Or.inr (Or.inr (Or.inr (Or.inr (Or.inr (Or.inr (Or.inr (Or.inr (Or.inl ⟨a49, a50, a51, (h _ w52)⟩)))))))))
  · exact Or.inr (Or.inr (Or.inr (Or.inr (Or.inr (Or.inr (Or.inr (Or.inr (Or.inr (Or.inr (Or.inl ⟨a53, a54, a55, ⟨e56, e57, ⟨a58, a59, a60, a61, a62, (h _ w63)⟩⟩⟩))))))))))
  · exact Or.inr (Or.inr (Or.inr (Or.inr (Or.inr (Or.inr (Or.inr (Or.inr (Or.inr (Or.inr (Or.inr (Or.inl ⟨a64, a65, a66, (h _ w67)⟩)))))))))))
  · exact Or.inr (Or.inr (Or.inr (Or.inr (Or.inr (Or.inr (Or.inr (Or.inr (Or.inr (Or.inr (Or.inr (Or.inr (Or.inl ⟨a68, a69, a70, ⟨e71, e72, ⟨a73, a74, a75, (h _ w76)⟩⟩⟩))))))))))))
  · exact Or.inr (Or.inr (Or.inr (Or.inr (Or.inr (Or.inr (Or.inr (Or.inr (Or.inr (Or.inr (Or.inr (Or.inr (Or.inr (Or.inl ⟨a77, a78, a79, a80, (h _ w81), ⟨e82, e83, ⟨a84, a85, a86, (h _ w87)⟩⟩⟩)))))))))))))
  · exact Or.inr (Or.inr (Or.inr (Or.inr (Or.inr (Or.inr (Or.inr (Or.inr (Or.inr (Or.inr (Or.inr (Or.inr (Or.inr (Or.inr (Or.inl ⟨a88, a89, a90, a91, (h _ w92)⟩))))))))))))))
  · exact Or.inr (Or.inr (Or.inr (Or.inr (Or.inr (Or.inr (Or.inr (Or.inr (Or.inr (Or.inr (Or.inr (Or.inr (Or.inr (Or.inr (Or.inr (Or.inl ⟨a93, a94, a95, a96, a97, a97b, a98, ⟨e99, e100, ⟨a101, a102, (h _ w103)⟩⟩⟩)))))))))))))))
  · exact Or.inr (Or.inr (Or.inr (Or.inr (Or.inr (Or.inr (Or.inr (Or.inr (Or.inr (Or.inr (Or.inr (Or.inr (Or.inr (Or.inr (Or.inr (Or.inr (Or.inl ⟨a104, a105, a106, a107, a108, (h _ w109)⟩))))))))))))))))
  · exact Or.inr (Or.inr (Or.inr (Or.inr (Or.inr (Or.inr (Or.inr (Or.inr (Or.inr (Or.inr (Or.inr (Or.inr (Or.inr (Or.inr (Or.inr (Or.inr (Or.inr (Or.inl ⟨a110, a111, a112, a113, ⟨e114, ⟨a115, a116, a117, (h _ w118), ⟨e119, e120, ⟨a121, a122, a123, (h _ w124)⟩⟩⟩⟩⟩)))))))))))))))))
  · exact Or.inr (Or.inr (Or.inr (Or.inr (Or.inr (Or.inr (Or.inr (Or.inr (Or.inr (Or.inr (Or.inr (Or.inr (Or.inr (Or.inr (Or.inr (Or.inr (Or.inr (Or.inr (Or.inl ⟨a125, a126, a127, a128, ⟨e129, e130, ⟨a131, a132, a133, a134, (h _ w135)⟩⟩⟩))))))))))))))))))
  · exact Or.inr (Or.inr (Or.inr (Or.inr (Or.inr (Or.inr (Or.inr (Or.inr (Or.inr (Or.inr (Or.inr (Or.inr (Or.inr (Or.inr (Or.inr (Or.inr (Or.inr (Or.inr (Or.inr (Or.inl ⟨a136, a137, a138, ⟨e139, e140, e141, e142, e143, ⟨a144, a145, a146, a147, a148, (Or.elim o149 (fun ⟨a150, ⟨e151, ⟨a152, w153⟩⟩⟩ => Or.inl ⟨a150, ⟨e151, ⟨a152, (h _ w153)⟩⟩⟩) (fun ⟨a154, a155, ⟨e156, ⟨a157, w158⟩⟩⟩ => Or.inr ⟨a154, a155, ⟨e156, ⟨a157, (h _ w158)⟩⟩⟩))⟩⟩⟩)))))))))))))))))))
  · exact Or.inr (Or.inr (Or.inr (Or.inr (Or.inr (Or.inr (Or.inr (Or.inr (Or.inr (Or.inr (Or.inr (Or.inr (Or.inr (Or.inr (Or.inr (Or.inr (Or.inr (Or.inr (Or.inr (Or.inr (Or.inl ⟨a159, a160, a161, ⟨e162, e163, e164, e165, ⟨a166, a167, a168, (h _ w169)⟩⟩⟩))))))))))))))))))))
  · exact Or.inr (Or.inr (Or.inr (Or.inr (Or.inr (Or.inr (Or.inr (Or.inr (Or.inr (Or.inr (Or.inr (Or.inr (Or.inr (Or.inr (Or.inr (Or.inr (Or.inr (Or.inr (Or.inr (Or.inr (Or.inr (Or.inl a170)))))))))))))))))))))
  · exact Or.inr (Or.inr (Or.inr (Or.inr (Or.inr (Or.inr (Or.inr (Or.inr (Or.inr (Or.inr (Or.inr (Or.inr (Or.inr (Or.inr (Or.inr (Or.inr (Or.inr (Or.inr (Or.inr (Or.inr (Or.inr (Or.inr (Or.inl a171))))))))))))))))))))))
  · exact Or.inr (Or.inr (Or.inr (Or.inr (Or.inr (Or.inr (Or.inr (Or.inr (Or.inr (Or.inr (Or.inr (Or.inr (Or.inr (Or.inr (Or.inr (Or.inr (Or.inr (Or.inr (Or.inr (Or.inr (Or.inr (Or.inr (Or.inr (a172)))))))))))))))))))))))
theorem HL.mono {κ : Km} {σ : Rm} {W W' : Pt → Prop} (h : ∀ x, W x → W' x) {b : Nat} {L : List Itm} (g : HL κ σ W b L) : HL κ σ W' b L := fun L0 t h0 ph r e => ⟨(g L0 t h0 ph r e).1, (g L0 t h0 ph r e).2.1, fun hp => ((g L0 t h0 ph r e).2.2 hp).mono h⟩
theorem Loc.mono {κ : Km} {σ : Rm} {W W' : Pt → Prop} (h : ∀ x, W x → W' x) {x : Pt} (g : Loc κ σ W x) : Loc κ σ W' x := ⟨g.1, g.2.1, g.2.2.1, g.2.2.2.1, g.2.2.2.2.1, g.2.2.2.2.2.1, g.2.2.2.2.2.2.1.mono h, g.2.2.2.2.2.2.2.mono h⟩
theorem Good2.un {κ : Km} {σ : Rm} {A : Pt → Prop} {x : Pt} (h : Good2 κ σ A x) : A x ∨ Good1 κ σ A x := by
  obtain ⟨W, h1, h2⟩ := h
  rcases h1 x h2 with c | c
  · exact Or.inl c
  · exact Or.inr (c.mono (fun y hy => ⟨W, h1, hy⟩))
theorem Good2.of {κ : Km} {σ : Rm} {A : Pt → Prop} {x : Pt} (h : A x) : Good2 κ σ A x := ⟨A, fun _ hy => Or.inl hy, h⟩
theorem Good1.two {κ : Km} {σ : Rm} {A : Pt → Prop} {x : Pt} (h : Good1 κ σ A x) : Good2 κ σ A x := by
  refine ⟨fun y => Good2 κ σ A y ∨ y = x, fun y hy => ?_, Or.inr rfl⟩
  have mo : ∀ z, Good2 κ σ A z → Good2 κ σ A z ∨ z = x := fun z hz => Or.inl hz
  rcases hy with hy | rfl
  · rcases hy.un with c | c
    · exact Or.inl c
    · exact Or.inr (Loc.mono mo c)
  · exact Or.inr (Loc.mono mo h)
theorem Good2.weak {κ : Km} {σ : Rm} {A A' : Pt → Prop} (ha : ∀ y, A y → A' y) {x : Pt} (h : Good2 κ σ A x) : Good2 κ σ A' x := by
  obtain ⟨W, h1, h2⟩ := h
  exact ⟨W, fun y hy => (h1 y hy).elim (fun z => Or.inl (ha y z)) Or.inr, h2⟩
/-- a loop: its head is taken as good inside -/
theorem Good1.loop {κ : Km} {σ : Rm} {A : Pt → Prop} {x : Pt} (h : Good1 κ σ (fun y => A y ∨ y = x) x) : Good2 κ σ A x := by
  refine ⟨Good2 κ σ (fun y => A y ∨ y = x), fun y hy => ?_, h.two⟩
  rcases hy.un with (c | rfl) | c
  · exact Or.inl c
  · exact Or.inr h
  · exact Or.inr c
theorem Good2.loc {κ : Km} {σ : Rm} {x : Pt} (h : Good2 κ σ (fun _ => False) x) : Loc κ σ (Good2 κ σ (fun _ => False)) x := h.un.resolve_left id
