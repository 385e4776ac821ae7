/-! the law's start: the Statement gives Good -/
def nar : Cond := Jvm.Cond.and given_1 narrow_1
theorem nar_ps {ws : List Cond} (ps : List Nat) (h : ws = ps.filterMap (fun i => (flatC nar)[i]?)) {a : Array Value} {s : State} (hn : nar.before a s = true) : ∀ w ∈ ws, w.before a s = true := fun w hw => flat_of_before _ hn w (mem_ps ps h w hw)
def tmS (i : Nat) : Term := Term.string (strT.getD i ("", 0, "")).1 (strT.getD i ("", 0, "")).2.1
def tmV (i : Nat) : Term := Term.field (tmS i) "java/lang/String" "value" "[B"
def nEx : List Cond := (List.range 25).map (fun i => Cond.exactly (tmS i) "java/lang/String")
def nCo : List Cond := (List.range 25).map (fun i => Cond.eq (.field (tmS i) "java/lang/String" "coder" "B") (.int 0))
def nAr : List Cond := (List.range 25).map (fun i => Cond.arrayOf (tmV i) .byte)
def nLe : List Cond := (List.range 25).map (fun i => Cond.eq (.length (tmV i)) (.int (Int32.ofNat (strL.getD i 0))))
def nEl : List Cond := (List.range 25).flatMap (fun i => (List.range (strL.getD i 0)).map (fun j => Cond.eq (.elem (tmV i) (.int (Int32.ofNat j))) (.int ((strB.getD i []).getD j 0))))
def nNe : List Cond := (List.range 25).flatMap (fun i => (List.range i).map (fun j => Cond.not (Cond.eq (tmS j) (tmS i))))
theorem nEx_in {a : Array Value} {s : State} (hn : nar.before a s = true) : ∀ w ∈ nEx, w.before a s = true := nar_ps [57, 182, 201, 212, 221, 231, 244, 259, 273, 290, 310, 329, 350, 370, 392, 413, 438, 464, 490, 516, 543, 571, 598, 629, 660] (by decide +kernel) hn
theorem nCo_in {a : Array Value} {s : State} (hn : nar.before a s = true) : ∀ w ∈ nCo, w.before a s = true := nar_ps [58, 183, 202, 213, 222, 232, 245, 260, 274, 291, 311, 330, 351, 371, 393, 414, 439, 465, 491, 517, 544, 572, 599, 630, 661] (by decide +kernel) hn
theorem nAr_in {a : Array Value} {s : State} (hn : nar.before a s = true) : ∀ w ∈ nAr, w.before a s = true := nar_ps [59, 184, 203, 214, 223, 233, 246, 261, 275, 292, 312, 331, 352, 372, 394, 415, 440, 466, 492, 518, 545, 573, 600, 631, 662] (by decide +kernel) hn
theorem nLe_in {a : Array Value} {s : State} (hn : nar.before a s = true) : ∀ w ∈ nLe, w.before a s = true := nar_ps [60, 185, 204, 215, 224, 234, 247, 262, 276, 293, 313, 332, 353, 373, 395, 416, 441, 467, 493, 519, 546, 574, 601, 632, 663] (by decide +kernel) hn
theorem nEl_in {a : Array Value} {s : State} (hn : nar.before a s = true) : ∀ w ∈ nEl, w.before a s = true := nar_ps [61, 62, 63, 64, 65, 66, 67, 68, 69, 70, 71, 72, 73, 74, 75, 76, 77, 78, 79, 80, 81, 82, 83, 84, 85, 86, 87, 88, 89, 90, 91, 92, 93, 94, 95, 96, 97, 98, 99, 100, 101, 102, 103, 104, 105, 106, 107, 108, 109, 110, 111, 112, 113, 114, 115, 116, 117, 118, 119, 120, 121, 122, 123, 124, 125, 126, 127, 128, 129, 130, 131, 132, 133, 134, 135, 136, 137, 138, 139, 140, 141, 142, 143, 144, 145, 146, 147, 148, 149, 150, 151, 152, 153, 154, 155, 156, 157, 158, 159, 160, 161, 162, 163, 164, 165, 166, 167, 168, 169, 170, 171, 172, 173, 174, 175, 176, 177, 178, 179, 180, 181, 186, 187, 188, 189, 190, 191, 192, 193, 194, 195, 196, 197, 198, 199, 205, 206, 207, 208, 209, 216, 217, 225, 226, 235, 236, 237, 238, 248, 249, 250, 251, 252, 263, 264, 265, 277, 278, 279, 280, 281, 294, 295, 296, 297, 298, 299, 300, 314, 315, 316, 317, 318, 333, 334, 335, 336, 337, 338, 354, 355, 356, 357, 374, 375, 376, 377, 378, 396, 397, 398, 417, 418, 419, 420, 421, 422, 442, 443, 444, 445, 446, 447, 468, 469, 470, 471, 472, 494, 495, 496, 497, 520, 521, 522, 523, 547, 548, 549, 550, 575, 576, 602, 603, 604, 605, 606, 633, 634, 635, 636, 664, 665] (by decide +kernel) hn
theorem nNe_in {a : Array Value} {s : State} (hn : nar.before a s = true) : ∀ w ∈ nNe, w.before a s = true := nar_ps [200, 210, 211, 218, 219, 220, 227, 228, 229, 230, 239, 240, 241, 242, 243, 253, 254, 255, 256, 257, 258, 266, 267, 268, 269, 270, 271, 272, 282, 283, 284, 285, 286, 287, 288, 289, 301, 302, 303, 304, 305, 306, 307, 308, 309, 319, 320, 321, 322, 323, 324, 325, 326, 327, 328, 339, 340, 341, 342, 343, 344, 345, 346, 347, 348, 349, 358, 359, 360, 361, 362, 363, 364, 365, 366, 367, 368, 369, 379, 380, 381, 382, 383, 384, 385, 386, 387, 388, 389, 390, 391, 399, 400, 401, 402, 403, 404, 405, 406, 407, 408, 409, 410, 411, 412, 423, 424, 425, 426, 427, 428, 429, 430, 431, 432, 433, 434, 435, 436, 437, 448, 449, 450, 451, 452, 453, 454, 455, 456, 457, 458, 459, 460, 461, 462, 463, 473, 474, 475, 476, 477, 478, 479, 480, 481, 482, 483, 484, 485, 486, 487, 488, 489, 498, 499, 500, 501, 502, 503, 504, 505, 506, 507, 508, 509, 510, 511, 512, 513, 514, 515, 524, 525, 526, 527, 528, 529, 530, 531, 532, 533, 534, 535, 536, 537, 538, 539, 540, 541, 542, 551, 552, 553, 554, 555, 556, 557, 558, 559, 560, 561, 562, 563, 564, 565, 566, 567, 568, 569, 570, 577, 578, 579, 580, 581, 582, 583, 584, 585, 586, 587, 588, 589, 590, 591, 592, 593, 594, 595, 596, 597, 607, 608, 609, 610, 611, 612, 613, 614, 615, 616, 617, 618, 619, 620, 621, 622, 623, 624, 625, 626, 627, 628, 637, 638, 639, 640, 641, 642, 643, 644, 645, 646, 647, 648, 649, 650, 651, 652, 653, 654, 655, 656, 657, 658, 659, 666, 667, 668, 669, 670, 671, 672, 673, 674, 675, 676, 677, 678, 679, 680, 681, 682, 683, 684, 685, 686, 687, 688, 689] (by decide +kernel) hn
theorem n_compact {a : Array Value} {s : State} (hn : nar.before a s = true) : (Jvm.Cond.eq (Jvm.Term.static "java/lang/String" "COMPACT_STRINGS" "Z") (Jvm.Term.int (1 : Int32))).before a s = true := nar_ps (ws := [Jvm.Cond.eq (Jvm.Term.static "java/lang/String" "COMPACT_STRINGS" "Z") (Jvm.Term.int (1 : Int32))]) [4] (by decide +kernel) hn _ (List.mem_singleton.mpr rfl)
theorem n_sio {a : Array Value} {s : State} (hn : nar.before a s = true) : (Jvm.Cond.isRef (Jvm.Term.static "jdk/internal/util/Preconditions" "SIOOBE_FORMATTER" "Ljava/util/function/BiFunction;")).before a s = true := nar_ps (ws := [Jvm.Cond.isRef (Jvm.Term.static "jdk/internal/util/Preconditions" "SIOOBE_FORMATTER" "Ljava/util/function/BiFunction;")]) [5] (by decide +kernel) hn _ (List.mem_singleton.mpr rfl)
theorem n_nca {a : Array Value} {s : State} (hn : nar.before a s = true) : (Jvm.Cond.arrayOf (Jvm.Term.static "StoryRound$Voice" "NO_CELLS" "[I") Jvm.ClassFile.FieldType.int).before a s = true := nar_ps (ws := [Jvm.Cond.arrayOf (Jvm.Term.static "StoryRound$Voice" "NO_CELLS" "[I") Jvm.ClassFile.FieldType.int]) [10] (by decide +kernel) hn _ (List.mem_singleton.mpr rfl)
theorem n_ncl {a : Array Value} {s : State} (hn : nar.before a s = true) : (Jvm.Cond.eq (Jvm.Term.length (Jvm.Term.static "StoryRound$Voice" "NO_CELLS" "[I")) (Jvm.Term.int (0 : Int32))).before a s = true := nar_ps (ws := [Jvm.Cond.eq (Jvm.Term.length (Jvm.Term.static "StoryRound$Voice" "NO_CELLS" "[I")) (Jvm.Term.int (0 : Int32))]) [11] (by decide +kernel) hn _ (List.mem_singleton.mpr rfl)
theorem n_una {a : Array Value} {s : State} (hn : nar.before a s = true) : (Jvm.Cond.isRef (Jvm.Term.static "java/lang/Throwable" "UNASSIGNED_STACK" "[Ljava/lang/StackTraceElement;")).before a s = true := nar_ps (ws := [Jvm.Cond.isRef (Jvm.Term.static "java/lang/Throwable" "UNASSIGNED_STACK" "[Ljava/lang/StackTraceElement;")]) [12] (by decide +kernel) hn _ (List.mem_singleton.mpr rfl)
theorem n_sup {a : Array Value} {s : State} (hn : nar.before a s = true) : (Jvm.Cond.isRef (Jvm.Term.static "java/lang/Throwable" "SUPPRESSED_SENTINEL" "Ljava/util/List;")).before a s = true := nar_ps (ws := [Jvm.Cond.isRef (Jvm.Term.static "java/lang/Throwable" "SUPPRESSED_SENTINEL" "Ljava/util/List;")]) [13] (by decide +kernel) hn _ (List.mem_singleton.mpr rfl)
theorem ls_compact : Cond.laysStatic "java/lang/String" "COMPACT_STRINGS" "Z" ∈ lw_tbl := tb_1 (List.mem_of_getElem? (i := 105) (rfl))
theorem ls_sio : Cond.laysStatic "jdk/internal/util/Preconditions" "SIOOBE_FORMATTER" "Ljava/util/function/BiFunction;" ∈ lw_tbl := tb_1 (List.mem_of_getElem? (i := 121) (rfl))
theorem ls_nc : Cond.laysStatic "StoryRound$Voice" "NO_CELLS" "[I" ∈ lw_tbl := tb_4 (List.mem_of_getElem? (i := 120) (rfl))
theorem ls_una : Cond.laysStatic "java/lang/Throwable" "UNASSIGNED_STACK" "[Ljava/lang/StackTraceElement;" ∈ lw_tbl := tb_6 (List.mem_of_getElem? (i := 196) (rfl))
theorem ls_sup : Cond.laysStatic "java/lang/Throwable" "SUPPRESSED_SENTINEL" "Ljava/util/List;" ∈ lw_tbl := tb_6 (List.mem_of_getElem? (i := 198) (rfl))
def nSr : List Cond := (List.range 25).map (fun i => Cond.stringRef (strT.getD i ("", 0, "")).1 (strT.getD i ("", 0, "")).2.1 (strT.getD i ("", 0, "")).2.2)
theorem nSr_in : ∀ w ∈ nSr, w ∈ lw_tbl := mem_ps [236, 600, 1579, 1580, 1581, 1582, 1583, 1584, 1585, 1586, 1587, 1588, 1589, 1590, 1591, 1592, 1593, 1594, 1595, 1596, 1597, 1598, 1599, 1600, 1601] (by decide +kernel)
theorem aK_prim {s : State} {args : Array Value} {ty : FieldType} (h : (Cond.arrayClass ty).before args s = true) : ∃ cA : ClassId, ArrOfT s cA ty ∧ s.vm.findClass ("[" ++ ty.toString) = some cA := by
  obtain ⟨cA, kA, comp, h1, h2, h3⟩ := Cond.arrayClass_spec h
  exact ⟨cA, fun n z => ⟨fun k h => (by cases h), kA, h2, comp, h3⟩, h1⟩
theorem aK_obj {s : State} {args : Array Value} {n : String} (h : (Cond.arrayOver (.object n)).before args s = true) : ∃ cA : ClassId, ArrOfT s cA (.object n) ∧ va_RA s cA (.object n) := by
  obtain ⟨comp, c, k, h1, -, h3, h4, h5⟩ := Cond.arrayOver_spec h
  exact ⟨c, fun _ _ => ⟨fun k h => (by cases h), k, h3, comp, h4⟩, k, comp, h3, h4, h1, h5⟩
theorem aK_arr {s : State} {args : Array Value} (h : (Cond.arrayOver (.array .int)).before args s = true) : ∃ cA : ClassId, ArrOfT s cA (.array .int) ∧ va_RA s cA (.array .int) := by
  obtain ⟨comp, c, k, h1, -, h3, h4, h5⟩ := arrayOverA_spec h
  exact ⟨c, fun _ _ => ⟨fun k h => (by cases h), k, h3, comp, h4⟩, h5⟩
theorem st_ref {s : State} {args : Array Value} {C n d : String} (hr : (Cond.isRef (.static C n d)).before args s = true) (hl : (Cond.laysStatic C n d).before args s = true) (hi : (Cond.initialized C).before args s = true) {A : Nat → Prop} (hA : ∀ a : Nat, a < s.heap.size → ¬ A a) : ∃ u : Nat, va_Z C n d .null A s s.heap ∨ va_Z C n d (.ref u) A s s.heap := by
  obtain ⟨v, hv, hvr⟩ := Cond.isRef_spec hr
  cases v with
  | null => exact ⟨0, Or.inl (va_Zof hl hi hv hA)⟩
  | ref u => exact ⟨u, Or.inr (va_Zof hl hi hv hA)⟩
  | _ => cases hvr
theorem mem_r25 {i : Nat} (h : i < 25) : i ∈ List.range 25 := List.mem_range.mpr h
theorem start_texts {s : State} {args : Array Value} (hn : nar.before args s = true) (A : Nat → Prop) (hA : ∀ a : Nat, a < s.heap.size → ¬ A a) : ∃ adK adV : Nat → Nat, vk_S 25 strL strB adK adV A s s.heap ∧ ∀ i : Nat, i < 25 → (tmS i).eval args s none [] s = some (.ref (adK i)) := by
  refine vk_Sof (tm := tmS) (fun i hi => ?_) (fun i hi => nEx_in hn _ (List.mem_map.mpr ⟨i, mem_r25 hi, rfl⟩)) (fun i hi => nCo_in hn _ (List.mem_map.mpr ⟨i, mem_r25 hi, rfl⟩)) (fun i hi => nAr_in hn _ (List.mem_map.mpr ⟨i, mem_r25 hi, rfl⟩)) (fun i hi => nLe_in hn _ (List.mem_map.mpr ⟨i, mem_r25 hi, rfl⟩)) (fun i hi j hj => nEl_in hn _ (List.mem_flatMap.mpr ⟨i, mem_r25 hi, List.mem_map.mpr ⟨j, List.mem_range.mpr hj, rfl⟩⟩)) (fun i j hi hj hij => ?_) hA
  · have h2 : ∀ i : Fin 25, strL.getD i.1 0 < 2 ^ 31 := by decide
    exact h2 ⟨i, hi⟩
  · by_cases h : i < j
    · exact Or.inl (nNe_in hn _ (List.mem_flatMap.mpr ⟨j, mem_r25 hj, List.mem_map.mpr ⟨i, List.mem_range.mpr h, rfl⟩⟩))
    · exact Or.inr (nNe_in hn _ (List.mem_flatMap.mpr ⟨i, mem_r25 hi, List.mem_map.mpr ⟨j, List.mem_range.mpr (by omega), rfl⟩⟩))
/-- the fourteen classes -/
theorem start_classes {s : State} {args : Array Value} (hts : ∀ w ∈ lw_tbl, w.before args s = true) : ∃ (C : Nat → ClassId) (I : Nat → Nat → Nat), ∀ (c : Nat) (q : vw_C), kcl[c]? = some q → u_Kn s q.1 q.2.1 q.2.2 (C c) (I c) := by
  have h : ∀ c : Nat, ∃ q : ClassId × (Nat → Nat), ∀ z : vw_C, kcl[c]? = some z → u_Kn s z.1 z.2.1 z.2.2 q.1 q.2 := by
    intro c
    by_cases hc : c < 14
    · have h2 : ∃ (cC : ClassId) (iS : Nat → Nat), u_Kn s (kcl.getD c ("", TX0, 0)).1 (kcl.getD c ("", TX0, 0)).2.1 (kcl.getD c ("", TX0, 0)).2.2 cC iS := by
        have h3 : c = 0 ∨ c = 1 ∨ c = 2 ∨ c = 3 ∨ c = 4 ∨ c = 5 ∨ c = 6 ∨ c = 7 ∨ c = 8 ∨ c = 9 ∨ c = 10 ∨ c = 11 ∨ c = 12 ∨ c = 13 := by omega
        rcases h3 with rfl | rfl | rfl | rfl | rfl | rfl | rfl | rfl | rfl | rfl | rfl | rfl | rfl | rfl
        · exact u_known hts inX0 (hts _ it_0)
        · exact u_known hts inX1 (hts _ it_1)
        · exact u_known hts inX2 (hts _ it_2)
        · exact u_known hts inX3 (hts _ it_3)
        · exact u_known hts inX4 (hts _ it_4)
        · exact u_known hts inX5 (hts _ it_5)
        · exact u_known hts inX6 (hts _ it_6)
        · exact u_known hts inX7 (hts _ it_7)
        · exact u_known hts inX8 (hts _ it_8)
        · exact u_known hts inX9 (hts _ it_9)
        · exact u_known hts inX10 (hts _ it_10)
        · exact u_known hts inX11 (hts _ it_11)
        · exact u_known hts inX12 (hts _ it_12)
        · exact u_known hts inX13 (hts _ it_13)
      obtain ⟨cC, iS, h4⟩ := h2
      refine ⟨(cC, iS), fun z hz => ?_⟩
      have e : kcl.getD c ("", TX0, 0) = z := by rw [List.getD_eq_getElem?_getD, hz]; rfl
      rw [← e]; exact h4
    · refine ⟨(0, fun _ => 0), fun z hz => ?_⟩
      rw [List.getElem?_eq_none (by show 14 ≤ c; omega)] at hz
      cases hz
  exact ⟨fun c => (Classical.choose (h c)).1, fun c => (Classical.choose (h c)).2, fun c q hq => Classical.choose_spec (h c) q hq⟩
theorem start_arrays {s : State} {args : Array Value} (hts : ∀ w ∈ lw_tbl, w.before args s = true) : ∃ A : Nat → ClassId, ∀ k : Nat, 20 ≤ k → k < 28 → ArrOfT s (A k) (kel k) ∧ va_RA s (A k) (kel k) := by
  have h : ∀ k : Nat, ∃ c : ClassId, 20 ≤ k → k < 28 → ArrOfT s c (kel k) ∧ va_RA s c (kel k) := by
    intro k
    by_cases hk : 20 ≤ k ∧ k < 28
    · have h3 : k = 20 ∨ k = 21 ∨ k = 22 ∨ k = 23 ∨ k = 24 ∨ k = 25 ∨ k = 26 ∨ k = 27 := by omega
      rcases h3 with rfl | rfl | rfl | rfl | rfl | rfl | rfl | rfl
      · obtain ⟨c, h1, h2⟩ := aK_prim (hts _ ac_20); exact ⟨c, fun _ _ => ⟨h1, h2⟩⟩
      · obtain ⟨c, h1, h2⟩ := aK_prim (hts _ ac_21); exact ⟨c, fun _ _ => ⟨h1, h2⟩⟩
      · obtain ⟨c, h1, h2⟩ := aK_prim (hts _ ac_22); exact ⟨c, fun _ _ => ⟨h1, h2⟩⟩
      · obtain ⟨c, h1, h2⟩ := aK_prim (hts _ ac_23); exact ⟨c, fun _ _ => ⟨h1, h2⟩⟩
      · obtain ⟨c, h1⟩ := aK_obj (hts _ ao_24); exact ⟨c, fun _ _ => h1⟩
      · obtain ⟨c, h1⟩ := aK_obj (hts _ ao_25); exact ⟨c, fun _ _ => h1⟩
      · obtain ⟨c, h1⟩ := aK_arr (hts _ ao_26); exact ⟨c, fun _ _ => h1⟩
      · obtain ⟨c, h1⟩ := aK_obj (hts _ ao_27); exact ⟨c, fun _ _ => h1⟩
    · exact ⟨0, fun a b => absurd ⟨a, b⟩ hk⟩
  exact ⟨fun k => Classical.choose (h k), fun k a b => Classical.choose_spec (h k) a b⟩
/-- the addresses below 64 -/
def sxs (b : Nat) (adK adV : Nat → Nat) (t27 u1 u2 u3 : Nat) (a : Nat) : Nat := if a = 1 then b else if 2 ≤ a ∧ a < 27 then adK (a - 2) else if a = 27 then t27 else if 28 ≤ a ∧ a < 53 then adV (a - 28) else if a = 53 then u1 else if a = 54 then u2 else if a = 55 then u3 else b
theorem sxs_K {b t27 u1 u2 u3 i : Nat} {adK adV : Nat → Nat} (h : i < 25) : sxs b adK adV t27 u1 u2 u3 (i + 2) = adK i := by
  unfold sxs; rw [if_neg (by omega), if_pos (by omega)]; rfl
theorem sxs_V {b t27 u1 u2 u3 i : Nat} {adK adV : Nat → Nat} (h : i < 25) : sxs b adK adV t27 u1 u2 u3 (i + 28) = adV i := by
  unfold sxs; rw [if_neg (by omega), if_neg (by omega), if_neg (by omega), if_pos (by omega)]; rfl
/-- Good, at the law's start -/
theorem start_good (l : Launch) {s : State} {b L : Nat} {fx : Nat → Int32} (hts : ∀ w ∈ lw_tbl, w.before #[Value.ref b] s = true) (hX : va_X b L fx s s.heap) (hb : b < s.heap.size) (hn : nar.before #[Value.ref b] s = true) :
    ∃ X : Cx, Good X ∧ xl X = l ∧ x0 X = s ∧ xb X = b ∧ xL X = L ∧ xf X = fx ∧ xs X 1 = b := by
  obtain ⟨C, I, hC⟩ := start_classes hts
  obtain ⟨A, hAr⟩ := start_arrays hts
  have hfr : ∀ a : Nat, a < s.heap.size → ¬ (s.heap.size ≤ a) := fun a h => Nat.not_le.mpr h
  obtain ⟨adK, adV, hS, hev⟩ := start_texts hn (fun q => s.heap.size ≤ q) hfr
  obtain ⟨t27, ht27, hT27⟩ := va_Tof (N := 0) (f := fun _ => .int 0) (A := fun q => s.heap.size ≤ q) (by decide) (n_nca hn) (va_eqt (n_ncl hn)) (fun j hj => absurd hj (Nat.not_lt_zero _)) hfr
  obtain ⟨u1, hu1⟩ := st_ref (n_una hn) (hts _ ls_una) (hts _ ii_22) (A := fun q => s.heap.size ≤ q) hfr
  obtain ⟨u2, hu2⟩ := st_ref (n_sup hn) (hts _ ls_sup) (hts _ ii_22) (A := fun q => s.heap.size ≤ q) hfr
  obtain ⟨u3, hu3⟩ := st_ref (n_sio hn) (hts _ ls_sio) (hts _ ii_19) (A := fun q => s.heap.size ≤ q) hfr
  have hlt : ∀ a : Nat, a < 53 → sxs b adK adV t27 u1 u2 u3 a < s.heap.size := by
    intro a ha
    unfold sxs
    by_cases c1 : a = 1
    · rw [if_pos c1]; exact hb
    rw [if_neg c1]
    by_cases c2 : 2 ≤ a ∧ a < 27
    · rw [if_pos c2]
      obtain ⟨cell, q, -⟩ := (hS.1 (a - 2) (by omega)).1
      exact (Array.getElem?_eq_some_iff.mp q).1
    rw [if_neg c2]
    by_cases c3 : a = 27
    · rw [if_pos c3]
      obtain ⟨cell, q, -⟩ := hT27
      exact (Array.getElem?_eq_some_iff.mp q).1
    rw [if_neg c3]
    by_cases c4 : 28 ≤ a ∧ a < 53
    · rw [if_pos c4]
      obtain ⟨cell, q, -⟩ := (hS.1 (a - 28) (by omega)).2.2.2
      exact (Array.getElem?_eq_some_iff.mp q).1
    · rw [if_neg c4, if_neg (by omega), if_neg (by omega), if_neg (by omega)]; exact hb
  refine ⟨(l, s, b, C, I, A, sxs b adK adV t27 u1 u2 u3, L, fx), ⟨hts, ⟨hC, ?_⟩, hn, hlt, hX, va_Zof (hts _ ls_nc) (hts _ ii_10) ht27 hfr, hT27, ?_, ?_, hu1, hu2, va_Zof (hts _ ls_compact) (hts _ ii_17) (va_eqt (n_compact hn)) hfr, hu3⟩, rfl, rfl, rfl, rfl, rfl, rfl⟩
  · intro k q hq
    have h8 : k < 8 := by
      apply Nat.lt_of_not_le
      intro h
      rw [List.getElem?_eq_none (by exact h)] at hq
      cases hq
    have h3 : k = 0 ∨ k = 1 ∨ k = 2 ∨ k = 3 ∨ k = 4 ∨ k = 5 ∨ k = 6 ∨ k = 7 := by omega
    rcases h3 with rfl | rfl | rfl | rfl | rfl | rfl | rfl | rfl
    · cases hq; exact hAr 20 (by decide) (by decide)
    · cases hq; exact hAr 21 (by decide) (by decide)
    · cases hq; exact hAr 22 (by decide) (by decide)
    · cases hq; exact hAr 23 (by decide) (by decide)
    · cases hq; exact hAr 24 (by decide) (by decide)
    · cases hq; exact hAr 25 (by decide) (by decide)
    · cases hq; exact hAr 26 (by decide) (by decide)
    · cases hq; exact hAr 27 (by decide) (by decide)
  · intro i hi
    show vk_R _ _ _ (sxs b adK adV t27 u1 u2 u3 (i + 2)) s
    rw [sxs_K hi]
    exact vk_R.of (hts _ (nSr_in _ (List.mem_map.mpr ⟨i, mem_r25 hi, rfl⟩))) (hev i hi)
  · refine ⟨fun i hi => ?_, fun i j hi hj h => hS.2 i j hi hj ?_⟩
    · show va_O "java/lang/String" (sxs b adK adV t27 u1 u2 u3 (i + 2)) _ _ _ ∧ va_OF "java/lang/String" "coder" "B" (.int 0) (sxs b adK adV t27 u1 u2 u3 (i + 2)) _ _ _ ∧ va_OF "java/lang/String" "value" "[B" (.ref (sxs b adK adV t27 u1 u2 u3 (i + 28))) (sxs b adK adV t27 u1 u2 u3 (i + 2)) _ _ _ ∧ va_T .byte (sxs b adK adV t27 u1 u2 u3 (i + 28)) _ _ _ _ _
      rw [sxs_K hi, sxs_V hi]
      exact hS.1 i hi
    · have h' : sxs b adK adV t27 u1 u2 u3 (i + 2) = sxs b adK adV t27 u1 u2 u3 (j + 2) := h
      rw [sxs_K hi, sxs_K hj] at h'
      exact h'
/-- the memory at the start -/
def mem0 (L : Nat) (fx : Nat → Int32) : Mem := (fun a k => if a = 1 then fx k else 0, fun _ _ => 0, fun _ _ => 0, spk, fun a => if a = 1 then L else 0, 64, 0)
theorem mem0_HR {X : Cx} : HR X (mem0 (xL X) (xf X)) (x0 X).heap := by
  refine ⟨Nat.le_refl _, rfl, fun q _ => rfl, fun a h1 h2 => ?_, fun a _ => rfl, rfl, rfl, ?_⟩
  · have h3 : a < 64 := h2
    omega
  · funext k
    rfl
theorem hasRoom_le {s : State} {pl : Platform} {r r' : Room} (h : s.hasRoom pl r = true) (h1 : r'.frames ≤ r.frames) (h2 : r'.cells ≤ r.cells) (h3 : r'.slots ≤ r.slots) (h4 : r'.locals ≤ r.locals) : s.hasRoom pl r' = true := by
  simp only [State.hasRoom, Bool.and_eq_true, decide_eq_true_eq] at h ⊢
  obtain ⟨⟨⟨⟨a1, a2, a3, a4, a5, a6⟩, a7⟩, a8⟩, a9⟩ := h
  exact ⟨⟨⟨⟨by omega, by omega, by omega, by omega, by omega, a6⟩, by omega⟩, by omega⟩, a9⟩
/-- what the law's body must come to -/
def LawQ : Res → Mem → Prop := fun r S => r = .inl (some (vI 1)) ∧ tp S ≤ 600000 ∧ sz S ≤ 7000000
/-- the law's run out of the small machine's -/
theorem law_run {X : Cx} {p : Program} {e : Env} {m : MethodId} {below : List Frame} {meth : Method} {c : Code} (G : Good X) (hb1 : xs X 1 = xb X) (h1 : p.tables.exec = Jvm.exec) (h2 : c.code = code) (h3 : meth.sig.returnType = some .boolean) (h4 : c.maxLocals = 4) (h5 : (x0 X).vm.findClass RL = some m.cls) (h6 : meth.locks = false) (h7 : meth.name = "law") (h8 : c.exceptionTable.isEmpty = true)
    (hv : V X 2048 ML_law 0 [(0, vR 1)] [] (mem0 (xL X) (xf X)) LawQ) : W p (xl X) e room_1 (x0 X) m #[Value.ref (xb X)] below meth c (x0 X).heap [] 0 0 (fun t => ∃ o, t.status = .running ∧ Ended t below o ∧ o = .returned (some (.int 1)) ∧ Framed (x0 X) o t [] 600002 7302232) (entryFrame m ([Value.ref (xb X)] : List Value).toArray 4) := by
  obtain ⟨r, S', ⟨t1, t2, h⟩, rfl, q1, q2⟩ := hv
  intro T hT Y
  have hst : stc X [vR 1] = [Value.ref (xb X)] := by show [cv X (vR 1)] = _; rw [cvR (by decide)]; show [Value.ref (xs X 1)] = _; rw [hb1]
  have hl := lv_entry (stc X [vR 1]) (n := 4) (by rw [hst]; exact Nat.le_of_ble_eq_true rfl)
  have hent : entryFrame m ([Value.ref (xb X)] : List Value).toArray 4 = F0 m 0 ((lg_sl (stc X [vR 1]) ++ List.replicate (4 - (lg_sl (stc X [vR 1])).length) Slot.unset).toArray) [] := by rw [← hst, lg_entry_eq]
  have K := h G p e (x0 X) m #[Value.ref (xb X)] below meth c (x0 X).heap [] 64 0 _ ⟨h1, h2, h4, h3, h5, h6, State.WarmedH.refl _, h7, fun _ => h8, fun e15 => absurd e15 (by decide)⟩ mem0_HR (by intro q hq; cases hq) (Nat.le_refl _) (Nat.le_refl _) (by have e1 := lvE_args X [vR 1] 0; rw [← e1] at hl; exact hl)
  rw [show stc X [] = [] from rfl, ← hent] at K
  have e0 : tp (mem0 (xL X) (xf X)) - 64 = 0 := rfl
  have e1 : sz (mem0 (xL X) (xf X)) - 0 = 0 := rfl
  rw [e0, e1] at K
  have t1' : 64 ≤ tp S' := t1
  obtain ⟨t, a1, o, b1, b2, b3, Lo, ⟨b4, b5⟩, b6⟩ := K T hT ⟨Y.admits, Y.cas, Y.clock, Y.frames, hasRoom_le Y.room (Nat.le_of_ble_eq_true rfl) (by show tp S' - 64 ≤ 600002; omega) (by show sz S' - 0 ≤ 7302232; omega) (Nat.le_of_ble_eq_true rfl), Y.hears, Y.method, Y.code, Y.here, Y.tail, Y.warmed, Y.limits, Y.bytes, Y.same⟩
  obtain ⟨k1, k2, k3, k4, k5, k6⟩ := b5
  refine ⟨t, a1, o, b1, b2, b3.1, ⟨_, b3.1⟩, b4, k1, k2, Nat.le_trans k3 (by omega), k4, Nat.le_trans k5 (by omega), fun a cc hc => ?_⟩
  obtain ⟨c', g1, g2, g3, g4⟩ := k6 a cc hc
  refine ⟨c', g1, g2, g3, fun i _ => g4 i (fun hm => ?_)⟩
  have h1 : xB X ≤ a := b6 _ hm
  have h2 := (Array.getElem?_eq_some_iff.mp hc).1
  unfold xB at h1
  omega


