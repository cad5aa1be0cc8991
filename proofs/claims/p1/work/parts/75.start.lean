/-! What holds at the start: strings, enums, what a throw reads. Printed by wip/whole/gen/p75.py -/
def nwL : List Cond := flatC (Cond.and given_1 narrow_1)
theorem nz_Kl : ∀ i, i < 11 → tables_1[([409, 407, 806, 808, 824, 496, 1255, 1256, 1257, 498, 500] : List Nat).getD i 0]? = some (Cond.laysStatic "FormulaSetter$Kind" (kN i) "LFormulaSetter$Kind;") := by decide +kernel
theorem nz_Kx : ∀ i, i < 11 → nwL[([29, 25, 274, 295, 317, 111, 340, 364, 389, 124, 138] : List Nat).getD i 0]? = some (Cond.exactly (.static "FormulaSetter$Kind" (kN i) "LFormulaSetter$Kind;") "FormulaSetter$Kind") := by decide +kernel
theorem nz_K0 : ∀ i, i < 11 → nwL[([30, 26, 275, 296, 318, 112, 341, 365, 390, 125, 139] : List Nat).getD i 0]? = some (Cond.eq (.field (.static "FormulaSetter$Kind" (kN i) "LFormulaSetter$Kind;") "java/lang/Enum" "ordinal" "I") (.int (nI i))) := by decide +kernel
theorem nz_K1 : ∀ i, i < 11 → nwL[([31, 27, 276, 297, 319, 113, 342, 366, 391, 126, 140] : List Nat).getD i 0]? = some (Cond.eq (.field (.static "FormulaSetter$Kind" (kN i) "LFormulaSetter$Kind;") "FormulaSetter$Kind" "command" "Ljava/lang/String;") (.string (st_o (kC i)) (st_i (kC i)))) := by decide +kernel
theorem nz_K2 : ∀ i, i < 11 → nwL[([32, 28, 277, 298, 320, 114, 343, 367, 392, 127, 141] : List Nat).getD i 0]? = some (Cond.eq (.field (.static "FormulaSetter$Kind" (kN i) "LFormulaSetter$Kind;") "FormulaSetter$Kind" "operator" "I") (.int (kO i))) := by decide +kernel
theorem nz_Kn : ∀ i, i < 11 → ∀ j, j < 11 → i ≠ j → (nwL[(([[0, 0, 279, 300, 322, 116, 345, 369, 394, 129, 143], [33, 0, 278, 299, 321, 115, 344, 368, 393, 128, 142], [0, 0, 0, 316, 338, 0, 361, 385, 410, 0, 0], [0, 0, 0, 0, 339, 0, 362, 386, 411, 0, 0], [0, 0, 0, 0, 0, 0, 363, 387, 412, 0, 0], [0, 0, 287, 308, 330, 0, 353, 377, 402, 137, 151], [0, 0, 0, 0, 0, 0, 0, 388, 413, 0, 0], [0, 0, 0, 0, 0, 0, 0, 0, 414, 0, 0], [0, 0, 0, 0, 0, 0, 0, 0, 0, 0, 0], [0, 0, 288, 309, 331, 0, 354, 378, 403, 0, 152], [0, 0, 289, 310, 332, 0, 355, 379, 404, 0, 0]] : List (List Nat)).getD i []).getD j 0]? = some (Cond.not (.eq (.static "FormulaSetter$Kind" (kN i) "LFormulaSetter$Kind;") (.static "FormulaSetter$Kind" (kN j) "LFormulaSetter$Kind;"))) ∨ nwL[(([[0, 0, 279, 300, 322, 116, 345, 369, 394, 129, 143], [33, 0, 278, 299, 321, 115, 344, 368, 393, 128, 142], [0, 0, 0, 316, 338, 0, 361, 385, 410, 0, 0], [0, 0, 0, 0, 339, 0, 362, 386, 411, 0, 0], [0, 0, 0, 0, 0, 0, 363, 387, 412, 0, 0], [0, 0, 287, 308, 330, 0, 353, 377, 402, 137, 151], [0, 0, 0, 0, 0, 0, 0, 388, 413, 0, 0], [0, 0, 0, 0, 0, 0, 0, 0, 414, 0, 0], [0, 0, 0, 0, 0, 0, 0, 0, 0, 0, 0], [0, 0, 288, 309, 331, 0, 354, 378, 403, 0, 152], [0, 0, 289, 310, 332, 0, 355, 379, 404, 0, 0]] : List (List Nat)).getD j []).getD i 0]? = some (Cond.not (.eq (.static "FormulaSetter$Kind" (kN j) "LFormulaSetter$Kind;") (.static "FormulaSetter$Kind" (kN i) "LFormulaSetter$Kind;")))) := by decide +kernel
theorem nz_Al : ∀ i, i < 8 → tables_1[([473, 494, 476, 479, 482, 485, 488, 502] : List Nat).getD i 0]? = some (Cond.laysStatic "FormulaSetter$Atom" (aN i) "LFormulaSetter$Atom;") := by decide +kernel
theorem nz_Ax : ∀ i, i < 8 → nwL[([34, 97, 42, 51, 61, 72, 84, 153] : List Nat).getD i 0]? = some (Cond.exactly (.static "FormulaSetter$Atom" (aN i) "LFormulaSetter$Atom;") "FormulaSetter$Atom") := by decide +kernel
theorem nz_A0 : ∀ i, i < 8 → nwL[([35, 98, 43, 52, 62, 73, 85, 154] : List Nat).getD i 0]? = some (Cond.eq (.field (.static "FormulaSetter$Atom" (aN i) "LFormulaSetter$Atom;") "java/lang/Enum" "ordinal" "I") (.int (nI i))) := by decide +kernel
theorem nz_A1 : ∀ i, i < 8 → nwL[([36, 99, 44, 53, 63, 74, 86, 155] : List Nat).getD i 0]? = some (Cond.eq (.field (.static "FormulaSetter$Atom" (aN i) "LFormulaSetter$Atom;") "FormulaSetter$Atom" "column" "I") (.int (nI i))) := by decide +kernel
theorem nz_A2 : ∀ i, i < 8 → nwL[([37, 100, 45, 54, 64, 75, 87, 156] : List Nat).getD i 0]? = some (Cond.eq (.field (.static "FormulaSetter$Atom" (aN i) "LFormulaSetter$Atom;") "FormulaSetter$Atom" "spaces" "Ljava/lang/String;") (.string (st_o (aS i)) (st_i (aS i)))) := by decide +kernel
theorem nz_A3 : ∀ i, i < 8 → nwL[([38, 101, 46, 55, 65, 76, 88, 157] : List Nat).getD i 0]? = some (Cond.eq (.field (.static "FormulaSetter$Atom" (aN i) "LFormulaSetter$Atom;") "FormulaSetter$Atom" "noBinBehind" "Z") (.int (aB i))) := by decide +kernel
theorem nz_A4 : ∀ i, i < 8 → nwL[([39, 102, 47, 56, 66, 77, 89, 158] : List Nat).getD i 0]? = some (Cond.eq (.field (.static "FormulaSetter$Atom" (aN i) "LFormulaSetter$Atom;") "FormulaSetter$Atom" "noBinBefore" "Z") (.int (aF i))) := by decide +kernel
theorem nz_An : ∀ i, i < 8 → ∀ j, j < 8 → i ≠ j → (nwL[(([[0, 105, 50, 59, 69, 80, 92, 161], [0, 0, 0, 0, 0, 0, 0, 167], [0, 106, 0, 60, 70, 81, 93, 162], [0, 107, 0, 0, 71, 82, 94, 163], [0, 108, 0, 0, 0, 83, 95, 164], [0, 109, 0, 0, 0, 0, 96, 165], [0, 110, 0, 0, 0, 0, 0, 166], [0, 0, 0, 0, 0, 0, 0, 0]] : List (List Nat)).getD i []).getD j 0]? = some (Cond.not (.eq (.static "FormulaSetter$Atom" (aN i) "LFormulaSetter$Atom;") (.static "FormulaSetter$Atom" (aN j) "LFormulaSetter$Atom;"))) ∨ nwL[(([[0, 105, 50, 59, 69, 80, 92, 161], [0, 0, 0, 0, 0, 0, 0, 167], [0, 106, 0, 60, 70, 81, 93, 162], [0, 107, 0, 0, 71, 82, 94, 163], [0, 108, 0, 0, 0, 83, 95, 164], [0, 109, 0, 0, 0, 0, 96, 165], [0, 110, 0, 0, 0, 0, 0, 166], [0, 0, 0, 0, 0, 0, 0, 0]] : List (List Nat)).getD j []).getD i 0]? = some (Cond.not (.eq (.static "FormulaSetter$Atom" (aN j) "LFormulaSetter$Atom;") (.static "FormulaSetter$Atom" (aN i) "LFormulaSetter$Atom;")))) := by decide +kernel
theorem nz_Sl : ∀ i, i < 4 → tables_1[([703, 715, 717, 719] : List Nat).getD i 0]? = some (Cond.laysStatic "FormulaSetter$Style" (yN i) "LFormulaSetter$Style;") := by decide +kernel
theorem nz_Sx : ∀ i, i < 4 → nwL[([196, 214, 233, 253] : List Nat).getD i 0]? = some (Cond.exactly (.static "FormulaSetter$Style" (yN i) "LFormulaSetter$Style;") "FormulaSetter$Style") := by decide +kernel
theorem nz_S0 : ∀ i, i < 4 → nwL[([197, 215, 234, 254] : List Nat).getD i 0]? = some (Cond.eq (.field (.static "FormulaSetter$Style" (yN i) "LFormulaSetter$Style;") "java/lang/Enum" "ordinal" "I") (.int (nI i))) := by decide +kernel
theorem nz_S1 : ∀ i, i < 4 → nwL[([198, 216, 235, 255] : List Nat).getD i 0]? = some (Cond.eq (.field (.static "FormulaSetter$Style" (yN i) "LFormulaSetter$Style;") "FormulaSetter$Style" "size" "I") (.int (yS i))) := by decide +kernel
theorem nz_S2 : ∀ i, i < 4 → nwL[([199, 217, 236, 256] : List Nat).getD i 0]? = some (Cond.eq (.field (.static "FormulaSetter$Style" (yN i) "LFormulaSetter$Style;") "FormulaSetter$Style" "thickness" "I") (.int (yT i))) := by decide +kernel
theorem nz_S3 : ∀ i, i < 4 → nwL[([200, 218, 237, 257] : List Nat).getD i 0]? = some (Cond.eq (.field (.static "FormulaSetter$Style" (yN i) "LFormulaSetter$Style;") "FormulaSetter$Style" "axis" "I") (.int (yX i))) := by decide +kernel
theorem nz_Sn : ∀ i, i < 4 → ∀ j, j < 4 → i ≠ j → (nwL[(([[0, 232, 251, 271], [0, 0, 252, 272], [0, 0, 0, 273], [0, 0, 0, 0]] : List (List Nat)).getD i []).getD j 0]? = some (Cond.not (.eq (.static "FormulaSetter$Style" (yN i) "LFormulaSetter$Style;") (.static "FormulaSetter$Style" (yN j) "LFormulaSetter$Style;"))) ∨ nwL[(([[0, 232, 251, 271], [0, 0, 252, 272], [0, 0, 0, 273], [0, 0, 0, 0]] : List (List Nat)).getD j []).getD i 0]? = some (Cond.not (.eq (.static "FormulaSetter$Style" (yN j) "LFormulaSetter$Style;") (.static "FormulaSetter$Style" (yN i) "LFormulaSetter$Style;")))) := by decide +kernel
theorem nz_sx : ∀ i, i < 28 → nwL[([439, 448, 456, 463, 470, 476, 482, 488, 498, 525, 551, 599, 603, 615, 627, 639, 651, 663, 675, 683, 691, 698, 710, 717, 725, 732, 740, 747] : List Nat).getD i 0]? = some (Cond.exactly (.string (st_o i) (st_i i)) "java/lang/String") := by decide +kernel
theorem nz_sc : ∀ i, i < 28 → nwL[([440, 449, 457, 464, 471, 477, 483, 489, 499, 526, 552, 600, 604, 616, 628, 640, 652, 664, 676, 684, 692, 699, 711, 718, 726, 733, 741, 748] : List Nat).getD i 0]? = some (Cond.eq (.field (.string (st_o i) (st_i i)) "java/lang/String" "coder" "B") (.int 0)) := by decide +kernel
theorem nz_sa : ∀ i, i < 28 → nwL[([441, 450, 458, 465, 472, 478, 484, 490, 500, 527, 553, 601, 605, 617, 629, 641, 653, 665, 677, 685, 693, 700, 712, 719, 727, 734, 742, 749] : List Nat).getD i 0]? = some (Cond.arrayOf (.field (.string (st_o i) (st_i i)) "java/lang/String" "value" "[B") .byte) := by decide +kernel
theorem nz_sl : ∀ i, i < 28 → nwL[([442, 451, 459, 466, 473, 479, 485, 491, 501, 528, 554, 602, 606, 618, 630, 642, 654, 666, 678, 686, 694, 701, 713, 720, 728, 735, 743, 750] : List Nat).getD i 0]? = some (Cond.eq (.length (.field (.string (st_o i) (st_i i)) "java/lang/String" "value" "[B")) (.int (Int32.ofNat (st_b i).length))) := by decide +kernel
theorem nz_se : ∀ i, i < 28 → ∀ j, j < (st_b i).length → nwL[(([[443, 444, 445, 446, 447], [452, 453, 454, 455], [460, 461, 462], [467, 468, 469], [474, 475], [480, 481], [486, 487], [492, 493, 494, 495, 496, 497], [502, 503, 504, 505, 506, 507, 508, 509, 510, 511, 512, 513, 514, 515, 516, 517, 518, 519, 520, 521, 522, 523, 524], [529, 530, 531, 532, 533, 534, 535, 536, 537, 538, 539, 540, 541, 542, 543, 544, 545, 546, 547, 548, 549, 550], [555, 556, 557, 558, 559, 560, 561, 562, 563, 564, 565, 566, 567, 568, 569, 570, 571, 572, 573, 574, 575, 576, 577, 578, 579, 580, 581, 582, 583, 584, 585, 586, 587, 588, 589, 590, 591, 592, 593, 594, 595, 596, 597, 598], [], [607, 608, 609, 610, 611, 612, 613, 614], [619, 620, 621, 622, 623, 624, 625, 626], [631, 632, 633, 634, 635, 636, 637, 638], [643, 644, 645, 646, 647, 648, 649, 650], [655, 656, 657, 658, 659, 660, 661, 662], [667, 668, 669, 670, 671, 672, 673, 674], [679, 680, 681, 682], [687, 688, 689, 690], [695, 696, 697], [702, 703, 704, 705, 706, 707, 708, 709], [714, 715, 716], [721, 722, 723, 724], [729, 730, 731], [736, 737, 738, 739], [744, 745, 746], [751, 752, 753]] : List (List Nat)).getD i []).getD j 0]? = some (Cond.eq (.elem (.field (.string (st_o i) (st_i i)) "java/lang/String" "value" "[B") (.int (Int32.ofNat j))) (.int ((st_b i).getD j 0))) := by decide +kernel
theorem nz_sr : ∀ i, i < 28 → tables_1[([324, 414, 474, 477, 480, 483, 486, 528, 611, 637, 847, 1258, 1259, 1260, 1261, 1262, 1263, 1264, 1265, 1266, 1267, 1268, 1269, 1270, 1271, 1272, 1273, 1274] : List Nat).getD i 0]? = some (Cond.stringRef (st_o i) (st_i i) (st_x i)) := by decide +kernel
theorem nz_tKa : nwL[11]? = some (Cond.arrayOf (.static "FormulaSetter" "KINDS" "[LFormulaSetter$Kind;") (.object "FormulaSetter$Kind")) := by decide +kernel
theorem nz_tKL : nwL[12]? = some (Cond.eq (.length (.static "FormulaSetter" "KINDS" "[LFormulaSetter$Kind;")) (.int (Int32.ofNat 11))) := by decide +kernel
theorem nz_tKt : tables_1[401]? = some (Cond.laysStatic "FormulaSetter" "KINDS" "[LFormulaSetter$Kind;") := by decide +kernel
theorem nz_tKe : ∀ i, i < 11 → nwL[([14, 15, 16, 17, 18, 19, 20, 21, 22, 23, 24] : List Nat).getD i 0]? = some (Cond.eq (.elem (.static "FormulaSetter" "KINDS" "[LFormulaSetter$Kind;") (.int (Int32.ofNat i))) (.static "FormulaSetter$Kind" (kN i) "LFormulaSetter$Kind;")) := by decide +kernel
theorem nz_tSa : nwL[187]? = some (Cond.arrayOf (.static "FormulaSetter" "STYLES" "[LFormulaSetter$Style;") (.object "FormulaSetter$Style")) := by decide +kernel
theorem nz_tSL : nwL[188]? = some (Cond.eq (.length (.static "FormulaSetter" "STYLES" "[LFormulaSetter$Style;")) (.int (Int32.ofNat 4))) := by decide +kernel
theorem nz_tSt : tables_1[570]? = some (Cond.laysStatic "FormulaSetter" "STYLES" "[LFormulaSetter$Style;") := by decide +kernel
theorem nz_tSe : ∀ i, i < 4 → nwL[([190, 191, 192, 193] : List Nat).getD i 0]? = some (Cond.eq (.elem (.static "FormulaSetter" "STYLES" "[LFormulaSetter$Style;") (.int (Int32.ofNat i))) (.static "FormulaSetter$Style" (yN i) "LFormulaSetter$Style;")) := by decide +kernel
theorem nz_tMa : nwL[172]? = some (Cond.arrayOf (.static "FormulaSetter$1" "$SwitchMap$FormulaSetter$Kind" "[I") .int) := by decide +kernel
theorem nz_tML : nwL[173]? = some (Cond.eq (.length (.static "FormulaSetter$1" "$SwitchMap$FormulaSetter$Kind" "[I")) (.int (Int32.ofNat 11))) := by decide +kernel
theorem nz_tMt : tables_1[509]? = some (Cond.laysStatic "FormulaSetter$1" "$SwitchMap$FormulaSetter$Kind" "[I") := by decide +kernel
theorem nz_tMe : ∀ i, i < 11 → nwL[([174, 175, 176, 177, 178, 179, 180, 181, 182, 183, 184] : List Nat).getD i 0]? = some (Cond.eq (.elem (.static "FormulaSetter$1" "$SwitchMap$FormulaSetter$Kind" "[I") (.int (Int32.ofNat i))) (.int (swM i))) := by decide +kernel
theorem nz_cs : nwL[4]? = some (Cond.eq (.static "java/lang/String" "COMPACT_STRINGS" "Z") (.int 1)) := by decide +kernel
theorem nz_fm : nwL[5]? = some (Cond.isRef (.static "jdk/internal/util/Preconditions" "SIOOBE_FORMATTER" "Ljava/util/function/BiFunction;")) := by decide +kernel
theorem nz_us : nwL[194]? = some (Cond.isRef (.static Bundle.tN "UNASSIGNED_STACK" Bundle.steD)) := by decide +kernel
theorem nz_ss : nwL[195]? = some (Cond.isRef (.static Bundle.tN "SUPPRESSED_SENTINEL" Bundle.listD)) := by decide +kernel
theorem eq_ref {args : Array Value} {s : State} {t u : Term} {a : Nat} (h : (Cond.eq t u).before args s = true) (hu : u.eval args s none [] s = some (.ref a)) : t.eval args s none [] s = some (.ref a) := by
  cases ht : t.eval args s none [] s with
  | none => simp [Cond.before, Cond.holds, Cond.value, ht, hu] at h
  | some w =>
    simp only [Cond.before, Cond.holds, Cond.value, ht, hu] at h
    cases w <;> simp_all
theorem st_nw {args : Array Value} {s : State} (hts : ∀ w ∈ lw_tbl, w.before args s = true) (hnw : ∀ w ∈ nwL, w.before args s = true) {k : Nat} {w : Cond} (h : nwL[k]? = some w) : w.before args s = true := hnw w (List.mem_of_getElem? h)
theorem st_tb {args : Array Value} {s : State} (hts : ∀ w ∈ lw_tbl, w.before args s = true) (hnw : ∀ w ∈ nwL, w.before args s = true) {k : Nat} {w : Cond} (h : tables_1[k]? = some w) : w.before args s = true := hts w (List.mem_append_right _ (List.mem_of_getElem? h))
theorem st_S {args : Array Value} {s : State} (hts : ∀ w ∈ lw_tbl, w.before args s = true) (hnw : ∀ w ∈ nwL, w.before args s = true) : ∃ sA sV : Nat → Nat, ro_S s.heap.size sA sV s ∧ ∀ i, i < 28 → (Term.string (st_o i) (st_i i)).eval args s none [] s = some (.ref (sA i)) := by
  have hA : ∀ a : Nat, a < s.heap.size → ¬ fh_A s.heap.size a := fun a h => Nat.not_le.mpr h
  have h0 : ∀ i : Nat, ∃ q : Nat × Nat, i < 28 → (Term.string (st_o i) (st_i i)).eval args s none [] s = some (.ref q.1) ∧ ro_S1 s.heap.size (fun _ => q.1) (fun _ => q.2) s i := by
    intro i
    by_cases hi : i < 28
    · obtain ⟨a, c, cA, kA, q1, q2, q3, q4, q5, q6, -⟩ := Cond.exactly_spec (st_nw hts hnw (nz_sx i hi))
      obtain ⟨t, ht, hT⟩ := va_Tof (f := fun j => .int ((st_b i).getD j 0)) (A := fh_A s.heap.size) (Nat.lt_trans (st_ok i hi).1 (by decide)) (st_nw hts hnw (nz_sa i hi)) (va_eqt (st_nw hts hnw (nz_sl i hi))) (fun j hj => va_eqt (st_nw hts hnw (nz_se i hi j hj))) hA
      exact ⟨(a, t), fun _ => ⟨q1, ⟨cA, q3, q5, by rw [q6]; exact q2, hA a (Array.getElem?_eq_some_iff.mp q3).1⟩, vk_OFof q1 (va_eqt (st_nw hts hnw (nz_sc i hi))) hA, vk_OFof q1 ht hA, hT, vk_R.of (st_tb hts hnw (nz_sr i hi)) q1⟩⟩
    · exact ⟨(0, 0), fun h => absurd h hi⟩
  obtain ⟨ad, had⟩ := Classical.axiomOfChoice h0
  exact ⟨fun i => (ad i).1, fun i => (ad i).2, ⟨fun i hi => (had i hi).2, va_Zof (hts _ (List.mem_append_right _ (List.mem_of_getElem? (i := 338) (by decide +kernel)))) (hts _ (List.mem_append_right _ (List.mem_of_getElem? (i := 15) (by decide +kernel)))) (va_eqt (st_nw hts hnw nz_cs)) hA, va_Zqof (hts _ (List.mem_append_right _ (List.mem_of_getElem? (i := 354) (by decide +kernel)))) (hts _ (List.mem_append_right _ (List.mem_of_getElem? (i := 17) (by decide +kernel)))) (st_nw hts hnw nz_fm) hA⟩, fun i hi => (had i hi).1⟩
theorem kCz_lt : ∀ i, i < 11 → kC i < 28 := by decide +kernel
theorem st_Kind {args : Array Value} {s : State} (hts : ∀ w ∈ lw_tbl, w.before args s = true) (hnw : ∀ w ∈ nwL, w.before args s = true) {sA : Nat → Nat} (hsA : ∀ i, i < 28 → (Term.string (st_o i) (st_i i)).eval args s none [] s = some (.ref (sA i))) : ∃ ad : Nat → Nat, (∀ i, i < 11 → ro_Kind s.heap.size sA ad s i) ∧ (∀ i j, i < 11 → j < 11 → ad i = ad j → i = j) ∧ ∀ i, i < 11 → (Term.static "FormulaSetter$Kind" (kN i) "LFormulaSetter$Kind;").eval args s none [] s = some (.ref (ad i)) := by
  have hA : ∀ a : Nat, a < s.heap.size → ¬ fh_A s.heap.size a := fun a h => Nat.not_le.mpr h
  have h0 : ∀ i : Nat, ∃ t : Nat, i < 11 → (Term.static "FormulaSetter$Kind" (kN i) "LFormulaSetter$Kind;").eval args s none [] s = some (.ref t) ∧ va_O "FormulaSetter$Kind" t (fh_A s.heap.size) s s.heap := by
    intro i
    by_cases hi : i < 11
    · obtain ⟨a, c, cell, k, q1, q2, q3, q4, q5, q6, -⟩ := Cond.exactly_spec (st_nw hts hnw (nz_Kx i hi))
      exact ⟨a, fun _ => ⟨q1, cell, q3, q5, by rw [q6]; exact q2, hA a (Array.getElem?_eq_some_iff.mp q3).1⟩⟩
    · exact ⟨0, fun h => absurd h hi⟩
  obtain ⟨ad, had⟩ := Classical.axiomOfChoice h0
  refine ⟨ad, fun i hi => ⟨va_Zref (st_tb hts hnw (nz_Kl i hi)) (hts _ (List.mem_append_right _ (List.mem_of_getElem? (i := 21) (by decide +kernel)))) (had i hi).1 hA, (had i hi).2, vk_OFof (had i hi).1 (va_eqt (st_nw hts hnw (nz_K0 i hi))) hA, vk_OFof (had i hi).1 (eq_ref (st_nw hts hnw (nz_K1 i hi)) (hsA _ (kCz_lt i hi))) hA, vk_OFof (had i hi).1 (va_eqt (st_nw hts hnw (nz_K2 i hi))) hA⟩, fun i j hi hj e => ?_, fun i hi => (had i hi).1⟩
  by_cases hij : i = j
  · exact hij
  · rcases nz_Kn i hi j hj hij with h | h
    · exact absurd e (va_neR (st_nw hts hnw h) (had i hi).1 (had j hj).1)
    · exact absurd e.symm (va_neR (st_nw hts hnw h) (had j hj).1 (had i hi).1)
theorem aSz_lt : ∀ i, i < 8 → aS i < 28 := by decide +kernel
theorem st_Atom {args : Array Value} {s : State} (hts : ∀ w ∈ lw_tbl, w.before args s = true) (hnw : ∀ w ∈ nwL, w.before args s = true) {sA : Nat → Nat} (hsA : ∀ i, i < 28 → (Term.string (st_o i) (st_i i)).eval args s none [] s = some (.ref (sA i))) : ∃ ad : Nat → Nat, (∀ i, i < 8 → ro_Atom s.heap.size sA ad s i) ∧ (∀ i j, i < 8 → j < 8 → ad i = ad j → i = j) ∧ ∀ i, i < 8 → (Term.static "FormulaSetter$Atom" (aN i) "LFormulaSetter$Atom;").eval args s none [] s = some (.ref (ad i)) := by
  have hA : ∀ a : Nat, a < s.heap.size → ¬ fh_A s.heap.size a := fun a h => Nat.not_le.mpr h
  have h0 : ∀ i : Nat, ∃ t : Nat, i < 8 → (Term.static "FormulaSetter$Atom" (aN i) "LFormulaSetter$Atom;").eval args s none [] s = some (.ref t) ∧ va_O "FormulaSetter$Atom" t (fh_A s.heap.size) s s.heap := by
    intro i
    by_cases hi : i < 8
    · obtain ⟨a, c, cell, k, q1, q2, q3, q4, q5, q6, -⟩ := Cond.exactly_spec (st_nw hts hnw (nz_Ax i hi))
      exact ⟨a, fun _ => ⟨q1, cell, q3, q5, by rw [q6]; exact q2, hA a (Array.getElem?_eq_some_iff.mp q3).1⟩⟩
    · exact ⟨0, fun h => absurd h hi⟩
  obtain ⟨ad, had⟩ := Classical.axiomOfChoice h0
  refine ⟨ad, fun i hi => ⟨va_Zref (st_tb hts hnw (nz_Al i hi)) (hts _ (List.mem_append_right _ (List.mem_of_getElem? (i := 20) (by decide +kernel)))) (had i hi).1 hA, (had i hi).2, vk_OFof (had i hi).1 (va_eqt (st_nw hts hnw (nz_A0 i hi))) hA, vk_OFof (had i hi).1 (va_eqt (st_nw hts hnw (nz_A1 i hi))) hA, vk_OFof (had i hi).1 (eq_ref (st_nw hts hnw (nz_A2 i hi)) (hsA _ (aSz_lt i hi))) hA, vk_OFof (had i hi).1 (va_eqt (st_nw hts hnw (nz_A3 i hi))) hA, vk_OFof (had i hi).1 (va_eqt (st_nw hts hnw (nz_A4 i hi))) hA⟩, fun i j hi hj e => ?_, fun i hi => (had i hi).1⟩
  by_cases hij : i = j
  · exact hij
  · rcases nz_An i hi j hj hij with h | h
    · exact absurd e (va_neR (st_nw hts hnw h) (had i hi).1 (had j hj).1)
    · exact absurd e.symm (va_neR (st_nw hts hnw h) (had j hj).1 (had i hi).1)
theorem st_Style {args : Array Value} {s : State} (hts : ∀ w ∈ lw_tbl, w.before args s = true) (hnw : ∀ w ∈ nwL, w.before args s = true) {sA : Nat → Nat} (hsA : ∀ i, i < 28 → (Term.string (st_o i) (st_i i)).eval args s none [] s = some (.ref (sA i))) : ∃ ad : Nat → Nat, (∀ i, i < 4 → ro_Style s.heap.size sA ad s i) ∧ (∀ i j, i < 4 → j < 4 → ad i = ad j → i = j) ∧ ∀ i, i < 4 → (Term.static "FormulaSetter$Style" (yN i) "LFormulaSetter$Style;").eval args s none [] s = some (.ref (ad i)) := by
  have hA : ∀ a : Nat, a < s.heap.size → ¬ fh_A s.heap.size a := fun a h => Nat.not_le.mpr h
  have h0 : ∀ i : Nat, ∃ t : Nat, i < 4 → (Term.static "FormulaSetter$Style" (yN i) "LFormulaSetter$Style;").eval args s none [] s = some (.ref t) ∧ va_O "FormulaSetter$Style" t (fh_A s.heap.size) s s.heap := by
    intro i
    by_cases hi : i < 4
    · obtain ⟨a, c, cell, k, q1, q2, q3, q4, q5, q6, -⟩ := Cond.exactly_spec (st_nw hts hnw (nz_Sx i hi))
      exact ⟨a, fun _ => ⟨q1, cell, q3, q5, by rw [q6]; exact q2, hA a (Array.getElem?_eq_some_iff.mp q3).1⟩⟩
    · exact ⟨0, fun h => absurd h hi⟩
  obtain ⟨ad, had⟩ := Classical.axiomOfChoice h0
  refine ⟨ad, fun i hi => ⟨va_Zref (st_tb hts hnw (nz_Sl i hi)) (hts _ (List.mem_append_right _ (List.mem_of_getElem? (i := 24) (by decide +kernel)))) (had i hi).1 hA, (had i hi).2, vk_OFof (had i hi).1 (va_eqt (st_nw hts hnw (nz_S0 i hi))) hA, vk_OFof (had i hi).1 (va_eqt (st_nw hts hnw (nz_S1 i hi))) hA, vk_OFof (had i hi).1 (va_eqt (st_nw hts hnw (nz_S2 i hi))) hA, vk_OFof (had i hi).1 (va_eqt (st_nw hts hnw (nz_S3 i hi))) hA⟩, fun i j hi hj e => ?_, fun i hi => (had i hi).1⟩
  by_cases hij : i = j
  · exact hij
  · rcases nz_Sn i hi j hj hij with h | h
    · exact absurd e (va_neR (st_nw hts hnw h) (had i hi).1 (had j hj).1)
    · exact absurd e.symm (va_neR (st_nw hts hnw h) (had j hj).1 (had i hi).1)
/-- all that is only read -/
def roA (b : Nat) (sA sV kA aA yA : Nat → Nat) (tK tS tM : Nat) (U : State) : Prop := ro_S b sA sV U ∧ ro_E b sA kA aA yA tK tS tM U ∧ ro_X b U ∧ fh_N U
theorem roA_R (b : Nat) (sA sV kA aA yA : Nat → Nat) (tK tS tM : Nat) : fh_R b (roA b sA sV kA aA yA tK tS tM) := by
  refine ⟨fun U g mk a h => ⟨(ro_S_R b sA sV).1 U g mk a h.1, (ro_E_R b sA kA aA yA tK tS tM).1 U g mk a h.2.1, (ro_X_R b).1 U g mk a h.2.2.1, ?_⟩, fun s U h hb hW hq => ⟨(ro_S_R b sA sV).2 s U h.1 hb hW hq, (ro_E_R b sA kA aA yA tK tS tM).2 s U h.2.1 hb hW hq, (ro_X_R b).2 s U h.2.2.1 hb hW hq, ?_⟩⟩
  · obtain ⟨h1, h2, h3, h4, h5, h6⟩ := h.2.2.2
    exact ⟨h1, h2, va_Nw.same (u := U) rfl rfl h3, va_Nw.same (u := U) rfl rfl h4, va_Nw.same (u := U) rfl rfl h5, va_Nw.same (u := U) rfl rfl h6⟩
  · obtain ⟨h1, h2, h3, h4, h5, h6⟩ := h.2.2.2
    exact ⟨va_AO.moved hW.alike h1, va_AO.moved hW.alike h2, va_Nw.warmM hW h3, va_Nw.warmM hW h4, va_Nw.warmM hW h5, va_Nw.warmM hW h6⟩
theorem st_all {args : Array Value} {s : State} (hts : ∀ w ∈ lw_tbl, w.before args s = true) (hnw : ∀ w ∈ nwL, w.before args s = true) : ∃ (sA sV kA aA yA : Nat → Nat) (tK tS tM : Nat), roA s.heap.size sA sV kA aA yA tK tS tM s ∧ ad_ok kA aA yA := by
  have hA : ∀ a : Nat, a < s.heap.size → ¬ fh_A s.heap.size a := fun a h => Nat.not_le.mpr h
  obtain ⟨sA, sV, hS, hsA⟩ := st_S hts hnw
  obtain ⟨kA, hK, kK, eK⟩ := st_Kind hts hnw hsA
  obtain ⟨aA, hA1, kA1, eA⟩ := st_Atom hts hnw hsA
  obtain ⟨yA, hY, kY, eY⟩ := st_Style hts hnw hsA
  obtain ⟨tK, ek, hTK⟩ := va_Tof (f := fun j => .ref (kA j)) (A := fh_A s.heap.size) (by decide) (st_nw hts hnw nz_tKa) (va_eqt (st_nw hts hnw nz_tKL)) (fun j hj => eq_ref (st_nw hts hnw (nz_tKe j hj)) (eK j hj)) hA
  obtain ⟨tS, es, hTS⟩ := va_Tof (f := fun j => .ref (yA j)) (A := fh_A s.heap.size) (by decide) (st_nw hts hnw nz_tSa) (va_eqt (st_nw hts hnw nz_tSL)) (fun j hj => eq_ref (st_nw hts hnw (nz_tSe j hj)) (eY j hj)) hA
  obtain ⟨tM, em, hTM⟩ := va_Tof (f := fun j => .int (swM j)) (A := fh_A s.heap.size) (by decide) (st_nw hts hnw nz_tMa) (va_eqt (st_nw hts hnw nz_tML)) (fun j hj => va_eqt (st_nw hts hnw (nz_tMe j hj))) hA
  refine ⟨sA, sV, kA, aA, yA, tK, tS, tM, ⟨hS, ⟨hK, hA1, hY, va_Zref (st_tb hts hnw nz_tKt) (hts _ (List.mem_append_right _ (List.mem_of_getElem? (i := 1) (by decide +kernel)))) ek hA, hTK, va_Zref (st_tb hts hnw nz_tSt) (hts _ (List.mem_append_right _ (List.mem_of_getElem? (i := 1) (by decide +kernel)))) es hA, hTS, va_Zref (st_tb hts hnw nz_tMt) (hts _ (List.mem_append_right _ (List.mem_of_getElem? (i := 23) (by decide +kernel)))) em hA, hTM, va_Nw.of rfl (hts _ (List.mem_append_right _ (List.mem_of_getElem? (i := 400) (by decide +kernel))))⟩, ⟨fun w h1 h2 _ => va_Nw.of h2 (hts w h1), ro_Zs.of (hts _ (List.mem_append_right _ (List.mem_of_getElem? (i := 598) (by decide +kernel)))) (st_nw hts hnw nz_us), ro_Zs.of (hts _ (List.mem_append_right _ (List.mem_of_getElem? (i := 600) (by decide +kernel)))) (st_nw hts hnw nz_ss)⟩, ?_⟩, kK, kA1, kY⟩
  exact ⟨va_AO.of (hts _ (List.mem_append_right _ (List.mem_of_getElem? (i := 42) (by decide +kernel)))), va_AO.of (hts _ (List.mem_append_right _ (List.mem_of_getElem? (i := 147) (by decide +kernel)))), va_Nw.of rfl (hts _ (List.mem_append_right _ (List.mem_of_getElem? (i := 44) (by decide +kernel)))), va_Nw.of rfl (hts _ (List.mem_append_right _ (List.mem_of_getElem? (i := 149) (by decide +kernel)))), va_Nw.of rfl (hts _ (List.mem_append_right _ (List.mem_of_getElem? (i := 47) (by decide +kernel)))), va_Nw.of rfl (hts _ (List.mem_append_right _ (List.mem_of_getElem? (i := 152) (by decide +kernel))))⟩
