/-! Pure: the classes of a line's items become the same on both sides. By hand. -/
theorem s1v_8 : ∀ a, a < 8 → (¬ aB a = 0 ↔ (a = 2 ∨ a = 1 ∨ a = 3 ∨ a = 4 ∨ a = 6)) := by decide
theorem s2v_8 : ∀ a, a < 8 → (¬ aF a = 0 ↔ (a = 3 ∨ a = 5 ∨ a = 6)) := by decide
theorem st1_se : ∀ (its so : List Nat) (R : Nat → Nat → Option Nat) (bf sbf : Option Nat), its.Nodup → its.map (fun q => R q 6) = so.map some → (∀ s ∈ so, s < 8) → (bf = none ∧ sbf = none ∨ ∃ q s, bf = some q ∧ sbf = some s ∧ s < 8 ∧ R q 6 = some s ∧ q ∉ its) → its.map (fun q => st1 R bf its q 6) = (se1 sbf so).map some
  | [], [], _, _, _, _, _, _, _ => rfl
  | [], s :: so, _, _, _, _, h, _, _ => by cases h
  | i :: t, [], _, _, _, _, h, _, _ => by cases h
  | i :: t, s :: so, R, bf, sbf, hn, h, h8, hb => by
    have hn1 : i ∉ t := (List.nodup_cons.mp hn).1
    have hn2 : t.Nodup := (List.nodup_cons.mp hn).2
    have e1 : R i 6 = some s := (List.cons.inj h).1
    have e2 : t.map (fun q => R q 6) = so.map some := (List.cons.inj h).2
    have hs8 := h8 s List.mem_cons_self
    have hc : (R i 6 = some 2 ∧ ¬ s1v R bf = 0) ↔ (s = 2 ∧ (sbf = none ∨ sbf = some 2 ∨ sbf = some 1 ∨ sbf = some 3 ∨ sbf = some 4 ∨ sbf = some 6)) := by
      rw [e1, Option.some.injEq]
      refine and_congr_right (fun _ => ?_)
      rcases hb with ⟨rfl, rfl⟩ | ⟨q, a, rfl, rfl, ha, hq, -⟩
      · exact ⟨fun _ => Or.inl rfl, fun _ => (show ¬ (1 : Int32) = 0 by decide)⟩
      · have e : s1v R (some q) = aB a := by show (R q 6).elim 0 aB = _; rw [hq]; rfl
        rw [e, s1v_8 a ha]
        simp only [Option.some.injEq, reduceCtorEq, false_or]
    have hR : ∃ R1, R1 = (if R i 6 = some 2 ∧ ¬ s1v R bf = 0 then sT R i 6 (some 0) else R) := ⟨_, rfl⟩
    obtain ⟨R1, hR1⟩ := hR
    obtain ⟨b, hb9⟩ : ∃ b, b = (if s = 2 ∧ (sbf = none ∨ sbf = some 2 ∨ sbf = some 1 ∨ sbf = some 3 ∨ sbf = some 4 ∨ sbf = some 6) then 0 else s) := ⟨_, rfl⟩
    have hRi : R1 i 6 = some b := by
      rw [hR1, hb9]
      by_cases c : R i 6 = some 2 ∧ ¬ s1v R bf = 0
      · rw [if_pos c, if_pos (hc.mp c)]; exact sT_same
      · rw [if_neg c, if_neg (fun z => c (hc.mpr z))]; exact e1
    have hRq : ∀ q, q ≠ i → R1 q 6 = R q 6 := fun q hq => by
      rw [hR1]
      by_cases c : R i 6 = some 2 ∧ ¬ s1v R bf = 0
      · rw [if_pos c]; exact sT_ne (fun z => hq z.1)
      · rw [if_neg c]
    have hb8 : b < 8 := by rw [hb9]; split <;> omega
    have est : ∀ q, st1 R bf (i :: t) q 6 = st1 R1 (some i) t q 6 := fun q => by rw [hR1]; rfl
    have ese : se1 sbf (s :: so) = b :: se1 (some b) so := by rw [hb9]; rfl
    rw [ese, List.map_cons, List.map_cons]
    have g := st1_se t so R1 (some i) (some b) hn2 (by rw [← e2]; exact List.map_congr_left (fun q hq => hRq q (fun z => hn1 (z ▸ hq)))) (fun z hz => h8 z (List.mem_cons_of_mem _ hz)) (Or.inr ⟨i, b, rfl, rfl, hb8, hRi, hn1⟩)
    have eh : st1 R bf (i :: t) i 6 = some b := by rw [est, st1_ne t R1 (some i) hn1, hRi]
    rw [← g, eh]
    exact congrArg (fun z => some b :: z) (List.map_congr_left (fun q _ => est q))
theorem st2_se : ∀ (its so : List Nat) (R : Nat → Nat → Option Nat), its.Nodup → its.map (fun q => R q 6) = so.map some → (∀ s ∈ so, s < 8) → its.map (fun q => st2 R its q 6) = (se2 so).map some
  | [], [], _, _, _, _ => rfl
  | [], s :: so, _, _, h, _ => by cases h
  | i :: t, [], _, _, h, _ => by cases h
  | i :: t, s :: so, R, hn, h, h8 => by
    have hn1 : i ∉ t := (List.nodup_cons.mp hn).1
    have hn2 : t.Nodup := (List.nodup_cons.mp hn).2
    have e1 : R i 6 = some s := (List.cons.inj h).1
    have e2 : t.map (fun q => R q 6) = so.map some := (List.cons.inj h).2
    have hc : (R i 6 = some 2 ∧ ¬ s2v R t.head? = 0) ↔ (s = 2 ∧ (so.head? = none ∨ so.head? = some 3 ∨ so.head? = some 5 ∨ so.head? = some 6)) := by
      rw [e1, Option.some.injEq]
      refine and_congr_right (fun _ => ?_)
      rcases t with _ | ⟨q, t⟩
      · rcases so with _ | ⟨a, so⟩
        · exact ⟨fun _ => Or.inl rfl, fun _ => (show ¬ (1 : Int32) = 0 by decide)⟩
        · cases e2
      · rcases so with _ | ⟨a, so⟩
        · cases e2
        · have hq : R q 6 = some a := (List.cons.inj e2).1
          have e : s2v R (q :: t).head? = aF a := by show (R q 6).elim 0 aF = _; rw [hq]; rfl
          rw [e, s2v_8 a (h8 a (List.mem_cons_of_mem _ List.mem_cons_self))]
          simp only [List.head?_cons, Option.some.injEq, reduceCtorEq, false_or]
    obtain ⟨R1, hR1⟩ : ∃ R1, R1 = (if R i 6 = some 2 ∧ ¬ s2v R t.head? = 0 then sT R i 6 (some 0) else R) := ⟨_, rfl⟩
    obtain ⟨b, hb9⟩ : ∃ b, b = (if s = 2 ∧ (so.head? = none ∨ so.head? = some 3 ∨ so.head? = some 5 ∨ so.head? = some 6) then 0 else s) := ⟨_, rfl⟩
    have hRi : R1 i 6 = some b := by
      rw [hR1, hb9]
      by_cases c : R i 6 = some 2 ∧ ¬ s2v R t.head? = 0
      · rw [if_pos c, if_pos (hc.mp c)]; exact sT_same
      · rw [if_neg c, if_neg (fun z => c (hc.mpr z))]; exact e1
    have hRq : ∀ q, q ≠ i → R1 q 6 = R q 6 := fun q hq => by
      rw [hR1]
      by_cases c : R i 6 = some 2 ∧ ¬ s2v R t.head? = 0
      · rw [if_pos c]; exact sT_ne (fun z => hq z.1)
      · rw [if_neg c]
    have est : ∀ q, st2 R (i :: t) q 6 = st2 R1 t q 6 := fun q => by rw [hR1]; rfl
    have ese : se2 (s :: so) = b :: se2 so := by rw [hb9]; rfl
    rw [ese, List.map_cons, List.map_cons]
    have g := st2_se t so R1 hn2 (by rw [← e2]; exact List.map_congr_left (fun q hq => hRq q (fun z => hn1 (z ▸ hq)))) (fun z hz => h8 z (List.mem_cons_of_mem _ hz))
    have eh : st2 R (i :: t) i 6 = some b := by rw [est, st2_ne t R1 hn1, hRi]
    rw [← g, eh]
    exact congrArg (fun z => some b :: z) (List.map_congr_left (fun q _ => est q))
/-- what the class settles at a line's end -/
theorem st_se {its so : List Nat} {R : Nat → Nat → Option Nat} (hn : its.Nodup) (h : its.map (fun q => R q 6) = so.map some) (h8 : ∀ s ∈ so, s < 8) : its.map (fun q => st2 (st1 R none its) its q 6) = (se2 (se1 none so)).map some :=
  st2_se its (se1 none so) (st1 R none its) hn (st1_se its so R none none hn h h8 (Or.inl ⟨rfl, rfl⟩)) (se1_len so none h8)
