/-! Pure: what the reference's items become. By hand. -/
theorem tr1_a : ∀ s, s < 8 → ∀ a, a < 8 → tr1 (nI a) (nI s) = nI (if s = 2 ∧ ((some a : Option Nat) = none ∨ some a = some 2 ∨ some a = some 1 ∨ some a = some 3 ∨ some a = some 4 ∨ some a = some 6) then 0 else s) := by decide
theorem tr1_m : ∀ s, s < 8 → tr1 (-1) (nI s) = nI (if s = 2 ∧ ((none : Option Nat) = none ∨ (none : Option Nat) = some 2 ∨ (none : Option Nat) = some 1 ∨ (none : Option Nat) = some 3 ∨ (none : Option Nat) = some 4 ∨ (none : Option Nat) = some 6) then 0 else s) := by decide
theorem tr2_a : ∀ s, s < 8 → ∀ a, a < 8 → tr2 (nI s) (nI a) = nI (if s = 2 ∧ ((some a : Option Nat) = none ∨ some a = some 3 ∨ some a = some 5 ∨ some a = some 6) then 0 else s) := by decide
theorem tr2_m : ∀ s, s < 8 → tr2 (nI s) 5 = nI (if s = 2 ∧ ((none : Option Nat) = none ∨ (none : Option Nat) = some 3 ∨ (none : Option Nat) = some 5 ∨ (none : Option Nat) = some 6) then 0 else s) := by decide
theorem rl1_ne {i : Nat} : ∀ (t : List Nat) (bf : Int32) (A : Nat → Nat → Int32), i ∉ t → rl1 t bf A 33 i = A 33 i
  | [], _, _, _ => rfl
  | j :: t, bf, A, h => (rl1_ne t _ _ (fun z => h (List.mem_cons_of_mem _ z))).trans (upd_n (fun z => h (z ▸ List.mem_cons_self)))
theorem rl2_ne {i : Nat} : ∀ (t : List Nat) (A : Nat → Nat → Int32), i ∉ t → rl2 t A 33 i = A 33 i
  | [], _, _ => rfl
  | j :: t, A, h => (rl2_ne t _ (fun z => h (List.mem_cons_of_mem _ z))).trans (upd_n (fun z => h (z ▸ List.mem_cons_self)))
theorem rl1_se : ∀ (ns so : List Nat) (A : Nat → Nat → Int32) (bf : Int32) (sbf : Option Nat), ns.Nodup → ns.map (A 4) = so.map nI → (∀ s ∈ so, s < 8) → (bf = -1 ∧ sbf = none ∨ ∃ a, a < 8 ∧ bf = nI a ∧ sbf = some a) → ns.map (fun q => rl1 ns bf A 33 q) = (se1 sbf so).map nI
  | [], [], _, _, _, _, _, _, _ => rfl
  | [], s :: so, _, _, _, _, h, _, _ => by cases h
  | i :: t, [], _, _, _, _, h, _, _ => by cases h
  | i :: t, s :: so, A, bf, sbf, hn, h, h8, hb => by
    have hn1 : i ∉ t := (List.nodup_cons.mp hn).1
    have hn2 : t.Nodup := (List.nodup_cons.mp hn).2
    have e1 : A 4 i = nI s := (List.cons.inj h).1
    have e2 : t.map (A 4) = so.map nI := (List.cons.inj h).2
    have hs8 := h8 s List.mem_cons_self
    obtain ⟨b, hb9⟩ : ∃ b, b = (if s = 2 ∧ (sbf = none ∨ sbf = some 2 ∨ sbf = some 1 ∨ sbf = some 3 ∨ sbf = some 4 ∨ sbf = some 6) then 0 else s) := ⟨_, rfl⟩
    have hb8 : b < 8 := by rw [hb9]; split <;> omega
    have et : tr1 bf (A 4 i) = nI b := by
      rw [e1, hb9]
      rcases hb with ⟨rfl, rfl⟩ | ⟨a, ha, rfl, rfl⟩
      · exact tr1_m s hs8
      · exact tr1_a s hs8 a ha
    have est : ∀ q, rl1 (i :: t) bf A 33 q = rl1 t (nI b) (up2 A 33 (upd (A 33) i (nI b))) 33 q := fun q => by rw [← et]; rfl
    have ese : se1 sbf (s :: so) = b :: se1 (some b) so := by rw [hb9]; rfl
    have g := rl1_se t so (up2 A 33 (upd (A 33) i (nI b))) (nI b) (some b) hn2 e2 (fun z hz => h8 z (List.mem_cons_of_mem _ hz)) (Or.inr ⟨b, hb8, rfl, rfl⟩)
    rw [ese, List.map_cons, List.map_cons, ← g]
    have eh : rl1 (i :: t) bf A 33 i = nI b := by rw [est, rl1_ne t _ _ hn1]; exact upd_s
    rw [eh]
    exact congrArg (fun z => nI b :: z) (List.map_congr_left (fun q _ => est q))
theorem rl2_se : ∀ (ns so : List Nat) (A : Nat → Nat → Int32), ns.Nodup → ns.map (A 33) = so.map nI → (∀ s ∈ so, s < 8) → ns.map (fun q => rl2 ns A 33 q) = (se2 so).map nI
  | [], [], _, _, _, _ => rfl
  | [], s :: so, _, _, h, _ => by cases h
  | i :: t, [], _, _, h, _ => by cases h
  | i :: t, s :: so, A, hn, h, h8 => by
    have hn1 : i ∉ t := (List.nodup_cons.mp hn).1
    have hn2 : t.Nodup := (List.nodup_cons.mp hn).2
    have e1 : A 33 i = nI s := (List.cons.inj h).1
    have e2 : t.map (A 33) = so.map nI := (List.cons.inj h).2
    have hs8 := h8 s List.mem_cons_self
    obtain ⟨b, hb9⟩ : ∃ b, b = (if s = 2 ∧ (so.head? = none ∨ so.head? = some 3 ∨ so.head? = some 5 ∨ so.head? = some 6) then 0 else s) := ⟨_, rfl⟩
    have et : tr2 (A 33 i) (bhd A t) = nI b := by
      rw [e1, hb9]
      rcases t with _ | ⟨j, t⟩
      · rcases so with _ | ⟨a, so⟩
        · exact tr2_m s hs8
        · cases e2
      · rcases so with _ | ⟨a, so⟩
        · cases e2
        · have hj : A 33 j = nI a := (List.cons.inj e2).1
          show tr2 (nI s) (A 33 j) = _
          rw [hj]
          exact tr2_a s hs8 a (h8 a (List.mem_cons_of_mem _ List.mem_cons_self))
    have est : ∀ q, rl2 (i :: t) A 33 q = rl2 t (up2 A 33 (upd (A 33) i (nI b))) 33 q := fun q => by rw [← et]; rfl
    have ese : se2 (s :: so) = b :: se2 so := by rw [hb9]; rfl
    have g := rl2_se t so (up2 A 33 (upd (A 33) i (nI b))) hn2 (by rw [← e2]; exact List.map_congr_left (fun q hq => upd_n (fun z => hn1 (z ▸ hq)))) (fun z hz => h8 z (List.mem_cons_of_mem _ hz))
    rw [ese, List.map_cons, List.map_cons, ← g]
    have eh : rl2 (i :: t) A 33 i = nI b := by rw [est, rl2_ne t _ hn1]; exact upd_s
    rw [eh]
    exact congrArg (fun z => nI b :: z) (List.map_congr_left (fun q _ => est q))
/-- both turns of setList -/
theorem rl_se {ns so : List Nat} {A : Nat → Nat → Int32} (hn : ns.Nodup) (h : ns.map (A 4) = so.map nI) (h8 : ∀ s ∈ so, s < 8) : ns.map (fun q => rl2 ns (rl1 ns (-1) A) 33 q) = (se2 (se1 none so)).map nI :=
  rl2_se ns (se1 none so) (rl1 ns (-1) A) hn (rl1_se ns so A (-1) none hn h h8 (Or.inl ⟨rfl, rfl⟩)) (se1_len so none h8)
