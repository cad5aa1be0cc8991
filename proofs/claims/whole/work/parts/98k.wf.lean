/-! Pure: such a tree is one that the class can set. By hand. -/
theorem lkR_ch {R : Nat → Nat → Option Nat} : ∀ (xs : List XT) (k : Nat), lkR R xs → xs.length ≤ k → chX R 14 (k + 1) (xs.head?.map (fun z => z.1)) = xs.map (fun z => z.1)
  | [], _, _, _ => rfl
  | q :: t, k, h, hk => by
    obtain ⟨k, rfl⟩ : ∃ z, k = z + 1 := ⟨k - 1, by rw [List.length_cons] at hk; omega⟩
    show q.1 :: chX R 14 (k + 1) (R q.1 14) = _
    rw [h.1, lkR_ch t k h.2 (by rw [List.length_cons] at hk; omega)]
    rfl
theorem lkL_ch {RL : Nat → Nat → Option Nat} : ∀ (xs : List XT) (k : Nat), lkL RL xs → xs.length ≤ k → chX RL 8 (k + 1) (xs.head?.map (fun z => z.2.1)) = xs.map (fun z => z.2.1)
  | [], _, _, _ => rfl
  | q :: t, k, h, hk => by
    obtain ⟨k, rfl⟩ : ∃ z, k = z + 1 := ⟨k - 1, by rw [List.length_cons] at hk; omega⟩
    show q.2.1 :: chX RL 8 (k + 1) (RL q.2.1 8) = _
    rw [h.1, lkL_ch t k h.2 (by rw [List.length_cons] at hk; omega)]
    rfl
theorem head_map {α β : Type} (f : α → β) : ∀ t : List α, (t.map f).head? = t.head?.map f
  | [] => rfl
  | _ :: _ => rfl
theorem lkR_nx {R : Nat → Nat → Option Nat} : ∀ (xs : List XT), lkR R xs → nxC R 14 (xs.map (fun z => z.1))
  | [], _ => trivial
  | q :: t, h => ⟨by rw [head_map]; exact h.1, lkR_nx t h.2⟩
theorem lkL_nx {RL : Nat → Nat → Option Nat} : ∀ (xs : List XT), lkL RL xs → nxC RL 8 (xs.map (fun z => z.2.1))
  | [], _ => trivial
  | q :: t, h => ⟨by rw [head_map]; exact h.1, lkL_nx t h.2⟩
theorem chn_len : ∀ (xs : List XT) (i l i' l' : Nat), chn i l xs i' l' → (∀ q ∈ xs, q.1 < q.2.2.1) → xs.length + i ≤ i'
  | [], i, l, i', l', h, _ => by have := h.1; rw [List.length_nil]; omega
  | q :: t, i, l, i', l', h, hq => by
    have g := chn_len t _ _ _ _ h.2.2 (fun z hz => hq z (List.mem_cons_of_mem _ hz))
    have g2 := hq q List.mem_cons_self
    have e1 := h.1
    rw [List.length_cons]
    omega
theorem chn_lenL : ∀ (xs : List XT) (i l i' l' : Nat), chn i l xs i' l' → (∀ q ∈ xs, q.2.1 < q.2.2.2) → xs.length + l ≤ l'
  | [], i, l, i', l', h, _ => by have := h.2; rw [List.length_nil]; omega
  | q :: t, i, l, i', l', h, hq => by
    have g := chn_lenL t _ _ _ _ h.2.2 (fun z hz => hq z (List.mem_cons_of_mem _ hz))
    have g2 := hq q List.mem_cons_self
    have e1 := h.2.1
    rw [List.length_cons]
    omega
/-- each part lies within -/
theorem chn_in : ∀ (xs : List XT) (i l i' l' : Nat), chn i l xs i' l' → (∀ q ∈ xs, q.1 ≤ q.2.2.1 ∧ q.2.1 ≤ q.2.2.2) → ∀ q ∈ xs, i ≤ q.1 ∧ l ≤ q.2.1 ∧ q.2.2.1 ≤ i' ∧ q.2.2.2 ≤ l'
  | [], _, _, _, _, _, _, q, hq => absurd hq List.not_mem_nil
  | p :: t, i, l, i', l', h, hle, q, hq => by
    have g := chn_in t _ _ _ _ h.2.2 (fun z hz => hle z (List.mem_cons_of_mem _ hz))
    have g2 := hle p List.mem_cons_self
    have g3 := chn_le (P := fun _ _ _ _ => False) (fun _ _ _ _ z => z.elim) t _ _ _ _ h.2.2 (fun z hz => hle z (List.mem_cons_of_mem _ hz))
    have e1 := h.1
    have e2 := h.2.1
    rcases List.mem_cons.mp hq with rfl | hq
    · omega
    · have := g q hq
      omega
theorem se1_len : ∀ (so : List Nat) (bf : Option Nat), (∀ s ∈ so, s < 8) → ∀ s ∈ se1 bf so, s < 8
  | [], _, _, s, hs => absurd hs List.not_mem_nil
  | a :: t, bf, h, s, hs => by
    unfold se1 at hs
    rcases List.mem_cons.mp hs with rfl | hs
    · split
      · omega
      · exact h a List.mem_cons_self
    · exact se1_len t _ (fun z hz => h z (List.mem_cons_of_mem _ hz)) s hs
theorem se2_len : ∀ (so : List Nat), (∀ s ∈ so, s < 8) → ∀ s ∈ se2 so, s < 8
  | [], _, s, hs => absurd hs List.not_mem_nil
  | a :: t, h, s, hs => by
    unfold se2 at hs
    rcases List.mem_cons.mp hs with rfl | hs
    · split
      · omega
      · exact h a List.mem_cons_self
    · exact se2_len t (fun z hz => h z (List.mem_cons_of_mem _ hz)) s hs
theorem SL_wf {R RL : Nat → Nat → Option Nat} {A : Nat → Nat → Int32} {P : PR} {okN : Nat → Prop} (hP : ∀ i l i' l', P i l i' l' → i < i' ∧ l ≤ l') (h5 : ∀ i l i' l', P i l i' l' → ∃ k, k < 11 ∧ R i 5 = some k) (hN : ∀ i l i' l', P i l i' l' → i' ≤ 60 → l' ≤ 161 → okN i) {x : XT} (h : SL R RL A P x) (hi : x.2.2.1 ≤ 60) (hl : x.2.2.2 ≤ 161) : nxC R 14 (chX R 14 61 (RL x.2.1 5)) ∧ ∀ i ∈ chX R 14 61 (RL x.2.1 5), okI R okN i := by
  obtain ⟨-, xs, so, h1, h2, h3, h4, h5a, h6, h7, h8, h9⟩ := h
  have hle : ∀ q ∈ xs, q.1 < q.2.2.1 ∧ q.2.1 ≤ q.2.2.2 := fun q hq => SI_le hP (h2 q hq).1
  have hin := chn_in xs _ _ _ _ h1 (fun q hq => by have := hle q hq; omega)
  have hlen := chn_len xs _ _ _ _ h1 (fun q hq => (hle q hq).1)
  have ech : chX R 14 61 (RL x.2.1 5) = xs.map (fun z => z.1) := by rw [h3]; exact lkR_ch xs 60 h5a (by omega)
  rw [ech]
  refine ⟨lkR_nx xs h5a, fun i hi9 => ?_⟩
  obtain ⟨q, hq, rfl⟩ := List.mem_map.mp hi9
  have g := hin q hq
  have g2 := hle q hq
  obtain ⟨⟨i1, l1, ou, ol, s1, s2, s3, s4, s5, s6, s7⟩, -, -⟩ := h2 q hq
  refine ⟨by omega, hN _ _ _ _ s1 (by omega) (by omega), h5 _ _ _ _ s1, ?_, fun u hu => ?_, fun u hu => ?_⟩
  · have m1 : R q.1 6 ∈ xs.map (fun q => R q.1 6) := List.mem_map.mpr ⟨q, hq, rfl⟩
    rw [h9] at m1
    obtain ⟨a, ha, e⟩ := List.mem_map.mp m1
    exact ⟨a, se2_len _ (se1_len _ _ h8) a ha, e.symm⟩
  · rw [s3.1] at hu
    obtain ⟨p, hp, rfl⟩ := Option.map_eq_some_iff.mp hu
    obtain ⟨g3, g4⟩ := s5 p hp
    have := hP _ _ _ _ g3.1
    exact ⟨by omega, hN _ _ _ _ g3.1 (by omega) (by omega)⟩
  · rw [s3.2] at hu
    obtain ⟨p, hp, rfl⟩ := Option.map_eq_some_iff.mp hu
    obtain ⟨g3, g4⟩ := s6 p hp
    have := hP _ _ _ _ g3.1
    exact ⟨by omega, hN _ _ _ _ g3.1 (by omega) (by omega)⟩
theorem SN_5 {C : Nat → Nat → Int32} {R : Nat → Nat → Option Nat} {CL : Nat → Nat → Int32} {RL : Nat → Nat → Option Nat} {A : Nat → Nat → Int32} : ∀ (d i l i' l' : Nat), SN C R CL RL A d i l i' l' → ∃ k, k < 11 ∧ R i 5 = some k
  | 0, _, _, _, _, h => h.elim
  | d + 1, i, l, i', l', h => by obtain ⟨k, hk, h5, -⟩ := h; exact ⟨k, hk, h5⟩
theorem SN_wf {C : Nat → Nat → Int32} {R : Nat → Nat → Option Nat} {CL : Nat → Nat → Int32} {RL : Nat → Nat → Option Nat} {A : Nat → Nat → Int32} : ∀ (d i l i' l' : Nat), SN C R CL RL A d i l i' l' → i' ≤ 60 → l' ≤ 161 → wfN R RL d i
  | 0, _, _, _, _, h, _, _ => h.elim
  | d + 1, i, l, i', l', h, hi, hl => by
    obtain ⟨k, hk, h5, -, -, -, h⟩ := h
    have hP := SN_le (C := C) (R := R) (CL := CL) (RL := RL) (A := A) d
    have hN := SN_wf (C := C) (R := R) (CL := CL) (RL := RL) (A := A) d
    have h59 := SN_5 (C := C) (R := R) (CL := CL) (RL := RL) (A := A) d
    unfold SK at h
    refine ⟨k, hk, h5, fun c => ?_, fun c => ?_, fun c => ?_, fun c => ?_⟩
    · rw [if_neg (by omega), if_pos c] at h
      obtain ⟨e1, -, -, g, -⟩ := h
      have := SL_le hP g
      dsimp only at this e1
      exact ⟨l, e1, by omega, SL_wf hP h59 hN g hi hl⟩
    · rw [if_neg (by omega), if_neg (by omega), if_pos c] at h
      obtain ⟨i1, l1, e1, e2, -, -, g1, g2⟩ := h
      have q1 := hP _ _ _ _ g1.1
      have q2 := hP _ _ _ _ g2.1
      dsimp only at q1 q2 e1 e2
      exact ⟨_, _, e1, e2, ⟨by omega, hN _ _ _ _ g1.1 (by dsimp only; omega) (by dsimp only; omega)⟩, by omega, hN _ _ _ _ g2.1 hi hl⟩
    · rw [if_neg (by omega), if_neg (by omega), if_neg (by omega), if_pos (by omega)] at h
      obtain ⟨e1, -, -, g1⟩ := h
      have q1 := hP _ _ _ _ g1.1
      dsimp only at q1 e1
      exact ⟨_, e1, by omega, hN _ _ _ _ g1.1 hi hl⟩
    · rw [if_neg (by omega), if_neg (by omega), if_neg (by omega), if_neg (by omega)] at h
      obtain ⟨xs, hne, e1, -, -, -, g1, g2, -, g3, -⟩ := h
      have hle : ∀ q ∈ xs, q.1 ≤ q.2.2.1 ∧ q.2.1 < q.2.2.2 := fun q hq => SL_le hP (g3 q hq).1
      have hin := chn_in xs _ _ _ _ g1 (fun q hq => by have := hle q hq; omega)
      have hlen := chn_lenL xs _ _ _ _ g1 (fun q hq => (hle q hq).2)
      obtain ⟨q, t, rfl⟩ : ∃ q t, xs = q :: t := by
        cases xs with
        | nil => exact absurd rfl hne
        | cons q t => exact ⟨q, t, rfl⟩
      have e9 : q.2.1 = l := g1.2.1
      have ech := lkL_ch (q :: t) 161 g2 (by dsimp only at hlen; omega)
      have ech : chX RL 8 162 (some q.2.1) = q.2.1 :: t.map (fun z => z.2.1) := ech
      dsimp only at e1
      rw [← e9] at e1
      have enx : nxC RL 8 (q.2.1 :: t.map (fun z : XT => z.2.1)) := lkL_nx (q :: t) g2
      refine ⟨q.2.1, t.map (fun z : XT => z.2.1), e1, ech, enx, fun j hj => ?_, fun j hj => ?_⟩
      · obtain ⟨p, hp, rfl⟩ := List.mem_map.mp (show j ∈ (q :: t).map (fun z => z.2.1) from hj)
        have a1 := hin p hp
        have a2 := hle p hp
        dsimp only at a1
        omega
      · obtain ⟨p, hp, rfl⟩ := List.mem_map.mp (show j ∈ (q :: t).map (fun z => z.2.1) from hj)
        have a1 := hin p hp
        dsimp only at a1
        exact SL_wf hP h59 hN (g3 p hp).1 (by omega) (by omega)
