/-! What the class's reading keeps. By hand. -/
/-- S has grown out of S0: rows below S0's counts stay, but for cells of nuclei in E -/
def kp (L : Nat) (E : Nat → Nat → Prop) (S0 S : RT) : Prop := S0.1 ≤ S.1 ∧ S.1 ≤ 60 ∧ S0.2.1 ≤ S.2.1 ∧ S.2.1 ≤ 161 ∧ S.2.2.1 ≤ L ∧ (∀ q c, q < S0.1 → ¬ E q c → S.2.2.2.1 q c = S0.2.2.2.1 q c ∧ S.2.2.2.2.1 q c = S0.2.2.2.2.1 q c) ∧ (∀ q c, q < S0.2.1 → S.2.2.2.2.2.1 q c = S0.2.2.2.2.2.1 q c ∧ S.2.2.2.2.2.2 q c = S0.2.2.2.2.2.2 q c)
def kF : Nat → Nat → Prop := fun _ _ => False
def gK (L : Nat) (N : RT → Option RT) : Prop := ∀ S S' : RT, S.1 ≤ 60 → S.2.1 ≤ 161 → S.2.2.1 ≤ L → N S = some S' → kp L kF S S'
section KP
variable {L : Nat} {E : Nat → Nat → Prop} {S0 : RT} {nc lc a : Nat} {C : Nat → Nat → Int32} {R : Nat → Nat → Option Nat} {CL : Nat → Nat → Int32} {RL : Nat → Nat → Option Nat}
theorem kp_step {N : RT → Option RT} (hN : gK L N) {S S' : RT} (h : kp L E S0 S) (e : N S = some S') : kp L E S0 S' ∧ S.1 ≤ S'.1 ∧ S.2.1 ≤ S'.2.1 := by
  have h1 := hN S S' h.2.1 h.2.2.2.1 h.2.2.2.2.1 e
  refine ⟨⟨Nat.le_trans h.1 h1.1, h1.2.1, Nat.le_trans h.2.2.1 h1.2.2.1, h1.2.2.2.1, h1.2.2.2.2.1, fun q c hq hE => ?_, fun q c hq => ?_⟩, h1.1, h1.2.2.1⟩
  · have a1 := h1.2.2.2.2.2.1 q c (Nat.lt_of_lt_of_le hq h.1) (fun z => z)
    have a2 := h.2.2.2.2.2.1 q c hq hE
    exact ⟨a1.1.trans a2.1, a1.2.trans a2.2⟩
  · have a1 := h1.2.2.2.2.2.2 q c (Nat.lt_of_lt_of_le hq h.2.2.1)
    have a2 := h.2.2.2.2.2.2 q c hq
    exact ⟨a1.1.trans a2.1, a1.2.trans a2.2⟩
theorem kp_a {a' : Nat} (ha : a' ≤ L) (h : kp L E S0 (nc, lc, a, C, R, CL, RL)) : kp L E S0 (nc, lc, a', C, R, CL, RL) := ⟨h.1, h.2.1, h.2.2.1, h.2.2.2.1, ha, h.2.2.2.2.2.1, h.2.2.2.2.2.2⟩
theorem kp_R {i k : Nat} {v : Option Nat} (hi : S0.1 ≤ i ∨ E i k) (h : kp L E S0 (nc, lc, a, C, R, CL, RL)) : kp L E S0 (nc, lc, a, C, sT R i k v, CL, RL) := by
  refine ⟨h.1, h.2.1, h.2.2.1, h.2.2.2.1, h.2.2.2.2.1, fun q c hq hE => ⟨(h.2.2.2.2.2.1 q c hq hE).1, ?_⟩, h.2.2.2.2.2.2⟩
  refine Eq.trans (sT_ne ?_) (h.2.2.2.2.2.1 q c hq hE).2
  rintro ⟨rfl, rfl⟩
  exact hi.elim (fun z => absurd hq (by omega)) hE
theorem kp_C {i k : Nat} {v : Int32} (hi : S0.1 ≤ i ∨ E i k) (h : kp L E S0 (nc, lc, a, C, R, CL, RL)) : kp L E S0 (nc, lc, a, sT C i k v, R, CL, RL) := by
  refine ⟨h.1, h.2.1, h.2.2.1, h.2.2.2.1, h.2.2.2.2.1, fun q c hq hE => ⟨?_, (h.2.2.2.2.2.1 q c hq hE).2⟩, h.2.2.2.2.2.2⟩
  refine Eq.trans (sT_ne ?_) (h.2.2.2.2.2.1 q c hq hE).1
  rintro ⟨rfl, rfl⟩
  exact hi.elim (fun z => absurd hq (by omega)) hE
theorem kp_RL {i k : Nat} {v : Option Nat} (hi : S0.2.1 ≤ i) (h : kp L E S0 (nc, lc, a, C, R, CL, RL)) : kp L E S0 (nc, lc, a, C, R, CL, sT RL i k v) :=
  ⟨h.1, h.2.1, h.2.2.1, h.2.2.2.1, h.2.2.2.2.1, h.2.2.2.2.2.1, fun q c hq => ⟨(h.2.2.2.2.2.2 q c hq).1, Eq.trans (sT_ne (by omega)) (h.2.2.2.2.2.2 q c hq).2⟩⟩
theorem kp_CL {i k : Nat} {v : Int32} (hi : S0.2.1 ≤ i) (h : kp L E S0 (nc, lc, a, C, R, CL, RL)) : kp L E S0 (nc, lc, a, C, R, sT CL i k v, RL) :=
  ⟨h.1, h.2.1, h.2.2.1, h.2.2.2.1, h.2.2.2.2.1, h.2.2.2.2.2.1, fun q c hq => ⟨Eq.trans (sT_ne (by omega)) (h.2.2.2.2.2.2 q c hq).1, (h.2.2.2.2.2.2 q c hq).2⟩⟩
theorem st1_ne {q c : Nat} : ∀ (its : List Nat) (R : Nat → Nat → Option Nat) (bf : Option Nat), q ∉ its → st1 R bf its q c = R q c
  | [], _, _, _ => rfl
  | i :: t, R, bf, h => by
    show st1 (if _ then _ else _) _ t q c = _
    rw [st1_ne t _ _ (fun z => h (List.mem_cons_of_mem _ z))]
    split
    · exact sT_ne (fun z => h (z.1 ▸ List.mem_cons_self))
    · rfl
theorem st2_ne {q c : Nat} : ∀ (its : List Nat) (R : Nat → Nat → Option Nat), q ∉ its → st2 R its q c = R q c
  | [], _, _ => rfl
  | i :: t, R, h => by
    show st2 (if _ then _ else _) t q c = _
    rw [st2_ne t _ (fun z => h (List.mem_cons_of_mem _ z))]
    split
    · exact sT_ne (fun z => h (z.1 ▸ List.mem_cons_self))
    · rfl
theorem kp_st {its : List Nat} (hi : ∀ i ∈ its, S0.1 ≤ i) (h : kp L E S0 (nc, lc, a, C, R, CL, RL)) : kp L E S0 (nc, lc, a, C, st2 (st1 R none its) its, CL, RL) := by
  refine ⟨h.1, h.2.1, h.2.2.1, h.2.2.2.1, h.2.2.2.2.1, fun q c hq hE => ⟨(h.2.2.2.2.2.1 q c hq hE).1, ?_⟩, h.2.2.2.2.2.2⟩
  have hn : q ∉ its := fun z => absurd (hi q z) (by omega)
  exact (st2_ne its _ hn).trans ((st1_ne its _ _ hn).trans (h.2.2.2.2.2.1 q c hq hE).2)
end KP
theorem sk_L {f : Nat → Int32} {L a : Nat} (h : a ≤ L) : sk f L a ≤ L := (sk_ge f L _ a rfl).2 h
theorem kp_scr {f : Nat → Int32} {L : Nat} {E : Nat → Nat → Prop} {S0 : RT} {N1 : RT → Option RT} {i : Nat} (hN : gK L N1) (hi : S0.1 ≤ i ∨ (E i 12 ∧ E i 13)) : ∀ (k : Nat) (S S' : RT), kp L E S0 S → pScr f L N1 i k S = some S' → kp L E S0 S' ∧ S.1 ≤ S'.1 ∧ S.2.1 ≤ S'.2.1
  | 0, S, S', h, e => by obtain rfl := Option.some.inj e; exact ⟨h, Nat.le_refl _, Nat.le_refl _⟩
  | k + 1, (nc, lc, a, C, R, CL, RL), S', h, e => by
    unfold pScr at e
    have hs := sk_L (f := f) h.2.2.2.2.1
    by_cases q : hre f L (sk f L a) = 94
    · rw [if_pos q] at e
      have hlt := hre_lt (f := f) (L := L) (k := sk f L a) (by rw [q]; decide)
      by_cases q2 : R i 12 = none
      · rw [if_pos q2] at e
        rcases e1 : N1 (nc, lc, sk f L a + 1, C, R, CL, RL) with _ | ⟨nc1, lc1, a1, C1, R1, CL1, RL1⟩
        · rw [e1] at e; exact absurd e (by simp)
        · rw [e1] at e
          have h1 := kp_step hN (kp_a (a' := sk f L a + 1) hlt h) e1
          have h2 := kp_scr hN hi k _ _ (kp_R (i := i) (k := 12) (v := some nc) (hi.imp id And.left) h1.1) e
          exact ⟨h2.1, Nat.le_trans h1.2.1 h2.2.1, Nat.le_trans h1.2.2 h2.2.2⟩
      · rw [if_neg q2] at e; exact absurd e (by simp)
    · rw [if_neg q] at e
      by_cases q1 : hre f L (sk f L a) = 95
      · rw [if_pos q1] at e
        have hlt := hre_lt (f := f) (L := L) (k := sk f L a) (by rw [q1]; decide)
        by_cases q2 : R i 13 = none
        · rw [if_pos q2] at e
          rcases e1 : N1 (nc, lc, sk f L a + 1, C, R, CL, RL) with _ | ⟨nc1, lc1, a1, C1, R1, CL1, RL1⟩
          · rw [e1] at e; exact absurd e (by simp)
          · rw [e1] at e
            have h1 := kp_step hN (kp_a (a' := sk f L a + 1) hlt h) e1
            have h2 := kp_scr hN hi k _ _ (kp_R (i := i) (k := 13) (v := some nc) (hi.imp id And.right) h1.1) e
            exact ⟨h2.1, Nat.le_trans h1.2.1 h2.2.1, Nat.le_trans h1.2.2 h2.2.2⟩
        · rw [if_neg q2] at e; exact absurd e (by simp)
      · rw [if_neg q1] at e
        obtain rfl := Option.some.inj e
        exact ⟨kp_a hs h, Nat.le_refl _, Nat.le_refl _⟩
theorem kp_line {f : Nat → Int32} {L : Nat} {S0 : RT} {N N1 : RT → Option RT} {j : Nat} (hN : gK L N) (hN1 : gK L N1) (hj : S0.2.1 ≤ j) : ∀ (t : Nat) (its : List Nat) (S S' : RT), (∀ i ∈ its, S0.1 ≤ i) → kp L kF S0 S → pLine f L N N1 j t its S = some S' → kp L kF S0 S' ∧ S.2.1 ≤ S'.2.1
  | 0, _, _, _, _, _, e => nomatch e
  | t + 1, its, (nc, lc, a, C, R, CL, RL), S', hits, h, e => by
    unfold pLine at e
    have hs := sk_L (f := f) h.2.2.2.2.1
    by_cases q : lend f L (sk f L a)
    · rw [if_pos q] at e
      obtain rfl := Option.some.inj e
      exact ⟨kp_st hits (kp_a hs h), Nat.le_refl _⟩
    · rw [if_neg q] at e
      rcases e1 : N (nc, lc, sk f L a, C, R, CL, RL) with _ | S1
      · rw [e1] at e; exact absurd e (by simp)
      · rw [e1, Option.bind_some] at e
        have h1 := kp_step hN (kp_a (a' := sk f L a) hs h) e1
        have hn0 : S0.1 ≤ nc := h.1
        rcases e2 : pScr f L N1 nc 2 S1 with _ | ⟨nc2, lc2, a2, C2, R2, CL2, RL2⟩
        · rw [e2] at e; exact absurd e (by simp)
        · rw [e2, Option.bind_some] at e
          have h2 := kp_scr hN1 (Or.inl hn0) 2 S1 _ h1.1 e2
          have h3 : ∀ z ∈ its ++ [nc], S0.1 ≤ z := fun z hz => (List.mem_append.mp hz).elim (hits z) (fun w => by rw [List.mem_singleton.mp w]; exact hn0)
          rcases hl : its.getLast? with _ | q9
          · rw [hl] at e
            have h4 := kp_line hN hN1 hj t _ _ _ h3 (kp_RL (k := 5) (v := some nc) hj h2.1) e
            exact ⟨h4.1, Nat.le_trans h1.2.2 (Nat.le_trans h2.2.2 h4.2)⟩
          · rw [hl] at e
            have h4 := kp_line hN hN1 hj t _ _ _ h3 (kp_R (k := 14) (v := some nc) (Or.inl (hits q9 (List.mem_of_getLast? hl))) h2.1) e
            exact ⟨h4.1, Nat.le_trans h1.2.2 (Nat.le_trans h2.2.2 h4.2)⟩
theorem kp_ln {f : Nat → Int32} {L : Nat} {N N1 : RT → Option RT} (hN : gK L N) (hN1 : gK L N1) (S S' : RT) (h1 : S.1 ≤ 60) (h2 : S.2.1 ≤ 161) (h3 : S.2.2.1 ≤ L) (e : pLn f L N N1 S = some S') : kp L kF S S' ∧ S.2.1 < S'.2.1 := by
  obtain ⟨nc, lc, a, C, R, CL, RL⟩ := S
  simp only [pLn] at e
  by_cases q : lc < 161
  · rw [if_pos q] at e
    have h0 : kp L kF (nc, lc, a, C, R, CL, RL) (nc, lc + 1, a, C, R, li_c CL lc, nu_r RL lc) :=
      ⟨Nat.le_refl _, h1, Nat.le_succ _, q, h3, fun _ _ _ _ => ⟨rfl, rfl⟩, fun z c hz => ⟨congrFun (upT_ne (Nat.ne_of_lt hz)) c, congrFun (upT_ne (Nat.ne_of_lt hz)) c⟩⟩
    have h4 := kp_line hN hN1 (Nat.le_refl _) 61 [] _ _ (fun z hz => absurd hz (List.not_mem_nil)) h0 e
    exact ⟨h4.1, h4.2⟩
  · rw [if_neg q] at e; exact absurd e (by simp)
def gKL (L : Nat) (N : RT → Option RT) : Prop := gK L N ∧ ∀ S S' : RT, S.1 ≤ 60 → S.2.1 ≤ 161 → S.2.2.1 ≤ L → N S = some S' → S.2.1 < S'.2.1
theorem kp_cell {f : Nat → Int32} {L : Nat} {E : Nat → Nat → Prop} {S0 : RT} {L1 : RT → Option RT} {i : Nat} (hL : gK L L1) (hi : S0.1 ≤ i ∨ E i 11) : ∀ (t row col : Nat) (last : Option Nat) (S S' : RT), (∀ q, last = some q → S0.2.1 ≤ q) → kp L E S0 S → pCell f L L1 i t row col last S = some S' → kp L E S0 S'
  | 0, _, _, _, _, _, _, _, e => nomatch e
  | t + 1, row, col, last, (nc, lc, a, C, R, CL, RL), S', hla, h, e => by
    unfold pCell at e
    by_cases q : row < 8 ∧ col < 8
    · rw [if_pos q] at e
      have hl0 : S0.2.1 ≤ lc := h.2.2.1
      rcases e1 : L1 (nc, lc, a, C, R, CL, RL) with _ | ⟨nc1, lc1, a1, C1, R1, CL1, RL1⟩
      · rw [e1] at e; exact absurd e (by simp)
      · rw [e1] at e
        simp only [Option.bind_some] at e
        have h1 := (kp_step hL h e1).1
        have hs := sk_L (f := f) h1.2.2.2.2.1
        have h2 : ∀ a', a' ≤ L → kp L E S0 (nc1, lc1, a', C1, last.elim (sT R1 i 11 (some lc)) (fun _ => R1), sT (sT CL1 lc 6 (nI row)) lc 7 (nI col), last.elim RL1 (fun q => sT RL1 q 8 (some lc))) := by
          intro a' ha'
          rcases last with _ | z
          · exact kp_a ha' (kp_CL hl0 (kp_CL hl0 (kp_R hi h1)))
          · exact kp_a ha' (kp_CL hl0 (kp_CL hl0 (kp_RL (hla z rfl) h1)))
        have h3 : ∀ q, some lc = some q → S0.2.1 ≤ q := fun q hq => by obtain rfl := Option.some.inj hq; exact hl0
        by_cases q1 : hre f L (sk f L a1) = 125
        · rw [if_pos q1] at e
          have hlt := hre_lt (f := f) (L := L) (k := sk f L a1) (by rw [q1]; decide)
          obtain rfl := Option.some.inj e
          exact h2 _ hlt
        · rw [if_neg q1] at e
          by_cases q2 : hre f L (sk f L a1) = 38
          · rw [if_pos q2] at e
            have hlt := hre_lt (f := f) (L := L) (k := sk f L a1) (by rw [q2]; decide)
            exact kp_cell hL hi t _ _ _ _ _ h3 (h2 _ hlt) e
          · rw [if_neg q2] at e
            by_cases q3 : hre f L (sk f L a1) = 92 ∧ hre f L (sk f L a1 + 1) = 92
            · rw [if_pos q3] at e
              have hlt := hre_lt (f := f) (L := L) (k := sk f L a1 + 1) (by rw [q3.2]; decide)
              exact kp_cell hL hi t _ _ _ _ _ h3 (h2 _ hlt) e
            · rw [if_neg q3] at e; exact absurd e (by simp)
    · rw [if_neg q] at e; exact absurd e (by simp)
theorem kp_cells {f : Nat → Int32} {L : Nat} {E : Nat → Nat → Prop} {S0 : RT} {L1 : RT → Option RT} {i : Nat} (hL : gK L L1) (hi : S0.1 ≤ i ∨ E i 11) (S S' : RT) (h : kp L E S0 S) (e : pCells f L L1 i S = some S') : kp L E S0 S' := by
  obtain ⟨nc, lc, a, C, R, CL, RL⟩ := S
  simp only [pCells] at e
  by_cases q : hre f L (sk f L a) = 123
  · rw [if_pos q] at e
    have hlt := hre_lt (f := f) (L := L) (k := sk f L a) (by rw [q]; decide)
    exact kp_cell hL hi 161 0 0 none _ _ (fun z hz => nomatch hz) (kp_a hlt h) e
  · rw [if_neg q] at e; exact absurd e (by simp)
theorem kp_sides {f : Nat → Int32} {L : Nat} {E : Nat → Nat → Prop} {S0 : RT} {L1 : RT → Option RT} {i : Nat} (hL : gK L L1) (hi : S0.1 ≤ i ∨ (E i 7 ∧ E i 8 ∧ E i 11)) (S S' : RT) (h : kp L E S0 S) (e : pSides f L L1 i S = some S') : kp L E S0 S' := by
  obtain ⟨nc, lc, a, C, R, CL, RL⟩ := S
  simp only [pSides] at e
  by_cases q : isSd (hre f L (sk f L a))
  · rw [if_pos q] at e
    have hlt : sk f L a < L := hre_lt (fun z => absurd q (by rw [z]; decide))
    rcases e1 : L1 (nc, lc, sk f L a + 1, sT C i 7 (hre f L (sk f L a)), R, CL, RL) with _ | ⟨nc1, lc1, a1, C1, R1, CL1, RL1⟩
    · rw [e1] at e; exact absurd e (by simp)
    · rw [e1] at e
      simp only [Option.bind_some] at e
      have h1 := (kp_step hL (kp_C (k := 7) (hi.imp id And.left) (kp_a hlt h)) e1).1
      by_cases q1 : scm f L (sk f L a1) 0
      · rw [if_pos q1] at e
        by_cases q2 : isSd (hre f L (sk f L (sk f L a1 + 6)))
        · rw [if_pos q2] at e
          have hl2 : sk f L (sk f L a1 + 6) < L := hre_lt (fun z => absurd q2 (by rw [z]; decide))
          obtain rfl := Option.some.inj e
          exact kp_R (k := 11) (hi.imp id (fun z => z.2.2)) (kp_C (k := 8) (hi.imp id (fun z => z.2.1)) (kp_a hl2 h1))
        · rw [if_neg q2] at e; exact absurd e (by simp)
      · rw [if_neg q1] at e; exact absurd e (by simp)
  · rw [if_neg q] at e; exact absurd e (by simp)
theorem kp_parts {f : Nat → Int32} {L : Nat} {E : Nat → Nat → Prop} {S0 : RT} {N1 L1 : RT → Option RT} {k i : Nat} (hN : gK L N1) (hL : gK L L1) (hi : S0.1 ≤ i ∨ (∀ c, 7 ≤ c → c ≤ 11 → E i c)) (S S' : RT) (h : kp L E S0 S) (e : pParts f L N1 L1 k i S = some S') : kp L E S0 S' := by
  obtain ⟨nc, lc, a, C, R, CL, RL⟩ := S
  have hc : ∀ c, 7 ≤ c → c ≤ 11 → S0.1 ≤ i ∨ E i c := fun c h1 h2 => hi.imp id (fun z => z c h1 h2)
  simp only [pParts] at e
  by_cases q1 : k = 1
  · rw [if_pos q1] at e
    rcases e1 : L1 (nc, lc, a, C, R, CL, RL) with _ | ⟨nc1, lc1, a1, C1, R1, CL1, RL1⟩
    · rw [e1] at e; exact absurd e (by simp)
    · rw [e1] at e
      simp only [Option.bind_some] at e
      have h1 := (kp_step hL h e1).1
      by_cases q : hre f L (sk f L a1) = 125
      · rw [if_pos q] at e
        have hlt := hre_lt (f := f) (L := L) (k := sk f L a1) (by rw [q]; decide)
        obtain rfl := Option.some.inj e
        exact kp_R (hc 11 (by decide) (by decide)) (kp_a hlt h1)
      · rw [if_neg q] at e; exact absurd e (by simp)
  · rw [if_neg q1] at e
    by_cases q5 : k = 5
    · rw [if_pos q5] at e
      rcases e1 : N1 (nc, lc, a, C, R, CL, RL) with _ | ⟨nc1, lc1, a1, C1, R1, CL1, RL1⟩
      · rw [e1] at e; exact absurd e (by simp)
      · rw [e1] at e
        simp only [Option.bind_some] at e
        have h1 := (kp_step hN h e1).1
        rcases e2 : N1 (nc1, lc1, a1, C1, sT R1 i 9 (some nc), CL1, RL1) with _ | ⟨nc2, lc2, a2, C2, R2, CL2, RL2⟩
        · rw [e2] at e; exact absurd e (by simp)
        · rw [e2] at e
          simp only [Option.bind_some] at e
          have h2 := (kp_step hN (kp_R (k := 9) (v := some nc) (hc 9 (by decide) (by decide)) h1) e2).1
          obtain rfl := Option.some.inj e
          exact kp_R (hc 10 (by decide) (by decide)) h2
    · rw [if_neg q5] at e
      by_cases q6 : k = 6 ∨ k = 7 ∨ k = 8
      · rw [if_pos q6] at e
        rcases e1 : N1 (nc, lc, a, C, R, CL, RL) with _ | ⟨nc1, lc1, a1, C1, R1, CL1, RL1⟩
        · rw [e1] at e; exact absurd e (by simp)
        · rw [e1] at e
          simp only [Option.bind_some] at e
          have h1 := (kp_step hN h e1).1
          obtain rfl := Option.some.inj e
          exact kp_R (hc 9 (by decide) (by decide)) h1
      · rw [if_neg q6] at e
        by_cases q9 : k = 9
        · rw [if_pos q9] at e
          exact kp_sides hL (hi.imp id (fun z => ⟨z 7 (by decide) (by decide), z 8 (by decide) (by decide), z 11 (by decide) (by decide)⟩)) _ _ h e
        · rw [if_neg q9] at e
          by_cases q10 : k = 10
          · rw [if_pos q10] at e
            exact kp_cells hL (hc 11 (by decide) (by decide)) _ _ h e
          · rw [if_neg q10] at e
            obtain rfl := Option.some.inj e
            exact h
theorem kp_nu {f : Nat → Int32} {L : Nat} {N1 L1 : RT → Option RT} (hN : gK L N1) (hL : gK L L1) (nc lc a : Nat) (C : Nat → Nat → Int32) (R : Nat → Nat → Option Nat) (CL : Nat → Nat → Int32) (RL : Nat → Nat → Option Nat) (S' : RT) (h1 : nc ≤ 60) (h2 : lc ≤ 161) (h3 : a ≤ L) (e : pNu f L N1 L1 (nc, lc, a, C, R, CL, RL) = some S') : kp L kF (nc, lc, a, C, R, CL, RL) S' ∧ nc < S'.1 ∧ (∃ t, t < 8 ∧ S'.2.2.2.2.1 nc 6 = some t) ∧ S'.2.2.2.2.1 nc 14 = none := by
  simp only [pNu] at e
  by_cases q : nc < 60
  · rw [if_pos q] at e
    rcases eh : rdHead f L (sk f L a) with _ | ⟨k, a', cd, t⟩
    · rw [eh] at e; exact absurd e (by simp)
    · rw [eh] at e
      simp only [Option.bind_some] at e
      have hh := rdHead_ok eh
      have w6 : sT (sT (nu_r R nc) nc 5 (some k)) nc 6 (some t) nc 6 = some t := sT_same
      have w14 : sT (sT (nu_r R nc) nc 5 (some k)) nc 6 (some t) nc 14 = none := (sT_ne (by omega)).trans ((sT_ne (by omega)).trans (congrFun upT_same 14))
      have wl : ∀ z c, z < nc → sT (nu_c C nc) nc 7 cd z c = C z c ∧ sT (sT (nu_r R nc) nc 5 (some k)) nc 6 (some t) z c = R z c := fun z c hz => ⟨(sT_ne (by omega)).trans (congrFun (upT_ne (Nat.ne_of_lt hz)) c), (sT_ne (by omega)).trans ((sT_ne (by omega)).trans (congrFun (upT_ne (Nat.ne_of_lt hz)) c))⟩
      generalize hC : sT (nu_c C nc) nc 7 cd = C1 at *
      generalize hR : sT (sT (nu_r R nc) nc 5 (some k)) nc 6 (some t) = R1 at *
      have hk := kp_parts (E := fun z c => z = nc ∧ 7 ≤ c ∧ c ≤ 11) (S0 := (nc + 1, lc, a', C1, R1, CL, RL)) hN hL (Or.inr fun c c1 c2 => ⟨rfl, c1, c2⟩) _ _ ⟨Nat.le_refl _, q, Nat.le_refl _, h2, hh.2.1, fun _ _ _ _ => ⟨rfl, rfl⟩, fun _ _ _ => ⟨rfl, rfl⟩⟩ e
      obtain ⟨k1, k2, k3, k4, k5, k6, k7⟩ := hk
      refine ⟨⟨Nat.le_trans (Nat.le_succ _) k1, k2, k3, k4, k5, fun z c hz _ => ?_, k7⟩, k1, ⟨t, hh.2.2.2, ?_⟩, ?_⟩
      · have k8 := k6 z c (Nat.lt_succ_of_lt hz) (fun w => absurd w.1 (Nat.ne_of_lt hz))
        have k9 := wl z c hz
        exact ⟨k8.1.trans k9.1, k8.2.trans k9.2⟩
      · exact (k6 nc 6 (Nat.lt_succ_self _) (by omega)).2.trans w6
      · exact (k6 nc 14 (Nat.lt_succ_self _) (by omega)).2.trans w14
  · rw [if_neg q] at e; exact absurd e (by simp)
theorem pN_0 (f : Nat → Int32) (L : Nat) (S : RT) : pN f L 0 S = none := by rw [pN]
theorem pN_s (f : Nat → Int32) (L d : Nat) : pN f L (d + 1) = pNu f L (pN f L d) (pL f L d) := by
  funext S
  rw [pN]; rfl
/-- at each depth -/
theorem pN_gK (f : Nat → Int32) (L : Nat) : ∀ d, gK L (pN f L d) ∧ gN L (pN f L d)
  | 0 => ⟨fun S _ _ _ _ e => absurd ((pN_0 f L S).symm.trans e) (by simp), fun nc lc a C R CL RL _ _ _ _ _ _ _ _ _ _ e => absurd ((pN_0 f L (nc, lc, a, C, R, CL, RL)).symm.trans e) (by simp)⟩
  | d + 1 => by
    have h1 := (pN_gK f L d).1
    have h2 : gK L (pN f L (d - 1)) := match d, h1 with
      | 0, h => h
      | d + 1, _ => (pN_gK f L d).1
    rw [pN_s]
    have h3 : gK L (pL f L d) := fun S S' a1 a2 a3 e => (kp_ln h1 h2 S S' a1 a2 a3 e).1
    refine ⟨fun S S' a1 a2 a3 e => ?_, fun nc lc a C R CL RL nc' lc' a' C' R' CL' RL' a1 a2 a3 e => ?_⟩
    · obtain ⟨nc, lc, a, C, R, CL, RL⟩ := S
      exact (kp_nu h1 h3 nc lc a C R CL RL S' a1 a2 a3 e).1
    · have k := kp_nu h1 h3 nc lc a C R CL RL _ a1 a2 a3 e
      exact ⟨k.2.1, fun q c hq => (k.1.2.2.2.2.2.1 q c hq (fun z => z)).2, fun q c hq => (k.1.2.2.2.2.2.2 q c hq).2, k.2.2.1, k.2.2.2⟩
/-- reading keeps where boxes' pieces lie -/
def gR (N : RT → Option RT) : Prop := ∀ S S' : RT, okR S.2.2.2.1 S.2.2.2.2.2.1 → N S = some S' → okR S'.2.2.2.1 S'.2.2.2.2.2.1
theorem gr_scr {f : Nat → Int32} {L : Nat} {N1 : RT → Option RT} {i : Nat} (hN : gR N1) : ∀ (k : Nat), gR (pScr f L N1 i k)
  | 0, S, S', h, e => by obtain rfl := Option.some.inj e; exact h
  | k + 1, (nc, lc, a, C, R, CL, RL), S', h, e => by
    unfold pScr at e
    by_cases q : hre f L (sk f L a) = 94
    · rw [if_pos q] at e
      by_cases q2 : R i 12 = none
      · rw [if_pos q2] at e
        rcases e1 : N1 (nc, lc, sk f L a + 1, C, R, CL, RL) with _ | ⟨nc1, lc1, a1, C1, R1, CL1, RL1⟩
        · rw [e1] at e; exact absurd e (by simp)
        · rw [e1] at e
          have h1 := hN (nc, lc, sk f L a + 1, C, R, CL, RL) _ h e1
          exact gr_scr hN k (nc1, lc1, a1, C1, sT R1 i 12 (some nc), CL1, RL1) S' h1 e
      · rw [if_neg q2] at e; exact absurd e (by simp)
    · rw [if_neg q] at e
      by_cases q1 : hre f L (sk f L a) = 95
      · rw [if_pos q1] at e
        by_cases q2 : R i 13 = none
        · rw [if_pos q2] at e
          rcases e1 : N1 (nc, lc, sk f L a + 1, C, R, CL, RL) with _ | ⟨nc1, lc1, a1, C1, R1, CL1, RL1⟩
          · rw [e1] at e; exact absurd e (by simp)
          · rw [e1] at e
            have h1 := hN (nc, lc, sk f L a + 1, C, R, CL, RL) _ h e1
            exact gr_scr hN k (nc1, lc1, a1, C1, sT R1 i 13 (some nc), CL1, RL1) S' h1 e
        · rw [if_neg q2] at e; exact absurd e (by simp)
      · rw [if_neg q1] at e
        obtain rfl := Option.some.inj e
        exact h
theorem gr_line {f : Nat → Int32} {L : Nat} {N N1 : RT → Option RT} {j : Nat} (hN : gR N) (hN1 : gR N1) : ∀ (t : Nat) (its : List Nat), gR (pLine f L N N1 j t its)
  | 0, _, _, _, _, e => nomatch e
  | t + 1, its, (nc, lc, a, C, R, CL, RL), S', h, e => by
    unfold pLine at e
    by_cases q : lend f L (sk f L a)
    · rw [if_pos q] at e
      obtain rfl := Option.some.inj e
      exact h
    · rw [if_neg q] at e
      rcases e1 : N (nc, lc, sk f L a, C, R, CL, RL) with _ | S1
      · rw [e1] at e; exact absurd e (by simp)
      · rw [e1, Option.bind_some] at e
        rcases e2 : pScr f L N1 nc 2 S1 with _ | ⟨nc2, lc2, a2, C2, R2, CL2, RL2⟩
        · rw [e2] at e; exact absurd e (by simp)
        · rw [e2, Option.bind_some] at e
          have h1 := hN (nc, lc, sk f L a, C, R, CL, RL) _ h e1
          have h2 := gr_scr hN1 2 _ _ h1 e2
          have h3 : okR C2 CL2 := h2
          exact gr_line hN hN1 t _ (nc2, lc2, a2, C2, its.getLast?.elim R2 (fun q => sT R2 q 14 (some nc)), CL2, its.getLast?.elim (sT RL2 j 5 (some nc)) (fun _ => RL2)) S' h3 e
theorem gr_ln {f : Nat → Int32} {L : Nat} {N N1 : RT → Option RT} (hN : gR N) (hN1 : gR N1) : gR (pLn f L N N1) := by
  rintro ⟨nc, lc, a, C, R, CL, RL⟩ S' h e
  simp only [pLn] at e
  by_cases q : lc < 161
  · rw [if_pos q] at e
    exact gr_line hN hN1 _ _ (nc, lc + 1, a, C, R, li_c CL lc, nu_r RL lc) _ (okR_li h) e
  · rw [if_neg q] at e; exact absurd e (by simp)
theorem gr_cell {f : Nat → Int32} {L : Nat} {L1 : RT → Option RT} {i : Nat} (hL : gR L1) : ∀ (t row col : Nat) (last : Option Nat), gR (pCell f L L1 i t row col last)
  | 0, _, _, _, _, _, _, e => nomatch e
  | t + 1, row, col, last, (nc, lc, a, C, R, CL, RL), S', h, e => by
    unfold pCell at e
    by_cases q : row < 8 ∧ col < 8
    · rw [if_pos q] at e
      rcases e1 : L1 (nc, lc, a, C, R, CL, RL) with _ | ⟨nc1, lc1, a1, C1, R1, CL1, RL1⟩
      · rw [e1] at e; exact absurd e (by simp)
      · rw [e1] at e
        simp only [Option.bind_some] at e
        have h1 : okR C1 CL1 := hL (nc, lc, a, C, R, CL, RL) _ h e1
        have h2 : okR C1 (sT (sT CL1 lc 6 (nI row)) lc 7 (nI col)) := okR_l7 (okR_l6 h1 q.1) q.2
        by_cases q1 : hre f L (sk f L a1) = 125
        · rw [if_pos q1] at e
          obtain rfl := Option.some.inj e
          exact h2
        · rw [if_neg q1] at e
          by_cases q2 : hre f L (sk f L a1) = 38
          · rw [if_pos q2] at e
            exact gr_cell hL t _ _ _ (nc1, lc1, sk f L a1 + 1, C1, last.elim (sT R1 i 11 (some lc)) (fun _ => R1), sT (sT CL1 lc 6 (nI row)) lc 7 (nI col), last.elim RL1 (fun q => sT RL1 q 8 (some lc))) S' h2 e
          · rw [if_neg q2] at e
            by_cases q3 : hre f L (sk f L a1) = 92 ∧ hre f L (sk f L a1 + 1) = 92
            · rw [if_pos q3] at e
              exact gr_cell hL t _ _ _ (nc1, lc1, sk f L a1 + 2, C1, last.elim (sT R1 i 11 (some lc)) (fun _ => R1), sT (sT CL1 lc 6 (nI row)) lc 7 (nI col), last.elim RL1 (fun q => sT RL1 q 8 (some lc))) S' h2 e
            · rw [if_neg q3] at e; exact absurd e (by simp)
    · rw [if_neg q] at e; exact absurd e (by simp)
theorem gr_parts {f : Nat → Int32} {L : Nat} {N1 L1 : RT → Option RT} {k i : Nat} (hN : gR N1) (hL : gR L1) : gR (pParts f L N1 L1 k i) := by
  rintro ⟨nc, lc, a, C, R, CL, RL⟩ S' h e
  simp only [pParts] at e
  by_cases q1 : k = 1
  · rw [if_pos q1] at e
    rcases e1 : L1 (nc, lc, a, C, R, CL, RL) with _ | ⟨nc1, lc1, a1, C1, R1, CL1, RL1⟩
    · rw [e1] at e; exact absurd e (by simp)
    · rw [e1] at e
      simp only [Option.bind_some] at e
      have h1 := hL _ _ h e1
      by_cases q : hre f L (sk f L a1) = 125
      · rw [if_pos q] at e
        obtain rfl := Option.some.inj e
        exact h1
      · rw [if_neg q] at e; exact absurd e (by simp)
  · rw [if_neg q1] at e
    by_cases q5 : k = 5
    · rw [if_pos q5] at e
      rcases e1 : N1 (nc, lc, a, C, R, CL, RL) with _ | ⟨nc1, lc1, a1, C1, R1, CL1, RL1⟩
      · rw [e1] at e; exact absurd e (by simp)
      · rw [e1] at e
        simp only [Option.bind_some] at e
        rcases e2 : N1 (nc1, lc1, a1, C1, sT R1 i 9 (some nc), CL1, RL1) with _ | ⟨nc2, lc2, a2, C2, R2, CL2, RL2⟩
        · rw [e2] at e; exact absurd e (by simp)
        · rw [e2] at e
          simp only [Option.bind_some] at e
          have h1 : okR C1 CL1 := hN _ _ h e1
          have h2 := hN (nc1, lc1, a1, C1, sT R1 i 9 (some nc), CL1, RL1) _ h1 e2
          obtain rfl := Option.some.inj e
          exact h2
    · rw [if_neg q5] at e
      by_cases q6 : k = 6 ∨ k = 7 ∨ k = 8
      · rw [if_pos q6] at e
        rcases e1 : N1 (nc, lc, a, C, R, CL, RL) with _ | ⟨nc1, lc1, a1, C1, R1, CL1, RL1⟩
        · rw [e1] at e; exact absurd e (by simp)
        · rw [e1] at e
          simp only [Option.bind_some] at e
          have h1 := hN _ _ h e1
          obtain rfl := Option.some.inj e
          exact h1
      · rw [if_neg q6] at e
        by_cases q9 : k = 9
        · rw [if_pos q9] at e
          simp only [pSides] at e
          by_cases q : isSd (hre f L (sk f L a))
          · rw [if_pos q] at e
            rcases e1 : L1 (nc, lc, sk f L a + 1, sT C i 7 (hre f L (sk f L a)), R, CL, RL) with _ | ⟨nc1, lc1, a1, C1, R1, CL1, RL1⟩
            · rw [e1] at e; exact absurd e (by simp)
            · rw [e1] at e
              simp only [Option.bind_some] at e
              have h1 : okR C1 CL1 := hL (nc, lc, sk f L a + 1, sT C i 7 (hre f L (sk f L a)), R, CL, RL) _ (okR_7 h) e1
              by_cases q1 : scm f L (sk f L a1) 0
              · rw [if_pos q1] at e
                by_cases q2 : isSd (hre f L (sk f L (sk f L a1 + 6)))
                · rw [if_pos q2] at e
                  obtain rfl := Option.some.inj e
                  exact okR_8 h1
                · rw [if_neg q2] at e; exact absurd e (by simp)
              · rw [if_neg q1] at e; exact absurd e (by simp)
          · rw [if_neg q] at e; exact absurd e (by simp)
        · rw [if_neg q9] at e
          by_cases q10 : k = 10
          · rw [if_pos q10] at e
            simp only [pCells] at e
            by_cases q : hre f L (sk f L a) = 123
            · rw [if_pos q] at e
              exact gr_cell hL _ _ _ _ (nc, lc, sk f L a + 1, C, R, CL, RL) _ h e
            · rw [if_neg q] at e; exact absurd e (by simp)
          · rw [if_neg q10] at e
            obtain rfl := Option.some.inj e
            exact h
theorem pN_gR (f : Nat → Int32) (L : Nat) : ∀ d, gR (pN f L d)
  | 0 => fun S _ _ e => absurd ((pN_0 f L S).symm.trans e) (by simp)
  | d + 1 => by
    have h1 := pN_gR f L d
    have h2 : gR (pN f L (d - 1)) := match d, h1 with
      | 0, h => h
      | d + 1, _ => pN_gR f L d
    rw [pN_s]
    rintro ⟨nc, lc, a, C, R, CL, RL⟩ S' h e
    simp only [pNu] at e
    by_cases q : nc < 60
    · rw [if_pos q] at e
      rcases eh : rdHead f L (sk f L a) with _ | ⟨k, a', cd, t⟩
      · rw [eh] at e; exact absurd e (by simp)
      · rw [eh] at e
        simp only [Option.bind_some] at e
        exact gr_parts h1 (gr_ln h1 h2) (nc + 1, lc, a', sT (nu_c C nc) nc 7 cd, sT (sT (nu_r R nc) nc 5 (some k)) nc 6 (some t), CL, RL) _ (okR_7 (okR_nu h)) e
    · rw [if_neg q] at e; exact absurd e (by simp)
theorem pL_gR (f : Nat → Int32) (L d : Nat) : gR (pL f L d) := gr_ln (pN_gR f L d) (pN_gR f L (d - 1))
theorem gK_bN {L : Nat} {N : RT → Option RT} (h : gK L N) (hr : gR N) : bN L N := fun nc lc a C R CL RL nc' lc' a' C' R' CL' RL' a1 a2 a3 a4 e => by
  have k := h _ _ a1 a2 a3 e
  exact ⟨k.1, k.2.1, k.2.2.1, k.2.2.2.1, k.2.2.2.2.1, hr (nc, lc, a, C, R, CL, RL) _ a4 e⟩
theorem pL_bL (f : Nat → Int32) (L d : Nat) : bL L (pL f L d) := fun nc lc a C R CL RL nc' lc' a' C' R' CL' RL' a1 a2 a3 a4 e => by
  have k := kp_ln (pN_gK f L d).1 (pN_gK f L (d - 1)).1 _ _ a1 a2 a3 e
  exact ⟨k.2, k.1.1, k.1.2.1, k.1.2.2.1, k.1.2.2.2.1, k.1.2.2.2.2.1, pL_gR f L d (nc, lc, a, C, R, CL, RL) _ a4 e⟩
