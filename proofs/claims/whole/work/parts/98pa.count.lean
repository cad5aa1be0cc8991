/-! Pure: the class makes no more lines than it reads characters. By hand. -/
def gA (N : RT → Option RT) : Prop := ∀ S S' : RT, N S = some S' → S.2.2.1 ≤ S'.2.2.1 ∧ S'.2.1 + S.2.2.1 ≤ S.2.1 + S'.2.2.1
def gA1 (N : RT → Option RT) : Prop := ∀ S S' : RT, N S = some S' → S.2.2.1 ≤ S'.2.2.1 ∧ S'.2.1 + S.2.2.1 ≤ S.2.1 + S'.2.2.1 + 1
theorem sk_g (f : Nat → Int32) (L a : Nat) : a ≤ sk f L a := (sk_ge f L _ a rfl).1
theorem ga_scr {f : Nat → Int32} {L : Nat} {N1 : RT → Option RT} {i : Nat} (hN : gA N1) : ∀ (k : Nat), gA (pScr f L N1 i k)
  | 0, S, S', e => by obtain rfl := Option.some.inj e; exact ⟨Nat.le_refl _, Nat.le_refl _⟩
  | k + 1, (nc, lc, a, C, R, CL, RL), S', e => by
    unfold pScr at e
    have hs := sk_g f L a
    dsimp only
    by_cases q : hre f L (sk f L a) = 94
    · rw [if_pos q] at e
      by_cases q2 : R i 12 = none
      · rw [if_pos q2] at e
        rcases e1 : N1 (nc, lc, sk f L a + 1, C, R, CL, RL) with _ | ⟨nc1, lc1, a1, C1, R1, CL1, RL1⟩
        · rw [e1] at e; exact absurd e (by simp)
        · rw [e1] at e
          have h1 := hN _ _ e1
          have h2 := ga_scr hN k _ _ e
          dsimp only at h1 h2
          omega
      · rw [if_neg q2] at e; exact absurd e (by simp)
    · rw [if_neg q] at e
      by_cases q1 : hre f L (sk f L a) = 95
      · rw [if_pos q1] at e
        by_cases q2 : R i 13 = none
        · rw [if_pos q2] at e
          rcases e1 : N1 (nc, lc, sk f L a + 1, C, R, CL, RL) with _ | ⟨nc1, lc1, a1, C1, R1, CL1, RL1⟩
          · rw [e1] at e; exact absurd e (by simp)
          · rw [e1] at e
            have h1 := hN _ _ e1
            have h2 := ga_scr hN k _ _ e
            dsimp only at h1 h2
            omega
        · rw [if_neg q2] at e; exact absurd e (by simp)
      · rw [if_neg q1] at e
        obtain rfl := Option.some.inj e
        dsimp only
        omega
theorem ga_line {f : Nat → Int32} {L : Nat} {N N1 : RT → Option RT} {j : Nat} (hN : gA N) (hN1 : gA N1) : ∀ (t : Nat) (its : List Nat), gA (pLine f L N N1 j t its)
  | 0, _, _, _, e => nomatch e
  | t + 1, its, (nc, lc, a, C, R, CL, RL), S', e => by
    unfold pLine at e
    have hs := sk_g f L a
    dsimp only
    by_cases q : lend f L (sk f L a)
    · rw [if_pos q] at e
      obtain rfl := Option.some.inj e
      dsimp only
      omega
    · rw [if_neg q] at e
      rcases e1 : N (nc, lc, sk f L a, C, R, CL, RL) with _ | S1
      · rw [e1] at e; exact absurd e (by simp)
      · rw [e1, Option.bind_some] at e
        rcases e2 : pScr f L N1 nc 2 S1 with _ | ⟨nc2, lc2, a2, C2, R2, CL2, RL2⟩
        · rw [e2] at e; exact absurd e (by simp)
        · rw [e2, Option.bind_some] at e
          have h1 := hN _ _ e1
          have h2 := ga_scr hN1 2 _ _ e2
          have h3 := ga_line hN hN1 t _ _ _ e
          dsimp only at h1 h2 h3
          omega
theorem ga_ln {f : Nat → Int32} {L : Nat} {N N1 : RT → Option RT} (hN : gA N) (hN1 : gA N1) : gA1 (pLn f L N N1) := by
  rintro ⟨nc, lc, a, C, R, CL, RL⟩ S' e
  simp only [pLn] at e
  by_cases q : lc < 161
  · rw [if_pos q] at e
    have h3 := ga_line hN hN1 _ _ _ _ e
    dsimp only at h3 ⊢
    omega
  · rw [if_neg q] at e; exact absurd e (by simp)
theorem ga_cell {f : Nat → Int32} {L : Nat} {L1 : RT → Option RT} {i : Nat} (hL : gA1 L1) : ∀ (t row col : Nat) (last : Option Nat), gA (pCell f L L1 i t row col last)
  | 0, _, _, _, _, _, e => nomatch e
  | t + 1, row, col, last, (nc, lc, a, C, R, CL, RL), S', e => by
    unfold pCell at e
    dsimp only
    by_cases q : row < 8 ∧ col < 8
    · rw [if_pos q] at e
      rcases e1 : L1 (nc, lc, a, C, R, CL, RL) with _ | ⟨nc1, lc1, a1, C1, R1, CL1, RL1⟩
      · rw [e1] at e; exact absurd e (by simp)
      · rw [e1] at e
        simp only [Option.bind_some] at e
        have h1 := hL _ _ e1
        dsimp only at h1
        have hs := sk_g f L a1
        by_cases q1 : hre f L (sk f L a1) = 125
        · rw [if_pos q1] at e
          obtain rfl := Option.some.inj e
          dsimp only
          omega
        · rw [if_neg q1] at e
          by_cases q2 : hre f L (sk f L a1) = 38
          · rw [if_pos q2] at e
            have h2 := ga_cell hL t _ _ _ _ _ e
            dsimp only at h2
            omega
          · rw [if_neg q2] at e
            by_cases q3 : hre f L (sk f L a1) = 92 ∧ hre f L (sk f L a1 + 1) = 92
            · rw [if_pos q3] at e
              have h2 := ga_cell hL t _ _ _ _ _ e
              dsimp only at h2
              omega
            · rw [if_neg q3] at e; exact absurd e (by simp)
    · rw [if_neg q] at e; exact absurd e (by simp)
theorem ga_parts {f : Nat → Int32} {L : Nat} {N1 L1 : RT → Option RT} {k i : Nat} (hN : gA N1) (hL : gA1 L1) : gA (pParts f L N1 L1 k i) := by
  rintro ⟨nc, lc, a, C, R, CL, RL⟩ S' e
  simp only [pParts] at e
  dsimp only
  by_cases q1 : k = 1
  · rw [if_pos q1] at e
    rcases e1 : L1 (nc, lc, a, C, R, CL, RL) with _ | ⟨nc1, lc1, a1, C1, R1, CL1, RL1⟩
    · rw [e1] at e; exact absurd e (by simp)
    · rw [e1] at e
      simp only [Option.bind_some] at e
      have h1 := hL _ _ e1
      have hs := sk_g f L a1
      dsimp only at h1
      by_cases q : hre f L (sk f L a1) = 125
      · rw [if_pos q] at e
        obtain rfl := Option.some.inj e
        dsimp only
        omega
      · rw [if_neg q] at e; exact absurd e (by simp)
  · rw [if_neg q1] at e
    by_cases q5 : k = 5
    · rw [if_pos q5] at e
      rcases e1 : N1 (nc, lc, a, C, R, CL, RL) with _ | ⟨nc1, lc1, a1, C1, R1, CL1, RL1⟩
      · rw [e1] at e; exact absurd e (by simp)
      · rw [e1] at e
        simp only [Option.bind_some] at e
        rcases e2 : N1 (nc1, lc1, a1, C1, sT R1 i 9 (some nc), CL1, RL1) with _ | ⟨nc2, lc2, a2, C2, R2, CL2, RL2⟩
        · rw [e2] at e; exact absurd e (by simp)
        · rw [e2] at e
          simp only [Option.bind_some] at e
          have h1 := hN _ _ e1
          have h2 := hN _ _ e2
          obtain rfl := Option.some.inj e
          dsimp only at h1 h2 ⊢
          omega
    · rw [if_neg q5] at e
      by_cases q6 : k = 6 ∨ k = 7 ∨ k = 8
      · rw [if_pos q6] at e
        rcases e1 : N1 (nc, lc, a, C, R, CL, RL) with _ | ⟨nc1, lc1, a1, C1, R1, CL1, RL1⟩
        · rw [e1] at e; exact absurd e (by simp)
        · rw [e1] at e
          simp only [Option.bind_some] at e
          have h1 := hN _ _ e1
          obtain rfl := Option.some.inj e
          dsimp only at h1 ⊢
          omega
      · rw [if_neg q6] at e
        by_cases q9 : k = 9
        · rw [if_pos q9] at e
          simp only [pSides] at e
          by_cases q : isSd (hre f L (sk f L a))
          · rw [if_pos q] at e
            rcases e1 : L1 (nc, lc, sk f L a + 1, sT C i 7 (hre f L (sk f L a)), R, CL, RL) with _ | ⟨nc1, lc1, a1, C1, R1, CL1, RL1⟩
            · rw [e1] at e; exact absurd e (by simp)
            · rw [e1] at e
              simp only [Option.bind_some] at e
              have h1 := hL _ _ e1
              dsimp only at h1
              have s1 := sk_g f L a
              have s2 := sk_g f L a1
              have s3 := sk_g f L (sk f L a1 + 6)
              by_cases q1 : scm f L (sk f L a1) 0
              · rw [if_pos q1] at e
                by_cases q2 : isSd (hre f L (sk f L (sk f L a1 + 6)))
                · rw [if_pos q2] at e
                  obtain rfl := Option.some.inj e
                  dsimp only
                  omega
                · rw [if_neg q2] at e; exact absurd e (by simp)
              · rw [if_neg q1] at e; exact absurd e (by simp)
          · rw [if_neg q] at e; exact absurd e (by simp)
        · rw [if_neg q9] at e
          by_cases q10 : k = 10
          · rw [if_pos q10] at e
            simp only [pCells] at e
            by_cases q : hre f L (sk f L a) = 123
            · rw [if_pos q] at e
              have h1 := ga_cell hL _ _ _ _ _ _ e
              have s1 := sk_g f L a
              dsimp only at h1
              omega
            · rw [if_neg q] at e; exact absurd e (by simp)
          · rw [if_neg q10] at e
            obtain rfl := Option.some.inj e
            exact ⟨Nat.le_refl _, Nat.le_refl _⟩
theorem pN_gA (f : Nat → Int32) (L : Nat) : ∀ d, gA (pN f L d)
  | 0 => fun S _ e => absurd ((pN_0 f L S).symm.trans e) (by simp)
  | d + 1 => by
    have h1 := pN_gA f L d
    have h2 : gA (pN f L (d - 1)) := match d, h1 with
      | 0, h => h
      | d + 1, _ => pN_gA f L d
    rw [pN_s]
    rintro ⟨nc, lc, a, C, R, CL, RL⟩ S' e
    simp only [pNu] at e
    by_cases q : nc < 60
    · rw [if_pos q] at e
      rcases eh : rdHead f L (sk f L a) with _ | ⟨k, a', cd, t⟩
      · rw [eh] at e; exact absurd e (by simp)
      · rw [eh] at e
        simp only [Option.bind_some] at e
        have hh := rdHead_ok eh
        have s1 := sk_g f L a
        have h3 := ga_parts h1 (ga_ln h1 h2) _ _ e
        dsimp only at h3 ⊢
        omega
    · rw [if_neg q] at e; exact absurd e (by simp)
theorem pL_gA (f : Nat → Int32) (L d : Nat) : gA1 (pL f L d) := ga_ln (pN_gA f L d) (pN_gA f L (d - 1))
