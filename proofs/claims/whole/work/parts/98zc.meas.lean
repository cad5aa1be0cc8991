/-! Pure: what setScripts makes, in few words. By hand. -/
/-- how far the upper script is raised, the lower one lowered -/
def vUp (s : Nat) (cr h ud : Int32) : Int32 := ms (ms ((if cr = 0 then 4 else 3) * yS s) (h - 2 * yS s)) (ud + yS s)
def vD0 (s : Nat) (d lh : Int32) : Int32 := ms (ms (2 * yS s) (d + yS s / 2)) (lh - 4 * yS s)
def vDn (s : Nat) (up ud lh d0 : Int32) : Int32 := if (up - ud) - (lh - d0) < 4 * yT s then (d0 + 4 * yT s) - ((up - ud) - (lh - d0)) else d0
def vLx (A : Nat → Nat → Int32) (n s : Nat) : Int32 := if A 1 n = 2 ∧ A 2 n = 73 then A 22 n - yS s else A 22 n
/-- what holds of node n's scripts u and lo -/
def ES (A : Nat → Nat → Int32) (n s u lo : Nat) : Prop :=
  if u = 0 ∧ lo = 0 then A 25 n = A 22 n ∧ A 26 n = A 23 n ∧ A 27 n = A 24 n ∧ A 28 n = 0
  else if A 1 n = 2 ∧ ¬ A 2 n = 73 ∧ s = 0 then
    A 25 n = ms (A 22 n) (ms (if u = 0 then 0 else A 25 u) (if lo = 0 then 0 else A 25 lo)) ∧ A 28 n = (A 25 n - A 22 n) / 2 ∧ (¬ u = 0 → A 29 u = (A 25 n - A 25 u) / 2 ∧ A 30 u = A 23 n + 2 * yT s + A 27 u) ∧ A 26 n = (if u = 0 then A 23 n else A 23 n + 2 * yT s + A 27 u + A 26 u) ∧ (¬ lo = 0 → A 29 lo = (A 25 n - A 25 lo) / 2 ∧ A 30 lo = -(A 24 n + 2 * yT s + A 26 lo)) ∧ A 27 n = (if lo = 0 then A 24 n else A 27 lo - -(A 24 n + 2 * yT s + A 26 lo))
  else A 28 n = 0 ∧ (¬ u = 0 → A 29 u = A 22 n ∧ A 30 u = vUp s (A 21 n) (A 23 n) (A 27 u)) ∧ A 26 n = (if u = 0 then A 23 n else ms (A 23 n) (vUp s (A 21 n) (A 23 n) (A 27 u) + A 26 u)) ∧ (¬ lo = 0 → A 29 lo = vLx A n s ∧ A 30 lo = -(if u = 0 then vD0 s (A 24 n) (A 26 lo) else vDn s (vUp s (A 21 n) (A 23 n) (A 27 u)) (A 27 u) (A 26 lo) (vD0 s (A 24 n) (A 26 lo)))) ∧ A 27 n = (if lo = 0 then A 24 n else ms (A 24 n) ((if u = 0 then vD0 s (A 24 n) (A 26 lo) else vDn s (vUp s (A 21 n) (A 23 n) (A 27 u)) (A 27 u) (A 26 lo) (vD0 s (A 24 n) (A 26 lo))) + A 27 lo)) ∧ A 25 n = (if lo = 0 then A 22 n + A 25 u + yS s / 2 else if u = 0 then ms (A 22 n) (vLx A n s + A 25 lo) + yS s / 2 else ms (A 22 n + A 25 u) (vLx A n s + A 25 lo) + yS s / 2)
set_option maxHeartbeats 4000000 in
theorem sc_es {A : Nat → Nat → Int32} {n s u lo : Nat} (hu : u ≠ 0 → u ≠ n) (hl : lo ≠ 0 → lo ≠ n) (hul : u ≠ 0 → lo ≠ u) (h0 : A 1 n = 0 → u = 0 ∧ lo = 0) : ES (rf_sc A n s u lo) n s u lo := by
  by_cases c1 : u = 0
  · by_cases c2 : lo = 0
    · simp [ES, rf_sc, c1, c2, up2, upd]
    · have k0 : ¬ A 1 n = 0 := fun z => c2 (h0 z).2
      have hl := hl c2
      have hl' : n ≠ lo := Ne.symm hl
      by_cases c4 : A 1 n = 2
      · by_cases c5 : A 2 n = 73
        · simp [ES, rf_sc, c1, c2, c4, c5, up2, upd, hl, hl', vLx, vD0]
        · by_cases c6 : s = 0
          · simp [ES, rf_sc, c1, c2, c4, c5, c6, up2, upd, hl, hl']
          · simp [ES, rf_sc, c1, c2, c4, c5, c6, up2, upd, hl, hl', vLx, vD0]
      · simp [ES, rf_sc, c1, c2, c4, k0, up2, upd, hl, hl', vLx, vD0]
  · have k0 : ¬ A 1 n = 0 := fun z => c1 (h0 z).1
    have hu := hu c1
    have hu' : n ≠ u := Ne.symm hu
    have hul1 : lo ≠ u := hul c1
    have hul2 : u ≠ lo := Ne.symm hul1
    by_cases c2 : lo = 0
    · by_cases c7 : A 21 n = 0
      · by_cases c4 : A 1 n = 2
        · by_cases c5 : A 2 n = 73
          · simp [ES, rf_sc, c1, c2, c4, c5, c7, up2, upd, hu, hu', vUp]
          · by_cases c6 : s = 0
            · simp [ES, rf_sc, c1, c2, c4, c5, c6, c7, up2, upd, hu, hu']
            · simp [ES, rf_sc, c1, c2, c4, c5, c6, c7, up2, upd, hu, hu', vUp]
        · simp [ES, rf_sc, c1, c2, c4, c7, k0, up2, upd, hu, hu', vUp]
      · by_cases c4 : A 1 n = 2
        · by_cases c5 : A 2 n = 73
          · simp [ES, rf_sc, c1, c2, c4, c5, c7, up2, upd, hu, hu', vUp]
          · by_cases c6 : s = 0
            · simp [ES, rf_sc, c1, c2, c4, c5, c6, c7, up2, upd, hu, hu']
            · simp [ES, rf_sc, c1, c2, c4, c5, c6, c7, up2, upd, hu, hu', vUp]
        · simp [ES, rf_sc, c1, c2, c4, c7, k0, up2, upd, hu, hu', vUp]
    · have hl := hl c2
      have hl' : n ≠ lo := Ne.symm hl
      by_cases c7 : A 21 n = 0
      · by_cases c8 : (ms (ms (4 * yS s) (A 23 n - 2 * yS s)) (A 27 u + yS s) - A 27 u) - (A 26 lo - ms (ms (2 * yS s) (A 24 n + yS s / 2)) (A 26 lo - 4 * yS s)) < 4 * yT s
        · by_cases c4 : A 1 n = 2
          · by_cases c5 : A 2 n = 73
            · simp [ES, rf_sc, c1, c2, c4, c5, c7, c8, up2, upd, hu, hu', hl, hl', hul1, hul2, vUp, vLx, vD0, vDn]
            · by_cases c6 : s = 0
              · simp [ES, rf_sc, c1, c2, c4, c5, c6, up2, upd, hu, hu', hl, hl', hul1, hul2]
              · simp [ES, rf_sc, c1, c2, c4, c5, c6, c7, c8, up2, upd, hu, hu', hl, hl', hul1, hul2, vUp, vLx, vD0, vDn]
          · simp [ES, rf_sc, c1, c2, c4, c7, c8, k0, up2, upd, hu, hu', hl, hl', hul1, hul2, vUp, vLx, vD0, vDn]
        · by_cases c4 : A 1 n = 2
          · by_cases c5 : A 2 n = 73
            · simp [ES, rf_sc, c1, c2, c4, c5, c7, c8, up2, upd, hu, hu', hl, hl', hul1, hul2, vUp, vLx, vD0, vDn]
            · by_cases c6 : s = 0
              · simp [ES, rf_sc, c1, c2, c4, c5, c6, up2, upd, hu, hu', hl, hl', hul1, hul2]
              · simp [ES, rf_sc, c1, c2, c4, c5, c6, c7, c8, up2, upd, hu, hu', hl, hl', hul1, hul2, vUp, vLx, vD0, vDn]
          · simp [ES, rf_sc, c1, c2, c4, c7, c8, k0, up2, upd, hu, hu', hl, hl', hul1, hul2, vUp, vLx, vD0, vDn]
      · by_cases c8 : (ms (ms (3 * yS s) (A 23 n - 2 * yS s)) (A 27 u + yS s) - A 27 u) - (A 26 lo - ms (ms (2 * yS s) (A 24 n + yS s / 2)) (A 26 lo - 4 * yS s)) < 4 * yT s
        · by_cases c4 : A 1 n = 2
          · by_cases c5 : A 2 n = 73
            · simp [ES, rf_sc, c1, c2, c4, c5, c7, c8, up2, upd, hu, hu', hl, hl', hul1, hul2, vUp, vLx, vD0, vDn]
            · by_cases c6 : s = 0
              · simp [ES, rf_sc, c1, c2, c4, c5, c6, up2, upd, hu, hu', hl, hl', hul1, hul2]
              · simp [ES, rf_sc, c1, c2, c4, c5, c6, c7, c8, up2, upd, hu, hu', hl, hl', hul1, hul2, vUp, vLx, vD0, vDn]
          · simp [ES, rf_sc, c1, c2, c4, c7, c8, k0, up2, upd, hu, hu', hl, hl', hul1, hul2, vUp, vLx, vD0, vDn]
        · by_cases c4 : A 1 n = 2
          · by_cases c5 : A 2 n = 73
            · simp [ES, rf_sc, c1, c2, c4, c5, c7, c8, up2, upd, hu, hu', hl, hl', hul1, hul2, vUp, vLx, vD0, vDn]
            · by_cases c6 : s = 0
              · simp [ES, rf_sc, c1, c2, c4, c5, c6, up2, upd, hu, hu', hl, hl', hul1, hul2]
              · simp [ES, rf_sc, c1, c2, c4, c5, c6, c7, c8, up2, upd, hu, hu', hl, hl', hul1, hul2, vUp, vLx, vD0, vDn]
          · simp [ES, rf_sc, c1, c2, c4, c7, c8, k0, up2, upd, hu, hu', hl, hl', hul1, hul2, vUp, vLx, vD0, vDn]
/-- what setScripts leaves -/
def sam (P : Nat → Nat → Prop) (A B : Nat → Nat → Int32) : Prop := ∀ k m, P k m → B k m = A k m
def sgm (P : Nat → Nat → Prop) (A : Nat → Nat → Int32) (j : Nat) (g : Nat → Int32) : Prop := ∀ m, P j m → g m = A j m
theorem sam_0 {P : Nat → Nat → Prop} {A : Nat → Nat → Int32} : sam P A A := fun _ _ _ => rfl
theorem sgm_0 {P : Nat → Nat → Prop} {A : Nat → Nat → Int32} {j : Nat} : sgm P A j (A j) := fun _ _ => rfl
theorem sam_u {P : Nat → Nat → Prop} {A B : Nat → Nat → Int32} {j : Nat} {g : Nat → Int32} (h : sam P A B) (hg : sgm P A j g) : sam P A (up2 B j g) := fun k m hP => by
  unfold up2
  by_cases e : k = j
  · rw [if_pos e]; subst e; exact hg m hP
  · rw [if_neg e]; exact h k m hP
theorem sgm_u {P : Nat → Nat → Prop} {A : Nat → Nat → Int32} {j i : Nat} {g : Nat → Int32} {v : Int32} (hg : sgm P A j g) (hi : ¬ P j i) : sgm P A j (upd g i v) := fun m hP => by
  have e : m ≠ i := fun e => by rw [e] at hP; exact hi hP
  rw [upd_n e]
  exact hg m hP
theorem sam_i {P : Nat → Nat → Prop} {A B B' : Nat → Nat → Int32} {c : Prop} [Decidable c] (h : c → sam P A B) (h' : ¬ c → sam P A B') : sam P A (if c then B else B') := by
  split
  · next e => exact h e
  · next e => exact h' e
theorem sc_k {A : Nat → Nat → Int32} {n s u lo : Nat} : sam (fun k m => ¬ ((25 ≤ k ∧ k ≤ 28 ∧ m = n) ∨ ((k = 29 ∨ k = 30) ∧ ((m = u ∧ ¬ u = 0) ∨ (m = lo ∧ ¬ lo = 0))))) A (rf_sc A n s u lo) := by
  unfold rf_sc
  repeat' first | exact sam_0 | exact sgm_0 | apply sam_i | apply sam_u | apply sgm_u | intro _
  all_goals simp_all
/-! Pure: the greater of two, as both sides say it. By hand. -/
theorem ms_mx (a b : Int32) : ms a b = mx a b := by
  unfold ms mx
  by_cases h : a < b
  · rw [if_pos h, if_pos (Int32.le_of_lt h)]
  · rw [if_neg h]
    by_cases e : a ≤ b
    · rw [if_pos e]; exact Int32.le_antisymm (Int32.not_lt.mp h) e
    · rw [if_neg e]
theorem mx_toInt (a b : Int32) : (mx a b).toInt = if a.toInt < b.toInt then b.toInt else a.toInt := by
  unfold mx
  by_cases h : a < b
  · rw [if_pos h, if_pos (Int32.lt_iff_toInt_lt.mp h)]
  · rw [if_neg h, if_neg (fun z => h (Int32.lt_iff_toInt_lt.mpr z))]
theorem mx_comm (a b : Int32) : mx a b = mx b a := by
  apply Int32.toInt_inj.mp
  rw [mx_toInt, mx_toInt]
  split <;> split <;> omega
theorem mx_assoc (a b c : Int32) : mx (mx a b) c = mx a (mx b c) := by
  apply Int32.toInt_inj.mp
  rw [mx_toInt, mx_toInt, mx_toInt, mx_toInt]
  repeat' split
  all_goals omega
