/-! Pure: the reference's reading as a walk from state to state. By hand. -/
/-- z comes to y -/
def Rch (L : Nat) (z y : RS) : Prop := ∃ k, ∀ m, rz_run L (k + m) z = rz_run L m y
/-- nothing good comes of z -/
def Bad (L : Nat) (z : RS) : Prop := ∃ k, ∀ m, ¬ rz_ok (rz_run L (k + m) z)
theorem Rch.refl {L : Nat} (z : RS) : Rch L z z := ⟨0, fun m => by rw [Nat.zero_add]⟩
theorem Rch.trans {L : Nat} {z y x : RS} (h : Rch L z y) (g : Rch L y x) : Rch L z x := by
  obtain ⟨k, hk⟩ := h
  obtain ⟨j, hj⟩ := g
  exact ⟨k + j, fun m => by rw [Nat.add_assoc, hk, hj]⟩
theorem Rch.bad {L : Nat} {z y : RS} (h : Rch L z y) (g : Bad L y) : Bad L z := by
  obtain ⟨k, hk⟩ := h
  obtain ⟨j, hj⟩ := g
  exact ⟨k + j, fun m => by rw [Nat.add_assoc, hk]; exact hj m⟩
theorem rz_stop {L : Nat} {A : Nat → Nat → Int32} {a N U O : Nat} {w : Int32} (h : ¬ w = 0) : ∀ m, rz_run L m (A, a, w, N, U, O) = (A, a, w, N, U, O)
  | 0 => rfl
  | m + 1 => by rw [rz_run, if_pos h]
theorem rz_turn {L : Nat} {A : Nat → Nat → Int32} {a N U O : Nat} (k : Nat) : rz_run L (k + 1) (A, a, 0, N, U, O) = if sk (A 0) L a < L then rz_run L k (rz_step L A (sk (A 0) L a) 0 N U O) else (A, sk (A 0) L a, 0, N, U, O) := by
  rw [rz_run, if_neg (Classical.not_not.mpr rfl)]
theorem Bad.wrong {L : Nat} {z : RS} (h : z.2.2.1 = 1) : Bad L z := by
  obtain ⟨A, a, w, N, U, O⟩ := z
  have h : w = 1 := h
  subst h
  refine ⟨0, fun m => ?_⟩
  rw [rz_stop (by decide)]
  exact fun g => absurd (show (1 : Int32) = 0 from g.1) (by decide)
theorem Rch.step {L : Nat} {A : Nat → Nat → Int32} {a N U O : Nat} (h : sk (A 0) L a < L) : Rch L (A, a, 0, N, U, O) (rz_step L A (sk (A 0) L a) 0 N U O) :=
  ⟨1, fun m => by rw [Nat.add_comm, rz_run, if_neg (by decide), if_pos h]⟩
theorem rz_end {L : Nat} {A : Nat → Nat → Int32} {a N U O : Nat} (h : ¬ sk (A 0) L a < L) (m : Nat) : rz_run L (1 + m) (A, a, 0, N, U, O) = (A, sk (A 0) L a, 0, N, U, O) := by
  rw [Nat.add_comm, rz_run, if_neg (by decide), if_neg h]
theorem Bad.ended {L : Nat} {A : Nat → Nat → Int32} {a N U O : Nat} (h : ¬ sk (A 0) L a < L) (hO : ¬ O = 1) : Bad L (A, a, 0, N, U, O) :=
  ⟨1, fun m => by rw [rz_end h]; exact fun g => hO g.2⟩
theorem rz_step_begin {L : Nat} {A : Nat → Nat → Int32} {a N U O : Nat} (h : ¬ A 16 (O - 1) ≤ 3 ∨ rz_in A L a N U O = none) : rz_step L A a 0 N U O = rz_begin A L a 0 N U O := by
  unfold rz_step
  by_cases e : A 16 (O - 1) ≤ 3
  · rw [if_pos e]
    rcases h with h | h
    · exact absurd e h
    · rw [h]
  · rw [if_neg e]
theorem rz_step_in {L : Nat} {A : Nat → Nat → Int32} {a N U O : Nat} {y : RS} (e : A 16 (O - 1) ≤ 3) (h : rz_in A L a N U O = some y) : rz_step L A a 0 N U O = y := by
  unfold rz_step
  rw [if_pos e, h]
/-- enough turns are enough -/
theorem rz_stable {L : Nat} (hJ : rz_J L) : ∀ (k : Nat) (A : Nat → Nat → Int32) (a N U O : Nat), rz_I L (A, a, 0, N, U, O) → L < k + a → ∀ m, rz_run L (k + 1 + m) (A, a, 0, N, U, O) = rz_run L (k + 1) (A, a, 0, N, U, O) := by
  intro k
  induction k with
  | zero =>
    intro A a N U O hI hk m
    have := (rz_I_to hI).2.2.2
    omega
  | succ k ih =>
    intro A a N U O hI hk m
    have e1 : k + 1 + 1 + m = (k + 1 + m) + 1 := by omega
    rw [e1, rz_turn, rz_turn]
    by_cases h : sk (A 0) L a < L
    · rw [if_pos h, if_pos h]
      have g := hJ A (sk (A 0) L a) N U O h (rz_I_sk hI)
      have hge := (sk_ge (A 0) L _ a rfl).1
      generalize rz_step L A (sk (A 0) L a) 0 N U O = y at g
      obtain ⟨A2, a2, w2, N2, U2, O2⟩ := y
      by_cases hw : w2 = 0
      · subst hw
        have h3 : sk (A 0) L a < a2 := g.2 rfl
        exact ih A2 a2 N2 U2 O2 g.1 (by omega) m
      · rw [rz_stop hw, rz_stop hw]
    · rw [if_neg h, if_neg h]
theorem rz_read_of {L : Nat} {A : Nat → Nat → Int32} (hL : L ≤ 160) {y : RS} (h : ∃ k, ∀ m, rz_run L (k + m) (rz_z0 A) = y) : rz_read A L = y := by
  obtain ⟨k, hk⟩ := h
  have s := rz_stable (rz_J_ok hL) (L + 1) (rf_push (rf_make A 0 0) 0 0 0 (nI 0)) 0 1 0 1 (rz_I_0 A L) (by omega)
  have e := hk (L + 2)
  rw [← e, Nat.add_comm]
  exact (s k).symm
theorem Bad.read {L : Nat} {A : Nat → Nat → Int32} (hL : L ≤ 160) (h : Bad L (rz_z0 A)) : ¬ rz_ok (rz_read A L) := by
  obtain ⟨k, hk⟩ := h
  have s := rz_stable (rz_J_ok hL) (L + 1) (rf_push (rf_make A 0 0) 0 0 0 (nI 0)) 0 1 0 1 (rz_I_0 A L) (by omega)
  have e := hk (L + 2)
  rw [Nat.add_comm] at e
  rw [show rz_run L (L + 2 + k) (rz_z0 A) = rz_read A L from s k] at e
  exact e
