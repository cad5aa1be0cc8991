/-! Pure: a turn of the reference's reading keeps rz_I. By hand. -/
def rz_B (f5 f16 f17 f18 f19 : Nat → Int32) (N O : Nat) : Prop := 1 ≤ O ∧ O ≤ 8 ∧ f16 0 = 0 ∧ (∀ j, j < O → okN (f17 j) N ∧ okN (f18 j) N ∧ okN (f19 j) N)
  ∧ (∀ j, 1 ≤ j → j < O → ¬ f16 j = 0 ∧ f5 (ixI (f17 j)) = nI (j - 1)) ∧ (∀ j, j < O → f16 j ≤ 3 → ¬ f19 j = 0 → f5 (ixI (f19 j)) = nI j ∧ j ≤ 6)
abbrev rz_BA (A : Nat → Nat → Int32) (N O : Nat) : Prop := rz_B (A 5) (A 16) (A 17) (A 18) (A 19) N O
theorem rz_I_of {L : Nat} {z : RS} (h : z.2.2.1 = 0 → rz_BA z.1 z.2.2.2.1 z.2.2.2.2.2 ∧ 1 ≤ z.2.2.2.1 ∧ z.2.2.2.1 ≤ 2 * z.2.1 + 1 ∧ z.2.1 ≤ L) : rz_I L z := by
  intro hw
  obtain ⟨⟨h1, h2, h3, h4, h5, h6⟩, h7, h8, h9⟩ := h hw
  exact ⟨h1, h2, h7, h8, h9, h3, h4, h5, h6⟩
theorem rz_I_to {L : Nat} {A : Nat → Nat → Int32} {a N U O : Nat} (h : rz_I L (A, a, 0, N, U, O)) : rz_BA A N O ∧ 1 ≤ N ∧ N ≤ 2 * a + 1 ∧ a ≤ L := by
  obtain ⟨h1, h2, h7, h8, h9, h3, h4, h5, h6⟩ := h rfl
  exact ⟨⟨h1, h2, h3, h4, h5, h6⟩, h7, h8, h9⟩
theorem okN_mono {v : Int32} {N N' : Nat} (h : okN v N) (hN : N ≤ N') : okN v N' := ⟨h.1, Nat.lt_of_lt_of_le h.2 hN⟩
theorem okN_n {k N : Nat} (h : k < N) (hN : N < 2 ^ 31) : okN (nI k) N := by
  have e : ixI (nI k) = k := nI_clamp (by omega)
  exact ⟨by rw [e], by rw [e]; exact h⟩
theorem ixI_n {k : Nat} (h : k < 2 ^ 31) : ixI (nI k) = k := nI_clamp h
/-- a new node, whatever its level -/
theorem rz_B_new {f5 f16 f17 f18 f19 : Nat → Int32} {N O : Nat} (h : rz_B f5 f16 f17 f18 f19 N O) (v : Int32) {N' : Nat} (hN : N ≤ N') : rz_B (upd f5 N v) f16 f17 f18 f19 N' O := by
  obtain ⟨h1, h2, h3, h4, h5, h6⟩ := h
  refine ⟨h1, h2, h3, fun j hj => ⟨okN_mono (h4 j hj).1 hN, okN_mono (h4 j hj).2.1 hN, okN_mono (h4 j hj).2.2 hN⟩, fun j h7 h8 => ⟨(h5 j h7 h8).1, ?_⟩, fun j h7 h8 h9 => ⟨?_, (h6 j h7 h8 h9).2⟩⟩
  · rw [pk_un (by have := (h4 j h8).1.2; omega)]
    exact (h5 j h7 h8).2
  · rw [pk_un (by have := (h4 j h7).2.2.2; omega)]
    exact (h6 j h7 h8 h9).1
theorem rz_B_mono {f5 f16 f17 f18 f19 : Nat → Int32} {N O : Nat} (h : rz_B f5 f16 f17 f18 f19 N O) {N' : Nat} (hN : N ≤ N') : rz_B f5 f16 f17 f18 f19 N' O := by
  obtain ⟨h1, h2, h3, h4, h5, h6⟩ := h
  exact ⟨h1, h2, h3, fun j hj => ⟨okN_mono (h4 j hj).1 hN, okN_mono (h4 j hj).2.1 hN, okN_mono (h4 j hj).2.2 hN⟩, h5, h6⟩
/-- the level of what begins in the last frame -/
theorem rz_lv {A : Nat → Nat → Int32} {N O : Nat} (h : rz_BA A N O) : rf_lv A O (rz_u A O) = nI (O - 1) := by
  obtain ⟨h1, h2, h3, h4, h5, h6⟩ := h
  unfold rf_lv
  by_cases hO : O = 1
  · subst hO
    rw [if_pos h3]
    rfl
  · obtain ⟨q1, q2⟩ := h5 (O - 1) (by omega) (by omega)
    rw [if_neg q1, q2, nI_1]
    congr 1
    omega
theorem rz_nw {A : Nat → Nat → Int32} {N O U : Nat} {w : Int32} (h : rz_BA A N O) (hw : rz_W A O U w = 0) : O ≤ 7 ∧ w = 0 := by
  unfold rz_W rf_nw at hw
  by_cases hc : ¬ w = 0 ∨ 60 < nI (U + 1) ∨ 6 < rf_lv A O (rz_u A O)
  · rw [if_pos hc] at hw
    exact absurd hw (by decide)
  · have h9 : ¬ 6 < rf_lv A O (rz_u A O) := fun z => hc (Or.inr (Or.inr z))
    rw [rz_lv h] at h9
    refine ⟨?_, Classical.byContradiction fun z => hc (Or.inl z)⟩
    have : ¬ 6 < O - 1 := fun z => h9 ((nI_ltI (a := 6) (by decide) (by have := h.2.1; omega)).mpr z)
    omega
/-- a frame of a nucleus -/
theorem rz_B_push {f5 f16 f17 f18 f19 : Nat → Int32} {N O n : Nat} {wh ii : Int32} (h : rz_B f5 f16 f17 f18 f19 N O) (hO : O ≤ 7) (hn : n < N) (hN : N < 2 ^ 31) (hl : f5 n = nI (O - 1)) (hw : ¬ wh = 0) (hi : okN ii N) : rz_B f5 (upd f16 O wh) (upd f17 O (nI n)) (upd f18 O ii) (upd f19 O 0) N (O + 1) := by
  obtain ⟨h1, h2, h3, h4, h5, h6⟩ := h
  refine ⟨by omega, by omega, by rw [pk_un (by omega)]; exact h3, fun j hj => ?_, fun j h7 h8 => ?_, fun j h7 h8 h9 => ?_⟩
  · by_cases e : j = O
    · subst e
      rw [pk_us, pk_us, pk_us]
      exact ⟨okN_n hn hN, hi, okN_n (k := 0) (by omega) hN⟩
    · rw [pk_un e, pk_un e, pk_un e]
      exact h4 j (by omega)
  · by_cases e : j = O
    · subst e
      rw [pk_us, pk_us, ixI_n (by omega)]
      exact ⟨hw, hl⟩
    · rw [pk_un e, pk_un e]
      exact h5 j h7 (by omega)
  · by_cases e : j = O
    · subst e
      rw [pk_us] at h9
      exact absurd rfl h9
    · rw [pk_un e] at h8
      rw [pk_un e] at h9 ⊢
      exact h6 j (by omega) h8 h9
/-- an item of a list's frame -/
theorem rz_B_last {f5 f16 f17 f18 f19 : Nat → Int32} {N O n t : Nat} (h : rz_B f5 f16 f17 f18 f19 N O) (hn : n < N) (hN : N < 2 ^ 31) (hl : f5 n = nI t) (ht : t ≤ 6) : rz_B f5 f16 f17 f18 (upd f19 t (nI n)) N O := by
  obtain ⟨h1, h2, h3, h4, h5, h6⟩ := h
  refine ⟨h1, h2, h3, fun j hj => ⟨(h4 j hj).1, (h4 j hj).2.1, ?_⟩, h5, fun j h7 h8 h9 => ?_⟩
  · by_cases e : j = t
    · subst e
      rw [pk_us]
      exact okN_n hn hN
    · rw [pk_un e]
      exact (h4 j hj).2.2
  · by_cases e : j = t
    · subst e
      rw [pk_us, ixI_n (by omega)]
      exact ⟨hl, ht⟩
    · rw [pk_un e] at h9 ⊢
      exact h6 j h7 h8 h9
theorem rz_B_cell {f5 f16 f17 f18 f19 : Nat → Int32} {N O : Nat} (h : rz_B f5 f16 f17 f18 f19 N O) (hN : N + 1 < 2 ^ 31) : rz_B f5 f16 f17 (upd f18 (O - 1) (nI N)) (upd f19 (O - 1) 0) (N + 1) O := by
  obtain ⟨h1, h2, h3, h4, h5, h6⟩ := rz_B_mono h (Nat.le_succ N)
  refine ⟨h1, h2, h3, fun j hj => ⟨(h4 j hj).1, ?_, ?_⟩, h5, fun j h7 h8 h9 => ?_⟩
  · by_cases e : j = O - 1
    · subst e
      rw [pk_us]
      exact okN_n (by omega) hN
    · rw [pk_un e]
      exact (h4 j hj).2.1
  · by_cases e : j = O - 1
    · subst e
      rw [pk_us]
      exact okN_n (k := 0) (by omega) hN
    · rw [pk_un e]
      exact (h4 j hj).2.2
  · by_cases e : j = O - 1
    · subst e
      rw [pk_us] at h9
      exact absurd rfl h9
    · rw [pk_un e] at h9 ⊢
      exact h6 j h7 h8 h9
theorem rz_B_how {f5 f16 f17 f18 f19 : Nat → Int32} {N O t : Nat} (h : rz_B f5 f16 f17 f18 f19 N O) (ht : 1 ≤ t) : rz_B f5 (upd f16 t 5) f17 f18 f19 N O := by
  obtain ⟨h1, h2, h3, h4, h5, h6⟩ := h
  refine ⟨h1, h2, by rw [pk_un (by omega)]; exact h3, h4, fun j h7 h8 => ?_, fun j h7 h8 h9 => ?_⟩
  · by_cases e : j = t
    · subst e
      rw [pk_us]
      exact ⟨by decide, (h5 j h7 h8).2⟩
    · rw [pk_un e]
      exact h5 j h7 h8
  · by_cases e : j = t
    · subst e
      rw [pk_us] at h8
      exact absurd h8 (by decide)
    · rw [pk_un e] at h8
      exact h6 j h7 h8 h9
theorem rz_B_pop {f5 f16 f17 f18 f19 : Nat → Int32} {N O : Nat} (h : rz_B f5 f16 f17 f18 f19 N (O + 1)) (hO : 1 ≤ O) : rz_B f5 f16 f17 f18 f19 N O := by
  obtain ⟨h1, h2, h3, h4, h5, h6⟩ := h
  exact ⟨hO, by omega, h3, fun j hj => h4 j (by omega), fun j h7 h8 => h5 j h7 (by omega), fun j h7 h8 h9 => h6 j (by omega) h8 h9⟩
/-- what is delivered is of the last frame's level -/
theorem rz_B_del : ∀ (O : Nat) (A : Nat → Nat → Int32) (N n : Nat), rz_BA A N O → n < N → N < 2 ^ 31 → A 5 n = nI (O - 1) → O ≤ 7 → rz_BA (rf_del O A n).1 N (rf_del O A n).2
  | 0, A, N, n, h, _, _, _, _ => absurd h.1 (by omega)
  | t + 1, A, N, n, h, hn, hN, hl, ht => by
    have hl' : A 5 n = nI t := hl
    unfold rf_del
    by_cases c1 : A 16 t ≤ 3
    · rw [if_pos c1]
      have h9 := rz_B_last h hn hN hl' (by omega)
      unfold rf_dl
      by_cases c2 : A 19 t = 0
      · rw [if_pos c2]; exact h9
      · rw [if_neg c2]; exact h9
    · have ht1 : 1 ≤ t := by
        by_cases e : t = 0
        · subst e
          rw [show A 16 0 = 0 from h.2.2.1] at c1
          exact absurd (by decide) c1
        · omega
      rw [if_neg c1]
      by_cases c3 : A 16 t = 6 ∨ A 16 t = 7
      · rw [if_pos c3]
        exact rz_B_pop h ht1
      · rw [if_neg c3]
        by_cases c4 : A 16 t = 4 ∧ A 1 (ixI (A 17 t)) = 4
        · rw [if_pos c4]
          exact rz_B_how h ht1
        · rw [if_neg c4]
          obtain ⟨q1, q2⟩ := h.2.2.2.2.1 t ht1 (by omega)
          exact rz_B_del t (rf_dx A t n) N (ixI (A 17 t)) (rz_B_pop h ht1) (h.2.2.2.1 t (by omega)).1.2 hN q2 (by omega)
theorem ll_ge (f : Nat → Int32) (L a : Nat) : ∀ j k, L - (a + k) = j → k ≤ ll f L a k ∧ (a + k ≤ L → a + ll f L a k ≤ L) := by
  intro j
  induction j with
  | zero =>
    intro k h
    rw [ll_n (fun z => by have := isL_lt z; omega)]
    omega
  | succ j ih =>
    intro k h
    by_cases z : isL (hre f L (a + k))
    · rw [ll_y z]
      have := isL_lt z
      have := ih (k + 1) (by omega)
      omega
    · rw [ll_n z]; omega
theorem hre_lt {f : Nat → Int32} {L k : Nat} (h : ¬ hre f L k = 0) : k < L := by
  by_cases h1 : k < L
  · exact h1
  · exact absurd (if_neg h1) h
theorem sd_lt {A : Nat → Nat → Int32} {L a : Nat} (h : ¬ rz_sd A L a < 0) : sk (A 0) L a < L := by
  refine hre_lt (f := A 0) fun z => h ?_
  unfold rz_sd
  rw [z, if_neg (by decide)]
  decide
theorem orw_0 {w : Int32} {p : Prop} [Decidable p] (h : orw w p = 0) : w = 0 ∧ ¬ p := by
  unfold orw at h
  by_cases hc : ¬ w = 0 ∨ p
  · rw [if_pos hc] at h
    exact absurd h (by decide)
  · exact ⟨Classical.byContradiction fun z => hc (Or.inl z), fun z => hc (Or.inr z)⟩
