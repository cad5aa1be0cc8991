/-! Pure: every turn of the reference's reading keeps rz_I. By hand. -/
theorem rf_ins_B (B : Nat → Nat → Int32) (M O nn : Nat) (wh : Int32) (N' O' : Nat) (h : rz_B (B 5) (upd (B 16) O wh) (upd (B 17) O (nI nn)) (upd (B 18) O (nI M)) (upd (B 19) O 0) N' O') : rz_BA (rf_ins B M O nn wh) N' O' := by
  unfold rf_ins
  by_cases e : wh = 3
  · rw [if_pos e]; exact h
  · rw [if_neg e]; exact h
theorem rz_N5 {A : Nat → Nat → Int32} {N O : Nat} (h : rz_BA A N O) (wh cl : Int32) : rz_N A N O wh cl 5 N = nI (O - 1) := by
  show upd (A 5) N (rf_lv A O (rz_u A O)) N = _
  rw [pk_us]
  exact rz_lv h
theorem rz_NB {A : Nat → Nat → Int32} {N O : Nat} (h : rz_BA A N O) (wh cl : Int32) {N' : Nat} (hN : N ≤ N') : rz_BA (rz_N A N O wh cl) N' O := rz_B_new h (rf_lv A O (rz_u A O)) hN
theorem rz_I_one {L : Nat} {A : Nat → Nat → Int32} {a a1 N U O : Nat} {w wh cl v : Int32} (h : rz_BA A N O) (hN : N ≤ 1000) (h1 : N ≤ 2 * a + 1) (h2 : a < a1) (h3 : a1 ≤ L) : rz_I L (rz_one A a1 w N U O wh cl v) := by
  refine rz_I_of fun hw => ?_
  obtain ⟨hO, -⟩ := rz_nw h hw
  refine ⟨?_, by show 1 ≤ N + 1; omega, by show N + 1 ≤ 2 * a1 + 1; omega, h3⟩
  exact rz_B_del O _ (N + 1) N (rz_NB h wh cl (Nat.le_succ N)) (by omega) (by omega) (rz_N5 h wh cl) hO
theorem rz_I_cmd {L : Nat} {A : Nat → Nat → Int32} {a a1 N U O : Nat} {w wh cl : Int32} (h : rz_BA A N O) (hN : N ≤ 1000) (h1 : N ≤ 2 * a + 1) (h2 : a < a1) (h3 : a1 ≤ L) : rz_I L (rz_cmd A a1 w N U O wh cl) := by
  refine rz_I_of fun hw => ?_
  obtain ⟨hO, -⟩ := rz_nw h hw
  refine ⟨?_, by show 1 ≤ N + 1; omega, by show N + 1 ≤ 2 * a1 + 1; omega, h3⟩
  exact rz_B_push (N := N + 1) (rz_NB h wh cl (Nat.le_succ N)) hO (by omega) (by omega) (rz_N5 h wh cl) (by decide) (okN_n (k := 0) (N := N + 1) (by omega) (by omega))
theorem rz_B_ins {A B : Nat → Nat → Int32} {N O : Nat} {wh cl wk : Int32} (h : rz_BA A N O) (hN : N ≤ 1000) (hO : O ≤ 7) (hw : ¬ wk = 0) (h5 : B 5 = rz_N A N O wh cl 5) (h16 : B 16 = A 16) (h17 : B 17 = A 17) (h18 : B 18 = A 18) (h19 : B 19 = A 19) : rz_BA (rf_ins B (N + 1) O N wk) (N + 2) (O + 1) := by
  refine rf_ins_B B (N + 1) O N wk _ _ ?_
  rw [h5, h16, h17, h18, h19]
  exact rz_B_push (rz_NB h wh cl (show N ≤ N + 2 by omega)) hO (by omega) (by omega) (rz_N5 h wh cl) hw (okN_n (by omega) (by omega))
theorem rz_I_left {L : Nat} {A : Nat → Nat → Int32} {a a1 N U O : Nat} {w : Int32} (h : rz_BA A N O) (hN : N ≤ 1000) (h1 : N ≤ 2 * a + 1) (h2 : a < a1) : rz_I L (rz_left A L a1 w N U O) ∧ a < (rz_left A L a1 w N U O).2.1 := by
  have hs := (sk_ge (A 0) L _ a1 rfl).1
  refine ⟨rz_I_of fun hw => ?_, by show a < sk (A 0) L a1 + 1; omega⟩
  obtain ⟨hw1, hw2⟩ := orw_0 hw
  obtain ⟨hO, -⟩ := rz_nw h hw1
  have := sd_lt hw2
  refine ⟨?_, by show 1 ≤ N + 2; omega, by show N + 2 ≤ 2 * (sk (A 0) L a1 + 1) + 1; omega, by show sk (A 0) L a1 + 1 ≤ L; omega⟩
  exact rz_B_ins (wh := 8) (cl := 7) h hN hO (by decide) rfl rfl rfl rfl rfl
theorem rz_I_mat {L : Nat} {A : Nat → Nat → Int32} {a a1 N U O : Nat} {w : Int32} (h : rz_BA A N O) (hN : N ≤ 1000) (h1 : N ≤ 2 * a + 1) (h2 : a < a1) : rz_I L (rz_mat A L a1 w N U O) ∧ a < (rz_mat A L a1 w N U O).2.1 := by
  have hs := (sk_ge (A 0) L _ a1 rfl).1
  refine ⟨rz_I_of fun hw => ?_, by show a < sk (A 0) L a1 + 1; omega⟩
  obtain ⟨hw1, hw2⟩ := orw_0 hw
  obtain ⟨hO, -⟩ := rz_nw h hw1
  have : sk (A 0) L a1 < L := hre_lt (f := A 0) fun z => hw2 (by rw [z]; decide)
  refine ⟨?_, by show 1 ≤ N + 2; omega, by show N + 2 ≤ 2 * (sk (A 0) L a1 + 1) + 1; omega, by show sk (A 0) L a1 + 1 ≤ L; omega⟩
  exact rz_B_ins (wh := 9) (cl := 7) h hN hO (by decide) rfl rfl rfl rfl rfl
theorem rz_I_w {L : Nat} {z : RS} (h : z.2.2.1 = 1) : rz_I L z := fun hw => by rw [h] at hw; exact absurd hw (by decide)
/-- what a turn must give -/
abbrev rz_G (L a : Nat) (z : RS) : Prop := rz_I L z ∧ (z.2.2.1 = 0 → a < z.2.1)
theorem rz_G_w {L a : Nat} {z : RS} (h : z.2.2.1 = 1) : rz_G L a z := ⟨rz_I_w h, fun hw => by rw [h] at hw; exact absurd hw (by decide)⟩
theorem rz_G_obey {L : Nat} {A : Nat → Nat → Int32} {a N U O : Nat} {w : Int32} (nm : Int64) (h : rz_BA A N O) (hN : N ≤ 1000) (h1 : N ≤ 2 * a + 1) (h2 : a < L) : rz_G L a (rz_obey A L a w N U O nm) := by
  have hl := ll_ge (A 0) L a _ 1 rfl
  have g1 : a < a + ll (A 0) L a 1 := by omega
  have g2 : a + ll (A 0) L a 1 ≤ L := hl.2 (by omega)
  unfold rz_obey
  by_cases c1 : nm = 7566701
  · rw [if_pos c1]; exact ⟨rz_I_one h hN h1 g1 g2, fun _ => g1⟩
  rw [if_neg c1]
  by_cases c2 : nm = 1886547812
  · rw [if_pos c2]; exact ⟨rz_I_one h hN h1 g1 g2, fun _ => g1⟩
  rw [if_neg c2]
  by_cases c3 : nm = 6909556
  · rw [if_pos c3]; exact ⟨rz_I_one h hN h1 g1 g2, fun _ => g1⟩
  rw [if_neg c3]
  by_cases c4 : nm = 1718772067
  · rw [if_pos c4]; exact ⟨rz_I_cmd h hN h1 g1 g2, fun _ => g1⟩
  rw [if_neg c4]
  by_cases c5 : nm = 1936814708
  · rw [if_pos c5]; exact ⟨rz_I_cmd h hN h1 g1 g2, fun _ => g1⟩
  rw [if_neg c5]
  by_cases c6 : nm = 6840692
  · rw [if_pos c6]; exact ⟨rz_I_cmd h hN h1 g1 g2, fun _ => g1⟩
  rw [if_neg c6]
  by_cases c7 : nm = 6447474
  · rw [if_pos c7]; exact ⟨rz_I_cmd h hN h1 g1 g2, fun _ => g1⟩
  rw [if_neg c7]
  by_cases c8 : nm = 1818584692
  · rw [if_pos c8]
    have := rz_I_left (w := w) (U := U) (L := L) h hN h1 g1
    exact ⟨this.1, fun _ => this.2⟩
  rw [if_neg c8]
  by_cases c9 : nm = 7168372
  · rw [if_pos c9]
    have := rz_I_mat (w := w) (U := U) (L := L) h hN h1 g1
    exact ⟨this.1, fun _ => this.2⟩
  rw [if_neg c9]
  exact rz_G_w rfl
theorem rz_G_begin {L : Nat} {A : Nat → Nat → Int32} {a N U O : Nat} {w : Int32} (h : rz_BA A N O) (hN : N ≤ 1000) (h1 : N ≤ 2 * a + 1) (h2 : a < L) : rz_G L a (rz_begin A L a w N U O) := by
  unfold rz_begin
  by_cases c1 : hre (A 0) L a = 123
  · rw [if_pos c1]
    refine ⟨rz_I_of fun hw => ?_, fun _ => Nat.lt_succ_self a⟩
    obtain ⟨hO, -⟩ := rz_nw h hw
    refine ⟨?_, by show 1 ≤ N + 2; omega, by show N + 2 ≤ 2 * (a + 1) + 1; omega, by show a + 1 ≤ L; omega⟩
    exact rz_B_ins (wh := 3) (cl := 0) h hN hO (by decide) rfl rfl rfl rfl rfl
  rw [if_neg c1]
  by_cases c2 : hre (A 0) L a = 92
  · rw [if_pos c2]; exact rz_G_obey _ h hN h1 h2
  rw [if_neg c2]
  by_cases c3 : 0 ≤ sorto (hre (A 0) L a)
  · rw [if_pos c3]; exact ⟨rz_I_one h hN h1 (Nat.lt_succ_self a) (by omega), fun _ => Nat.lt_succ_self a⟩
  rw [if_neg c3]
  exact rz_G_w rfl
/-- a frame that closes: what is delivered is of the level below -/
theorem rz_B_close {A : Nat → Nat → Int32} {N O : Nat} (B : Nat → Nat → Int32) (h : rz_BA A N O) (hN : N ≤ 1000) (hw : ¬ A 16 (O - 1) = 0) (h5 : B 5 = A 5) (h16 : B 16 = A 16) (h17 : B 17 = A 17) (h18 : B 18 = A 18) (h19 : B 19 = A 19) : rz_BA (rf_del (O - 1) B (rz_u A O)).1 N (rf_del (O - 1) B (rz_u A O)).2 := by
  have h1 := h.1
  have hO : 1 ≤ O - 1 := by
    by_cases e : O = 1
    · subst e
      exact absurd h.2.2.1 hw
    · omega
  obtain ⟨q1, q2⟩ := h.2.2.2.2.1 (O - 1) hO (by omega)
  have hp : rz_BA A N (O - 1) := rz_B_pop (show rz_BA A N (O - 1 + 1) by rw [Nat.sub_add_cancel h1]; exact h) hO
  refine rz_B_del (O - 1) B N (rz_u A O) ?_ (h.2.2.2.1 (O - 1) (by omega)).1.2 (by omega) (by rw [h5]; exact q2) (by have := h.2.1; omega)
  show rz_B (B 5) (B 16) (B 17) (B 18) (B 19) N (O - 1)
  rw [h5, h16, h17, h18, h19]
  exact hp
theorem rz_cw0 {w rr cc : Int32} (h : rf_cw w rr cc = 0) : w = 0 := by
  unfold rf_cw at h
  by_cases hc : ¬ w = 0 ∨ 7 < rr ∨ 7 < cc
  · rw [if_pos hc] at h; exact absurd h (by decide)
  · exact Classical.byContradiction fun z => hc (Or.inl z)
theorem rz_G_in {L : Nat} {A : Nat → Nat → Int32} {a N U O : Nat} (h : rz_BA A N O) (hN : N ≤ 1000) (h0 : 1 ≤ N) (h1 : N ≤ 2 * a + 1) (h2 : a < L) (hlist : A 16 (O - 1) ≤ 3) {z : RS} (hz : rz_in A L a N U O = some z) : rz_G L a z := by
  have hO1 := h.1
  unfold rz_in at hz
  by_cases c1 : hre (A 0) L a = 94 ∨ hre (A 0) L a = 95
  · rw [if_pos c1] at hz
    cases hz
    refine ⟨rz_I_of fun hw => ?_, fun _ => Nat.lt_succ_self a⟩
    have hl : ¬ A 19 (O - 1) = 0 := fun q => by
      have hw' : rz_sw A O (hre (A 0) L a) = 0 := hw
      unfold rz_sw at hw'
      rw [if_pos (Or.inl q)] at hw'
      exact absurd hw' (by decide)
    obtain ⟨q1, q2⟩ := h.2.2.2.2.2 (O - 1) (by omega) hlist hl
    have q3 := (h.2.2.2.1 (O - 1) (by omega)).2.2
    refine ⟨?_, h0, by show N ≤ 2 * (a + 1) + 1; omega, by show a + 1 ≤ L; omega⟩
    have hwh : ¬ (if hre (A 0) L a = 94 then (6 : Int32) else 7) = 0 := by
      by_cases e9 : hre (A 0) L a = 94
      · rw [if_pos e9]; decide
      · rw [if_neg e9]; decide
    have hp := rz_B_push (n := ixI (A 19 (O - 1))) (wh := if hre (A 0) L a = 94 then 6 else 7) (ii := 0) h (by omega) q3.2 (by omega) q1 hwh (okN_n (k := 0) (by omega) (by omega))
    rw [← q3.1] at hp
    exact hp
  rw [if_neg c1] at hz
  by_cases c2 : hre (A 0) L a = 125
  · rw [if_pos c2] at hz
    cases hz
    unfold rz_close
    by_cases c3 : A 16 (O - 1) = 1 ∨ A 16 (O - 1) = 3
    · rw [if_pos c3]
      refine ⟨rz_I_of fun hw => ⟨?_, h0, by show N ≤ 2 * (a + 1) + 1; omega, by show a + 1 ≤ L; omega⟩, fun _ => Nat.lt_succ_self a⟩
      exact rz_B_close A h hN (fun q => by rw [q] at c3; rcases c3 with c3 | c3 <;> exact absurd c3 (by decide)) rfl rfl rfl rfl rfl
    · rw [if_neg c3]; exact rz_G_w rfl
  rw [if_neg c2] at hz
  by_cases c3 : hre (A 0) L a = 38
  · rw [if_pos c3] at hz
    cases hz
    refine ⟨rz_I_of fun hw => ⟨?_, by show 1 ≤ N + 1; omega, by show N + 1 ≤ 2 * (a + 1) + 1; omega, by show a + 1 ≤ L; omega⟩, fun _ => Nat.lt_succ_self a⟩
    exact rz_B_cell h (by omega)
  rw [if_neg c3] at hz
  by_cases c4 : hre (A 0) L a = 92 ∧ hre (A 0) L (a + 1) = 92
  · rw [if_pos c4] at hz
    cases hz
    have : a + 1 < L := hre_lt (f := A 0) fun q => by rw [q] at c4; exact absurd c4.2 (by decide)
    refine ⟨rz_I_of fun hw => ⟨?_, by show 1 ≤ N + 1; omega, by show N + 1 ≤ 2 * (a + 2) + 1; omega, by show a + 2 ≤ L; omega⟩, fun _ => by show a < a + 2; omega⟩
    exact rz_B_cell h (by omega)
  rw [if_neg c4] at hz
  by_cases c5 : hre (A 0) L a = 92 ∧ nh (A 0) L a 1 0 = 491394656372
  · rw [if_pos c5] at hz
    cases hz
    unfold rz_right
    by_cases c6 : A 16 (O - 1) = 2 ∧ ¬ rz_sd A L (a + 6) < 0
    · rw [if_pos c6]
      have hs := (sk_ge (A 0) L _ (a + 6) rfl).1
      have := sd_lt c6.2
      refine ⟨rz_I_of fun hw => ⟨?_, h0, by show N ≤ 2 * (sk (A 0) L (a + 6) + 1) + 1; omega, by show sk (A 0) L (a + 6) + 1 ≤ L; omega⟩, fun _ => by show a < sk (A 0) L (a + 6) + 1; omega⟩
      exact rz_B_close (rz_rA A L a O) h hN (fun q => by rw [q] at c6; exact absurd c6.1 (by decide)) rfl rfl rfl rfl rfl
    · rw [if_neg c6]; exact rz_G_w rfl
  rw [if_neg c5] at hz
  cases hz
/-- a turn keeps rz_I, and reads on -/
theorem rz_J_ok {L : Nat} (hL : L ≤ 160) : rz_J L := by
  intro A a N U O ha hI
  obtain ⟨h, h0, h1, -⟩ := rz_I_to hI
  have hN : N ≤ 1000 := by omega
  show rz_G L a (rz_step L A a 0 N U O)
  unfold rz_step
  by_cases c : A 16 (O - 1) ≤ 3
  · rw [if_pos c]
    cases hz : rz_in A L a N U O with
    | none => exact rz_G_begin h hN h1 ha
    | some z => exact rz_G_in h hN h0 h1 ha c hz
  · rw [if_neg c]
    exact rz_G_begin h hN h1 ha
theorem rz_I_0 (A : Nat → Nat → Int32) (L : Nat) : rz_I L (rz_z0 A) := by
  refine rz_I_of fun _ => ⟨⟨Nat.le_refl 1, (show 1 ≤ 8 by omega), ?_, fun j hj => ?_, fun j h1 h2 => absurd h1 (by dsimp only at h2; omega), fun j h1 h2 h3 => ?_⟩, Nat.le_refl 1, Nat.le_refl 1, Nat.zero_le _⟩
  · show upd (A 16) 0 0 0 = 0
    rw [pk_us]
  · obtain rfl : j = 0 := by dsimp only at hj; omega
    refine ⟨?_, ?_, ?_⟩
    · show okN (upd (A 17) 0 0 0) 1
      rw [pk_us]; exact okN_n (k := 0) (by decide) (by decide)
    · show okN (upd (A 18) 0 (nI 0) 0) 1
      rw [pk_us]; exact okN_n (k := 0) (by decide) (by decide)
    · show okN (upd (A 19) 0 0 0) 1
      rw [pk_us]; exact okN_n (k := 0) (by decide) (by decide)
  · obtain rfl : j = 0 := by dsimp only at h1; omega
    exact absurd (show upd (A 19) 0 0 0 = 0 by rw [pk_us]) h3
