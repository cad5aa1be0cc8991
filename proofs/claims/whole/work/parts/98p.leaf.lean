/-! Pure: the reference's delivering, and a nucleus that has no parts. By hand. -/
theorem del_list {A : Nat → Nat → Int32} {t n : Nat} (h : A 16 t ≤ 3) : rf_del (t + 1) A n = (rf_dl A t n, t + 1) := by rw [rf_del, if_pos h]
theorem del_scr {A : Nat → Nat → Int32} {t n : Nat} (h : A 16 t = 6 ∨ A 16 t = 7) : rf_del (t + 1) A n = (rf_ds A t n, t) := by
  rw [rf_del, if_neg (fun z => by rcases h with h | h <;> rw [h] at z <;> exact absurd z (by decide)), if_pos h]
theorem del_frac {A : Nat → Nat → Int32} {t n : Nat} (h : A 16 t = 4) (hk : A 1 (ixI (A 17 t)) = 4) : rf_del (t + 1) A n = (rf_df A t n, t + 1) := by
  rw [rf_del, if_neg (fun z => by rw [h] at z; exact absurd z (by decide)), if_neg (fun z => by rw [h] at z; exact absurd z (by decide)), if_pos ⟨h, hk⟩]
theorem del_up {A : Nat → Nat → Int32} {t n : Nat} (h : (A 16 t = 4 ∧ ¬ A 1 (ixI (A 17 t)) = 4) ∨ A 16 t = 5) : rf_del (t + 1) A n = rf_del t (rf_dx A t n) (ixI (A 17 t)) := by
  rcases h with ⟨h, hk⟩ | h
  · rw [rf_del, if_neg (fun z => by rw [h] at z; exact absurd z (by decide)), if_neg (fun z => by rw [h] at z; exact absurd z (by decide)), if_neg (fun z => hk z.2)]
  · rw [rf_del, if_neg (fun z => by rw [h] at z; exact absurd z (by decide)), if_neg (fun z => by rw [h] at z; exact absurd z (by decide)), if_neg (fun z => by rw [h] at z; exact absurd z.1 (by decide))]
/-- a nucleus may begin, or may not -/
theorem W_ok {A : Nat → Nat → Int32} {N O nc : Nat} (h : rz_BA A N O) (hO : O ≤ 7) (hn : nc < 60) : rz_W A O nc 0 = 0 := by
  show rf_nw A O (rz_u A O) nc 0 = 0
  unfold rf_nw
  rw [if_neg]
  rintro (q | q | q)
  · exact q rfl
  · have := (nI_ltI (a := 60) (b := nc + 1) (by decide) (by omega)).mp q
    omega
  · rw [rz_lv h] at q
    have := (nI_ltI (a := 6) (b := O - 1) (by decide) (by omega)).mp q
    omega
theorem W_no {A : Nat → Nat → Int32} {N O nc : Nat} (h : rz_BA A N O) (hn : ¬ nc < 60 ∨ O = 8) (hb : nc ≤ 60) : rz_W A O nc 0 = 1 := by
  show rf_nw A O (rz_u A O) nc 0 = 1
  unfold rf_nw
  rw [if_pos]
  rcases hn with q | q
  · exact Or.inr (Or.inl ((nI_ltI (a := 60) (b := nc + 1) (by decide) (by omega)).mpr (by omega)))
  · refine Or.inr (Or.inr ?_)
    rw [rz_lv h, q]
    decide
/-- whatever the head, a nucleus that may not begin is wrong -/
theorem hd_bad {A : Nat → Nat → Int32} {L k a1 t N nc O : Nat} {cd : Int32} (hW : rz_W A O nc 0 = 1) : (rz_hd A L k a1 cd t N nc O).2.2.1 = 1 := by
  have ho : ∀ (p : Prop) [Decidable p], orw (rz_W A O nc 0) p = 1 := fun p _ => by
    unfold orw
    rw [hW, if_pos (Or.inl (by decide))]
  unfold rz_hd
  repeat' split
  all_goals first | exact hW | exact ho _
