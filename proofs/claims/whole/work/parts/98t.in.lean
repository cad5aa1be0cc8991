/-! Pure: what may stand in a line, as both see it. By hand. -/
theorem in_none {f : Nat → Int32} {A : Nat → Nat → Int32} {L a N U O : Nat} (hA : A 0 = f) (h : ¬ lend f L a) (h94 : ¬ hre f L a = 94) (h95 : ¬ hre f L a = 95) : rz_in A L a N U O = none := by
  subst hA
  unfold rz_in
  rw [if_neg (fun z => z.elim h94 h95), if_neg (fun z => h (Or.inr (Or.inl z))), if_neg (fun z => h (Or.inr (Or.inr (Or.inl z)))), if_neg (fun z => h (Or.inr (Or.inr (Or.inr (Or.inl z))))), if_neg (fun z => h (Or.inr (Or.inr (Or.inr (Or.inr ((nm_right z.1).mp z.2))))))]
theorem in_scr {f : Nat → Int32} {A : Nat → Nat → Int32} {L a N U O : Nat} (hA : A 0 = f) (h : hre f L a = 94 ∨ hre f L a = 95) : rz_in A L a N U O = some (rz_script A a N U O (hre f L a)) := by
  subst hA
  unfold rz_in
  rw [if_pos h]
theorem in_close {f : Nat → Int32} {A : Nat → Nat → Int32} {L a N U O : Nat} (hA : A 0 = f) (h : hre f L a = 125) : rz_in A L a N U O = some (rz_close A a N U O) := by
  subst hA
  unfold rz_in
  rw [if_neg (by rw [h]; decide), if_pos h]
theorem in_amp {f : Nat → Int32} {A : Nat → Nat → Int32} {L a N U O : Nat} (hA : A 0 = f) (h : hre f L a = 38) : rz_in A L a N U O = some (rz_amp A a N U O) := by
  subst hA
  unfold rz_in
  rw [if_neg (by rw [h]; decide), if_neg (by rw [h]; decide), if_pos h]
theorem in_row {f : Nat → Int32} {A : Nat → Nat → Int32} {L a N U O : Nat} (hA : A 0 = f) (h : hre f L a = 92 ∧ hre f L (a + 1) = 92) : rz_in A L a N U O = some (rz_row A a N U O) := by
  subst hA
  unfold rz_in
  rw [if_neg (by rw [h.1]; decide), if_neg (by rw [h.1]; decide), if_neg (by rw [h.1]; decide), if_pos h]
theorem in_right {f : Nat → Int32} {A : Nat → Nat → Int32} {L a N U O : Nat} (hA : A 0 = f) (h : scm f L a 0) : rz_in A L a N U O = some (rz_right A L a N U O) := by
  subst hA
  have h92 := h.1
  have hlt : a + 1 + (st_b 0).length ≤ L := h.2.1
  have hn : ¬ hre (A 0) L (a + 1) = 92 := by
    have e : A 0 (a + 1 + 0) = (st_b 0).getD 0 0 := h.2.2.1 0 (by decide)
    have e2 : A 0 (a + 1) = 114 := e
    have h5 : (st_b 0).length = 5 := by decide
    rw [show hre (A 0) L (a + 1) = A 0 (a + 1) from if_pos (by omega), e2]
    decide
  unfold rz_in
  rw [if_neg (by rw [h92]; decide), if_neg (by rw [h92]; decide), if_neg (by rw [h92]; decide), if_neg (fun z => hn z.2), if_pos ⟨h92, (nm_right h92).mpr h⟩]
