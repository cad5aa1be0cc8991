/-! Pure: delivering into a line, and as a script. By hand. -/
/-- into a line whose list is node u, as its first item -/
theorem dl_first {A : Nat → Nat → Int32} {t n u : Nat} (hu : ixI (A 18 t) = u) (h18 : A 18 t = nI u) (h19 : A 19 t = 0) : (∀ k, k ≠ 6 → k ≠ 14 → k ≠ 19 → rf_dl A t n k = A k) ∧ rf_dl A t n 14 n = nI u ∧ (∀ m, m ≠ n → rf_dl A t n 14 m = A 14 m) ∧ rf_dl A t n 6 u = nI n ∧ (∀ m, m ≠ u → rf_dl A t n 6 m = A 6 m) ∧ rf_dl A t n 19 t = nI n ∧ ∀ j, j ≠ t → rf_dl A t n 19 j = A 19 j := by
  have e : rf_dl A t n = up2 (up2 (rf_d0 A n (A 18 t)) 6 (upd (A 6) (ixI (A 18 t)) (nI n))) 19 (upd (A 19) t (nI n)) := by unfold rf_dl; rw [if_pos h19]
  rw [e]
  refine ⟨fun k h1 h2 h3 => ?_, ?_, fun m hm => upd_n hm, ?_, fun m hm => ?_, upd_s, fun j hj => upd_n hj⟩
  · unfold rf_d0 up2
    rw [if_neg h3, if_neg h1, if_neg h2]
  · show upd (A 14) n (A 18 t) n = _
    rw [upd_s, h18]
  · show upd (A 6) (ixI (A 18 t)) (nI n) u = _
    rw [hu, upd_s]
  · show upd (A 6) (ixI (A 18 t)) _ m = _
    rw [hu]; exact upd_n hm
/-- behind node p -/
theorem dl_next {A : Nat → Nat → Int32} {t n u p : Nat} (h18 : A 18 t = nI u) (hp : ixI (A 19 t) = p) (h19 : ¬ A 19 t = 0) : (∀ k, k ≠ 7 → k ≠ 14 → k ≠ 19 → rf_dl A t n k = A k) ∧ rf_dl A t n 14 n = nI u ∧ (∀ m, m ≠ n → rf_dl A t n 14 m = A 14 m) ∧ rf_dl A t n 7 p = nI n ∧ (∀ m, m ≠ p → rf_dl A t n 7 m = A 7 m) ∧ rf_dl A t n 19 t = nI n ∧ ∀ j, j ≠ t → rf_dl A t n 19 j = A 19 j := by
  have e : rf_dl A t n = up2 (up2 (rf_d0 A n (A 18 t)) 7 (upd (A 7) (ixI (A 19 t)) (nI n))) 19 (upd (A 19) t (nI n)) := by unfold rf_dl; rw [if_neg h19]
  rw [e]
  refine ⟨fun k h1 h2 h3 => ?_, ?_, fun m hm => upd_n hm, ?_, fun m hm => ?_, upd_s, fun j hj => upd_n hj⟩
  · unfold rf_d0 up2
    rw [if_neg h3, if_neg h1, if_neg h2]
  · show upd (A 14) n (A 18 t) n = _
    rw [upd_s, h18]
  · show upd (A 7) (ixI (A 19 t)) (nI n) p = _
    rw [hp, upd_s]
  · show upd (A 7) (ixI (A 19 t)) _ m = _
    rw [hp]; exact upd_n hm
/-- as the upper (6) or lower (7) script of node u -/
theorem ds_facts {A : Nat → Nat → Int32} {t n u : Nat} (hu : ixI (A 17 t) = u) (h17 : A 17 t = nI u) (hw : A 16 t = 6 ∨ A 16 t = 7) : (∀ k, k ≠ 12 → k ≠ 13 → k ≠ 14 → k ≠ 15 → rf_ds A t n k = A k) ∧ rf_ds A t n 14 n = nI u ∧ (∀ m, m ≠ n → rf_ds A t n 14 m = A 14 m) ∧ rf_ds A t n 15 n = 1 ∧ (∀ m, m ≠ n → rf_ds A t n 15 m = A 15 m) ∧ rf_ds A t n 12 u = (if A 16 t = 6 then nI n else A 12 u) ∧ (∀ m, m ≠ u → rf_ds A t n 12 m = A 12 m) ∧ rf_ds A t n 13 u = (if A 16 t = 7 then nI n else A 13 u) ∧ ∀ m, m ≠ u → rf_ds A t n 13 m = A 13 m := by
  refine ⟨fun k h1 h2 h3 h4 => ?_, ?_, fun m hm => upd_n hm, upd_s, fun m hm => upd_n hm, ?_, fun m hm => ?_, ?_, fun m hm => ?_⟩
  · unfold rf_ds rf_d0 up2
    rw [if_neg h2, if_neg h1, if_neg h4, if_neg h3]
  · show upd (A 14) n (A 17 t) n = _
    rw [upd_s, h17]
  · show upd (A 12) (ixI (A 17 t)) (if A 16 t = 6 then nI n else A 12 (ixI (A 17 t))) u = _
    rw [hu, upd_s]
  · show upd (A 12) (ixI (A 17 t)) _ m = _
    rw [hu]; exact upd_n hm
  · show upd (A 13) (ixI (A 17 t)) (if A 16 t = 7 then nI n else A 13 (ixI (A 17 t))) u = _
    rw [hu, upd_s]
  · show upd (A 13) (ixI (A 17 t)) _ m = _
    rw [hu]; exact upd_n hm
