/-! What reading leaves alone in the reference; isFormula and the refusals of set, where both sides agree on the text. By hand. -/
/-- arrays that reading leaves alone -/
def kpt (k : Nat) : Prop := k = 0 ∨ 20 ≤ k
theorem up2_k {A : Nat → Nat → Int32} {j k : Nat} {f : Nat → Int32} (hk : kpt k) (h1 : 1 ≤ j) (h2 : j ≤ 19) : up2 A j f k = A k := by
  unfold up2
  rcases hk with hk | hk <;> rw [if_neg (by omega)]
theorem rf_make_k {A : Nat → Nat → Int32} {N : Nat} {wh : Int32} {k : Nat} (hk : kpt k) : rf_make A N wh k = A k := by
  unfold rf_make
  repeat rw [up2_k hk (by omega) (by omega)]
theorem rf_push_k {A : Nat → Nat → Int32} {O : Nat} {a b c : Int32} {k : Nat} (hk : kpt k) : rf_push A O a b c k = A k := by
  unfold rf_push
  repeat rw [up2_k hk (by omega) (by omega)]
theorem rf_nuc_k {A : Nat → Nat → Int32} {N O u : Nat} {a b : Int32} {k : Nat} (hk : kpt k) : rf_nuc A N O u a b k = A k := by
  unfold rf_nuc
  rw [up2_k hk (by omega) (by omega), up2_k hk (by omega) (by omega), rf_make_k hk]
theorem rf_ow_k {A : Nat → Nat → Int32} {N : Nat} {a : Int32} {k : Nat} (hk : kpt k) : rf_ow A N a k = A k := by
  unfold rf_ow
  rw [up2_k hk (by omega) (by omega), rf_make_k hk]
theorem rf_ins_k {A : Nat → Nat → Int32} {N O nn : Nat} {a : Int32} {k : Nat} (hk : kpt k) : rf_ins A N O nn a k = A k := by
  unfold rf_ins
  rw [rf_push_k hk]
  split <;> rw [up2_k hk (by omega) (by omega), rf_ow_k hk]
theorem rf_cell_k {A : Nat → Nat → Int32} {N O q : Nat} {a b : Int32} {k : Nat} (hk : kpt k) : rf_cell A N O q a b k = A k := by
  unfold rf_cell
  repeat rw [up2_k hk (by omega) (by omega)]
  rw [rf_ow_k hk]
theorem rf_d0_k {A : Nat → Nat → Int32} {n : Nat} {v : Int32} {k : Nat} (hk : kpt k) : rf_d0 A n v k = A k := up2_k hk (by omega) (by omega)
theorem rf_del_k {k : Nat} (hk : kpt k) : ∀ (t : Nat) (A : Nat → Nat → Int32) (n : Nat), (rf_del t A n).1 k = A k := by
  intro t
  induction t with
  | zero => intro A n; rfl
  | succ t ih =>
    intro A n
    unfold rf_del
    split
    · show rf_dl A t n k = A k
      unfold rf_dl
      rw [up2_k hk (by omega) (by omega)]
      split <;> rw [up2_k hk (by omega) (by omega), rf_d0_k hk]
    · split
      · show rf_ds A t n k = A k
        unfold rf_ds
        rw [up2_k hk (by omega) (by omega), up2_k hk (by omega) (by omega), up2_k hk (by omega) (by omega), rf_d0_k hk]
      · split
        · show rf_df A t n k = A k
          unfold rf_df
          rw [up2_k hk (by omega) (by omega), up2_k hk (by omega) (by omega), rf_d0_k hk]
        · rw [ih]
          unfold rf_dx
          rw [up2_k hk (by omega) (by omega), up2_k hk (by omega) (by omega), rf_d0_k hk]
theorem rz_one_k {A : Nat → Nat → Int32} {a1 : Nat} {w : Int32} {N U O : Nat} {wh cl v : Int32} {k : Nat} (hk : kpt k) : (rz_one A a1 w N U O wh cl v).1 k = A k := by
  show (rf_del O _ N).1 k = A k
  rw [rf_del_k hk, up2_k hk (by omega) (by omega)]
  exact rf_nuc_k hk
theorem rz_cmd_k {A : Nat → Nat → Int32} {a1 : Nat} {w : Int32} {N U O : Nat} {wh cl : Int32} {k : Nat} (hk : kpt k) : (rz_cmd A a1 w N U O wh cl).1 k = A k := by
  show rf_push _ _ _ _ _ k = A k
  rw [rf_push_k hk]
  exact rf_nuc_k hk
theorem rz_begin_k {A : Nat → Nat → Int32} {L a : Nat} {w : Int32} {N U O : Nat} {k : Nat} (hk : kpt k) : (rz_begin A L a w N U O).1 k = A k := by
  unfold rz_begin
  split
  · show rf_ins _ _ _ _ _ k = A k
    rw [rf_ins_k hk]; exact rf_nuc_k hk
  · split
    · unfold rz_obey
      split
      · exact rz_one_k hk
      split
      · exact rz_one_k hk
      split
      · exact rz_one_k hk
      split
      · exact rz_cmd_k hk
      split
      · exact rz_cmd_k hk
      split
      · exact rz_cmd_k hk
      split
      · exact rz_cmd_k hk
      split
      · show rf_ins _ _ _ _ _ k = A k
        rw [rf_ins_k hk, up2_k hk (by omega) (by omega)]; exact rf_nuc_k hk
      split
      · show rf_ins _ _ _ _ _ k = A k
        rw [rf_ins_k hk]; exact rf_nuc_k hk
      · rfl
    · split
      · exact rz_one_k hk
      · rfl
theorem rz_in_k {A : Nat → Nat → Int32} {L a : Nat} {N U O : Nat} {k : Nat} (hk : kpt k) {z : RS} (h : rz_in A L a N U O = some z) : z.1 k = A k := by
  unfold rz_in at h
  split at h
  · cases h; exact rf_push_k hk
  split at h
  · cases h
    unfold rz_close
    split
    · exact rf_del_k hk _ _ _
    · rfl
  split at h
  · cases h; exact rf_cell_k hk
  split at h
  · cases h; exact rf_cell_k hk
  split at h
  · cases h
    unfold rz_right
    split
    · show (rf_del _ _ _).1 k = A k
      rw [rf_del_k hk]; exact up2_k hk (by omega) (by omega)
    · exact up2_k hk (by omega) (by omega)
  · cases h
theorem rz_step_k {A : Nat → Nat → Int32} {L a : Nat} {w : Int32} {N U O : Nat} {k : Nat} (hk : kpt k) : (rz_step L A a w N U O).1 k = A k := by
  unfold rz_step
  split
  · cases h : rz_in A L a N U O with
    | some y => exact rz_in_k hk h
    | none => exact rz_begin_k hk
  · exact rz_begin_k hk
theorem rz_run_k {L k : Nat} (hk : kpt k) : ∀ (t : Nat) (z : RS), (rz_run L t z).1 k = z.1 k := by
  intro t
  induction t with
  | zero => intro z; rfl
  | succ t ih =>
    rintro ⟨A, a, w, N, U, O⟩
    unfold rz_run
    split
    · rfl
    · split
      · rw [ih]; exact rz_step_k hk
      · rfl
theorem rz_read_k {A : Nat → Nat → Int32} {L k : Nat} (hk : kpt k) : (rz_read A L).1 k = A k := by
  show (rz_run L (L + 2) (rz_z0 A)).1 k = A k
  rw [rz_run_k hk]
  show rf_push _ _ _ _ _ k = A k
  rw [rf_push_k hk, rf_make_k hk]
