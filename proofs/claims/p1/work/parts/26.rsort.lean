/-! The reference: sortOf, deliver. Printed by wip/whole/gen/p26.py -/
/-- the class of a character -/
def sorto (c : Int32) : Int32 := if isL c ∨ (48 ≤ c ∧ c ≤ 57) ∨ c = 46 ∨ c = 33 ∨ c = 47 ∨ c = 124 then 0 else if c = 43 ∨ c = 45 ∨ c = 42 then 2 else if c = 61 ∨ c = 60 ∨ c = 62 then 3 else if c = 40 ∨ c = 91 then 4 else if c = 41 ∨ c = 93 then 5 else if c = 44 ∨ c = 59 then 6 else -1
abbrev ixI (v : Int32) : Nat := v.toNatClampNeg
/-- a node's number -/
def okx (v : Int32) : Prop := v = nI (ixI v) ∧ ixI v < 400
theorem okx_n {k : Nat} (h : k < 400) : okx (nI k) := by
  have e : ixI (nI k) = k := nI_clamp (by omega)
  exact ⟨by rw [e], by rw [e]; exact h⟩
def rf_d0 (A : Nat → Nat → Int32) (n : Nat) (v : Int32) : Nat → Nat → Int32 := up2 A 14 (upd (A 14) n v)
/-- deliver: into a list -/
def rf_dl (A : Nat → Nat → Int32) (t n : Nat) : Nat → Nat → Int32 := up2 (if A 19 t = 0 then up2 (rf_d0 A n (A 18 t)) 6 (upd (A 6) (ixI (A 18 t)) (nI n)) else up2 (rf_d0 A n (A 18 t)) 7 (upd (A 7) (ixI (A 19 t)) (nI n))) 19 (upd (A 19) t (nI n))
/-- as a script -/
def rf_ds (A : Nat → Nat → Int32) (t n : Nat) : Nat → Nat → Int32 := up2 (up2 (up2 (rf_d0 A n (A 17 t)) 15 (upd (A 15) n 1)) 12 (upd (A 12) (ixI (A 17 t)) (if A 16 t = 6 then nI n else A 12 (ixI (A 17 t))))) 13 (upd (A 13) (ixI (A 17 t)) (if A 16 t = 7 then nI n else A 13 (ixI (A 17 t))))
/-- as what stands above a fraction's rule -/
def rf_df (A : Nat → Nat → Int32) (t n : Nat) : Nat → Nat → Int32 := up2 (up2 (rf_d0 A n (A 17 t)) 10 (upd (A 10) (ixI (A 17 t)) (nI n))) 16 (upd (A 16) t 5)
/-- as the last part of a command -/
def rf_dx (A : Nat → Nat → Int32) (t n : Nat) : Nat → Nat → Int32 := up2 (up2 (rf_d0 A n (A 17 t)) 10 (upd (A 10) (ixI (A 17 t)) (if A 16 t = 4 then nI n else A 10 (ixI (A 17 t))))) 11 (upd (A 11) (ixI (A 17 t)) (if A 16 t = 5 then nI n else A 11 (ixI (A 17 t))))
def rf_del : Nat → (Nat → Nat → Int32) → Nat → (Nat → Nat → Int32) × Nat
  | 0, A, _ => (A, 0)
  | t + 1, A, n => if A 16 t ≤ 3 then (rf_dl A t n, t + 1) else if A 16 t = 6 ∨ A 16 t = 7 then (rf_ds A t n, t) else if A 16 t = 4 ∧ A 1 (ixI (A 17 t)) = 4 then (rf_df A t n, t + 1) else rf_del t (rf_dx A t n) (ixI (A 17 t))
/-- the frames hold nodes, the first one is a list's -/
def okf (A : Nat → Nat → Int32) (O : Nat) : Prop := (∀ j, j < O → okx (A 17 j) ∧ okx (A 18 j) ∧ okx (A 19 j)) ∧ A 16 0 ≤ 3
set_option maxHeartbeats 4000000 in
set_option maxRecDepth 100000 in
theorem m_Mo_sortOf (l : Launch) (D : va_G) (ct : Nat → ClassId) (b : Nat) (RO : State → Prop) (hR : fh_R b RO) (r n : Nat) (hr : 1 ≤ r) (c0 : Int32) (h : fh_H) : fh_C l D fh_cl (fh_tys ct) b RO y_Mo_sortOf (Cond.code y_Mo_sortOf c_Mo_sortOf 1 (Option.some FieldType.int) :: fh_T) (fh_rm r 0 0) [.int c0] h n (fun v h' n' => v = some (.int (sorto c0)) ∧ h' = h ∧ n' = n) 0 0 := by
  refine fh_enter (by decide) (Nat.le_of_ble_eq_true rfl) [(0, .int c0)] rfl ?_
  intro p e s m args below meth c H ls X hP hS hl
  have hx := X.1
  have hb := X.2.1
  have hml := X.2.2.1
  have hown : s.vm.findClass "FormulaSetterModel" = some m.cls := X.2.2.2.1
  have hT := X.2.2.2.2.1
  have hK := X.2.2.2.2.2.1
  have hRO := X.2.2.2.2.2.2.1
  have hnm : meth.name = "sortOf" := X.2.2.2.2.2.2.2.2.2.2
  refine lv_iload_n hx hb (fh_d d_Mo_sortOf 0 rfl) rfl (lv_at hl 0 rfl) ?_
  refine fh_callS (cc' := c_Mo_isLetter) (nL' := 1) (rest := []) (av := [.int c0]) X hR (m_Mo_isLetter l D ct b RO (r - 1) n c0 _) w1079 w1077 w1078 w9 ⟨by decide, by decide, by show _ = some 1; decide +kernel⟩ (by omega) (by decide) hP hS hl.1 rfl (by exact Nat.le_of_ble_eq_true rfl) (fh_d d_Mo_sortOf 1 rfl) ⟨Nat.le_refl _, Nat.le_refl _⟩ (fun v9 h9 n9 H locs hq hP hS => ?_)
  obtain ⟨rfl, u1, u2⟩ := hq
  rw [u1, u2] at hP
  refine lv_if_ne (tgt := 43) hx hb (fh_d d_Mo_sortOf 2 rfl) rfl (fun c3 => ?_) (fun c3 => ?_)
  · refine lv_iconst (v := 0) hx hb (fh_d d_Mo_sortOf 21 rfl) (by decide) ?_
    have qL : isL c0 := Classical.byContradiction fun q => c3 (if_neg q)
    refine fh_iret X hP hS (fh_d d_Mo_sortOf 22 rfl) ⟨?_, rfl, rfl⟩
    unfold sorto
    rw [if_pos (Or.inl qL)]
  · refine lv_iload_n hx hb (fh_d d_Mo_sortOf 3 rfl) rfl (lv_at hl 0 rfl) ?_
    refine lv_bipush (v := 48) hx hb (fh_d d_Mo_sortOf 4 rfl) (by decide) ?_
    refine lv_icmp_lt (tgt := 19) hx hb (fh_d d_Mo_sortOf 5 rfl) rfl (fun c4 => ?_) (fun c4 => ?_)
    · refine lv_iload_n hx hb (fh_d d_Mo_sortOf 9 rfl) rfl (lv_at hl 0 rfl) ?_
      refine lv_bipush (v := 46) hx hb (fh_d d_Mo_sortOf 10 rfl) (by decide) ?_
      refine lv_icmp_eq (tgt := 43) hx hb (fh_d d_Mo_sortOf 11 rfl) rfl (fun c5 => ?_) (fun c5 => ?_)
      · refine lv_iconst (v := 0) hx hb (fh_d d_Mo_sortOf 21 rfl) (by decide) ?_
        have qL : ¬ isL c0 := fun q => by have := c3; rw [if_pos q] at this; exact absurd this (by decide)
        refine fh_iret X hP hS (fh_d d_Mo_sortOf 22 rfl) ⟨?_, rfl, rfl⟩
        unfold sorto
        rw [if_pos (Or.inr (Or.inr (Or.inl c5)))]
      · refine lv_iload_n hx hb (fh_d d_Mo_sortOf 12 rfl) rfl (lv_at hl 0 rfl) ?_
        refine lv_bipush (v := 33) hx hb (fh_d d_Mo_sortOf 13 rfl) (by decide) ?_
        refine lv_icmp_eq (tgt := 43) hx hb (fh_d d_Mo_sortOf 14 rfl) rfl (fun c6 => ?_) (fun c6 => ?_)
        · refine lv_iconst (v := 0) hx hb (fh_d d_Mo_sortOf 21 rfl) (by decide) ?_
          have qL : ¬ isL c0 := fun q => by have := c3; rw [if_pos q] at this; exact absurd this (by decide)
          refine fh_iret X hP hS (fh_d d_Mo_sortOf 22 rfl) ⟨?_, rfl, rfl⟩
          unfold sorto
          rw [if_pos (Or.inr (Or.inr (Or.inr (Or.inl c6))))]
        · refine lv_iload_n hx hb (fh_d d_Mo_sortOf 15 rfl) rfl (lv_at hl 0 rfl) ?_
          refine lv_bipush (v := 47) hx hb (fh_d d_Mo_sortOf 16 rfl) (by decide) ?_
          refine lv_icmp_eq (tgt := 43) hx hb (fh_d d_Mo_sortOf 17 rfl) rfl (fun c7 => ?_) (fun c7 => ?_)
          · refine lv_iconst (v := 0) hx hb (fh_d d_Mo_sortOf 21 rfl) (by decide) ?_
            have qL : ¬ isL c0 := fun q => by have := c3; rw [if_pos q] at this; exact absurd this (by decide)
            refine fh_iret X hP hS (fh_d d_Mo_sortOf 22 rfl) ⟨?_, rfl, rfl⟩
            unfold sorto
            rw [if_pos (Or.inr (Or.inr (Or.inr (Or.inr (Or.inl c7)))))]
          · refine lv_iload_n hx hb (fh_d d_Mo_sortOf 18 rfl) rfl (lv_at hl 0 rfl) ?_
            refine lv_bipush (v := 124) hx hb (fh_d d_Mo_sortOf 19 rfl) (by decide) ?_
            refine lv_icmp_ne (tgt := 45) hx hb (fh_d d_Mo_sortOf 20 rfl) rfl (fun c8 => ?_) (fun c8 => ?_)
            · refine lv_iload_n hx hb (fh_d d_Mo_sortOf 23 rfl) rfl (lv_at hl 0 rfl) ?_
              refine lv_bipush (v := 43) hx hb (fh_d d_Mo_sortOf 24 rfl) (by decide) ?_
              refine lv_icmp_eq (tgt := 63) hx hb (fh_d d_Mo_sortOf 25 rfl) rfl (fun c9 => ?_) (fun c9 => ?_)
              · refine lv_iconst (v := 2) hx hb (fh_d d_Mo_sortOf 32 rfl) (by decide) ?_
                have qL : ¬ isL c0 := fun q => by have := c3; rw [if_pos q] at this; exact absurd this (by decide)
                refine fh_iret X hP hS (fh_d d_Mo_sortOf 33 rfl) ⟨?_, rfl, rfl⟩
                unfold sorto
                rw [if_neg (fun z => z.elim qL (fun z => z.elim (fun z9 => absurd z9.1 (Int32.not_le.mpr c4)) (fun z => z.elim c5 (fun z => z.elim c6 (fun z => z.elim c7 (c8)))))), if_pos (Or.inl c9)]
              · refine lv_iload_n hx hb (fh_d d_Mo_sortOf 26 rfl) rfl (lv_at hl 0 rfl) ?_
                refine lv_bipush (v := 45) hx hb (fh_d d_Mo_sortOf 27 rfl) (by decide) ?_
                refine lv_icmp_eq (tgt := 63) hx hb (fh_d d_Mo_sortOf 28 rfl) rfl (fun c10 => ?_) (fun c10 => ?_)
                · refine lv_iconst (v := 2) hx hb (fh_d d_Mo_sortOf 32 rfl) (by decide) ?_
                  have qL : ¬ isL c0 := fun q => by have := c3; rw [if_pos q] at this; exact absurd this (by decide)
                  refine fh_iret X hP hS (fh_d d_Mo_sortOf 33 rfl) ⟨?_, rfl, rfl⟩
                  unfold sorto
                  rw [if_neg (fun z => z.elim qL (fun z => z.elim (fun z9 => absurd z9.1 (Int32.not_le.mpr c4)) (fun z => z.elim c5 (fun z => z.elim c6 (fun z => z.elim c7 (c8)))))), if_pos (Or.inr (Or.inl c10))]
                · refine lv_iload_n hx hb (fh_d d_Mo_sortOf 29 rfl) rfl (lv_at hl 0 rfl) ?_
                  refine lv_bipush (v := 42) hx hb (fh_d d_Mo_sortOf 30 rfl) (by decide) ?_
                  refine lv_icmp_ne (tgt := 65) hx hb (fh_d d_Mo_sortOf 31 rfl) rfl (fun c11 => ?_) (fun c11 => ?_)
                  · refine lv_iload_n hx hb (fh_d d_Mo_sortOf 34 rfl) rfl (lv_at hl 0 rfl) ?_
                    refine lv_bipush (v := 61) hx hb (fh_d d_Mo_sortOf 35 rfl) (by decide) ?_
                    refine lv_icmp_eq (tgt := 83) hx hb (fh_d d_Mo_sortOf 36 rfl) rfl (fun c12 => ?_) (fun c12 => ?_)
                    · refine lv_iconst (v := 3) hx hb (fh_d d_Mo_sortOf 43 rfl) (by decide) ?_
                      have qL : ¬ isL c0 := fun q => by have := c3; rw [if_pos q] at this; exact absurd this (by decide)
                      refine fh_iret X hP hS (fh_d d_Mo_sortOf 44 rfl) ⟨?_, rfl, rfl⟩
                      unfold sorto
                      rw [if_neg (fun z => z.elim qL (fun z => z.elim (fun z9 => absurd z9.1 (Int32.not_le.mpr c4)) (fun z => z.elim c5 (fun z => z.elim c6 (fun z => z.elim c7 (c8)))))), if_neg (fun z => z.elim c9 (fun z => z.elim c10 (c11))), if_pos (Or.inl c12)]
                    · refine lv_iload_n hx hb (fh_d d_Mo_sortOf 37 rfl) rfl (lv_at hl 0 rfl) ?_
                      refine lv_bipush (v := 60) hx hb (fh_d d_Mo_sortOf 38 rfl) (by decide) ?_
                      refine lv_icmp_eq (tgt := 83) hx hb (fh_d d_Mo_sortOf 39 rfl) rfl (fun c13 => ?_) (fun c13 => ?_)
                      · refine lv_iconst (v := 3) hx hb (fh_d d_Mo_sortOf 43 rfl) (by decide) ?_
                        have qL : ¬ isL c0 := fun q => by have := c3; rw [if_pos q] at this; exact absurd this (by decide)
                        refine fh_iret X hP hS (fh_d d_Mo_sortOf 44 rfl) ⟨?_, rfl, rfl⟩
                        unfold sorto
                        rw [if_neg (fun z => z.elim qL (fun z => z.elim (fun z9 => absurd z9.1 (Int32.not_le.mpr c4)) (fun z => z.elim c5 (fun z => z.elim c6 (fun z => z.elim c7 (c8)))))), if_neg (fun z => z.elim c9 (fun z => z.elim c10 (c11))), if_pos (Or.inr (Or.inl c13))]
                      · refine lv_iload_n hx hb (fh_d d_Mo_sortOf 40 rfl) rfl (lv_at hl 0 rfl) ?_
                        refine lv_bipush (v := 62) hx hb (fh_d d_Mo_sortOf 41 rfl) (by decide) ?_
                        refine lv_icmp_ne (tgt := 85) hx hb (fh_d d_Mo_sortOf 42 rfl) rfl (fun c14 => ?_) (fun c14 => ?_)
                        · refine lv_iload_n hx hb (fh_d d_Mo_sortOf 45 rfl) rfl (lv_at hl 0 rfl) ?_
                          refine lv_bipush (v := 40) hx hb (fh_d d_Mo_sortOf 46 rfl) (by decide) ?_
                          refine lv_icmp_eq (tgt := 97) hx hb (fh_d d_Mo_sortOf 47 rfl) rfl (fun c15 => ?_) (fun c15 => ?_)
                          · refine lv_iconst (v := 4) hx hb (fh_d d_Mo_sortOf 51 rfl) (by decide) ?_
                            have qL : ¬ isL c0 := fun q => by have := c3; rw [if_pos q] at this; exact absurd this (by decide)
                            refine fh_iret X hP hS (fh_d d_Mo_sortOf 52 rfl) ⟨?_, rfl, rfl⟩
                            unfold sorto
                            rw [if_neg (fun z => z.elim qL (fun z => z.elim (fun z9 => absurd z9.1 (Int32.not_le.mpr c4)) (fun z => z.elim c5 (fun z => z.elim c6 (fun z => z.elim c7 (c8)))))), if_neg (fun z => z.elim c9 (fun z => z.elim c10 (c11))), if_neg (fun z => z.elim c12 (fun z => z.elim c13 (c14))), if_pos (Or.inl c15)]
                          · refine lv_iload_n hx hb (fh_d d_Mo_sortOf 48 rfl) rfl (lv_at hl 0 rfl) ?_
                            refine lv_bipush (v := 91) hx hb (fh_d d_Mo_sortOf 49 rfl) (by decide) ?_
                            refine lv_icmp_ne (tgt := 99) hx hb (fh_d d_Mo_sortOf 50 rfl) rfl (fun c16 => ?_) (fun c16 => ?_)
                            · refine lv_iload_n hx hb (fh_d d_Mo_sortOf 53 rfl) rfl (lv_at hl 0 rfl) ?_
                              refine lv_bipush (v := 41) hx hb (fh_d d_Mo_sortOf 54 rfl) (by decide) ?_
                              refine lv_icmp_eq (tgt := 111) hx hb (fh_d d_Mo_sortOf 55 rfl) rfl (fun c17 => ?_) (fun c17 => ?_)
                              · refine lv_iconst (v := 5) hx hb (fh_d d_Mo_sortOf 59 rfl) (by decide) ?_
                                refine lv_goto (tgt := 133) hx hb (fh_d d_Mo_sortOf 60 rfl) rfl ?_
                                have qL : ¬ isL c0 := fun q => by have := c3; rw [if_pos q] at this; exact absurd this (by decide)
                                refine fh_iret X hP hS (fh_d d_Mo_sortOf 70 rfl) ⟨?_, rfl, rfl⟩
                                unfold sorto
                                rw [if_neg (fun z => z.elim qL (fun z => z.elim (fun z9 => absurd z9.1 (Int32.not_le.mpr c4)) (fun z => z.elim c5 (fun z => z.elim c6 (fun z => z.elim c7 (c8)))))), if_neg (fun z => z.elim c9 (fun z => z.elim c10 (c11))), if_neg (fun z => z.elim c12 (fun z => z.elim c13 (c14))), if_neg (fun z => z.elim c15 (c16)), if_pos (Or.inl c17)]
                              · refine lv_iload_n hx hb (fh_d d_Mo_sortOf 56 rfl) rfl (lv_at hl 0 rfl) ?_
                                refine lv_bipush (v := 93) hx hb (fh_d d_Mo_sortOf 57 rfl) (by decide) ?_
                                refine lv_icmp_ne (tgt := 115) hx hb (fh_d d_Mo_sortOf 58 rfl) rfl (fun c18 => ?_) (fun c18 => ?_)
                                · refine lv_iload_n hx hb (fh_d d_Mo_sortOf 61 rfl) rfl (lv_at hl 0 rfl) ?_
                                  refine lv_bipush (v := 44) hx hb (fh_d d_Mo_sortOf 62 rfl) (by decide) ?_
                                  refine lv_icmp_eq (tgt := 127) hx hb (fh_d d_Mo_sortOf 63 rfl) rfl (fun c19 => ?_) (fun c19 => ?_)
                                  · refine lv_bipush (v := 6) hx hb (fh_d d_Mo_sortOf 67 rfl) (by decide) ?_
                                    refine lv_goto (tgt := 133) hx hb (fh_d d_Mo_sortOf 68 rfl) rfl ?_
                                    have qL : ¬ isL c0 := fun q => by have := c3; rw [if_pos q] at this; exact absurd this (by decide)
                                    refine fh_iret X hP hS (fh_d d_Mo_sortOf 70 rfl) ⟨?_, rfl, rfl⟩
                                    unfold sorto
                                    rw [if_neg (fun z => z.elim qL (fun z => z.elim (fun z9 => absurd z9.1 (Int32.not_le.mpr c4)) (fun z => z.elim c5 (fun z => z.elim c6 (fun z => z.elim c7 (c8)))))), if_neg (fun z => z.elim c9 (fun z => z.elim c10 (c11))), if_neg (fun z => z.elim c12 (fun z => z.elim c13 (c14))), if_neg (fun z => z.elim c15 (c16)), if_neg (fun z => z.elim c17 (c18)), if_pos (Or.inl c19)]
                                  · refine lv_iload_n hx hb (fh_d d_Mo_sortOf 64 rfl) rfl (lv_at hl 0 rfl) ?_
                                    refine lv_bipush (v := 59) hx hb (fh_d d_Mo_sortOf 65 rfl) (by decide) ?_
                                    refine lv_icmp_ne (tgt := 132) hx hb (fh_d d_Mo_sortOf 66 rfl) rfl (fun c20 => ?_) (fun c20 => ?_)
                                    · refine lv_iconst (v := (-1)) hx hb (fh_d d_Mo_sortOf 69 rfl) (by decide) ?_
                                      have qL : ¬ isL c0 := fun q => by have := c3; rw [if_pos q] at this; exact absurd this (by decide)
                                      refine fh_iret X hP hS (fh_d d_Mo_sortOf 70 rfl) ⟨?_, rfl, rfl⟩
                                      unfold sorto
                                      rw [if_neg (fun z => z.elim qL (fun z => z.elim (fun z9 => absurd z9.1 (Int32.not_le.mpr c4)) (fun z => z.elim c5 (fun z => z.elim c6 (fun z => z.elim c7 (c8)))))), if_neg (fun z => z.elim c9 (fun z => z.elim c10 (c11))), if_neg (fun z => z.elim c12 (fun z => z.elim c13 (c14))), if_neg (fun z => z.elim c15 (c16)), if_neg (fun z => z.elim c17 (c18)), if_neg (fun z => z.elim c19 (c20))]
                                    · refine lv_bipush (v := 6) hx hb (fh_d d_Mo_sortOf 67 rfl) (by decide) ?_
                                      refine lv_goto (tgt := 133) hx hb (fh_d d_Mo_sortOf 68 rfl) rfl ?_
                                      have qL : ¬ isL c0 := fun q => by have := c3; rw [if_pos q] at this; exact absurd this (by decide)
                                      refine fh_iret X hP hS (fh_d d_Mo_sortOf 70 rfl) ⟨?_, rfl, rfl⟩
                                      unfold sorto
                                      rw [if_neg (fun z => z.elim qL (fun z => z.elim (fun z9 => absurd z9.1 (Int32.not_le.mpr c4)) (fun z => z.elim c5 (fun z => z.elim c6 (fun z => z.elim c7 (c8)))))), if_neg (fun z => z.elim c9 (fun z => z.elim c10 (c11))), if_neg (fun z => z.elim c12 (fun z => z.elim c13 (c14))), if_neg (fun z => z.elim c15 (c16)), if_neg (fun z => z.elim c17 (c18)), if_pos (Or.inr (c20))]
                                · refine lv_iconst (v := 5) hx hb (fh_d d_Mo_sortOf 59 rfl) (by decide) ?_
                                  refine lv_goto (tgt := 133) hx hb (fh_d d_Mo_sortOf 60 rfl) rfl ?_
                                  have qL : ¬ isL c0 := fun q => by have := c3; rw [if_pos q] at this; exact absurd this (by decide)
                                  refine fh_iret X hP hS (fh_d d_Mo_sortOf 70 rfl) ⟨?_, rfl, rfl⟩
                                  unfold sorto
                                  rw [if_neg (fun z => z.elim qL (fun z => z.elim (fun z9 => absurd z9.1 (Int32.not_le.mpr c4)) (fun z => z.elim c5 (fun z => z.elim c6 (fun z => z.elim c7 (c8)))))), if_neg (fun z => z.elim c9 (fun z => z.elim c10 (c11))), if_neg (fun z => z.elim c12 (fun z => z.elim c13 (c14))), if_neg (fun z => z.elim c15 (c16)), if_pos (Or.inr (c18))]
                            · refine lv_iconst (v := 4) hx hb (fh_d d_Mo_sortOf 51 rfl) (by decide) ?_
                              have qL : ¬ isL c0 := fun q => by have := c3; rw [if_pos q] at this; exact absurd this (by decide)
                              refine fh_iret X hP hS (fh_d d_Mo_sortOf 52 rfl) ⟨?_, rfl, rfl⟩
                              unfold sorto
                              rw [if_neg (fun z => z.elim qL (fun z => z.elim (fun z9 => absurd z9.1 (Int32.not_le.mpr c4)) (fun z => z.elim c5 (fun z => z.elim c6 (fun z => z.elim c7 (c8)))))), if_neg (fun z => z.elim c9 (fun z => z.elim c10 (c11))), if_neg (fun z => z.elim c12 (fun z => z.elim c13 (c14))), if_pos (Or.inr (c16))]
                        · refine lv_iconst (v := 3) hx hb (fh_d d_Mo_sortOf 43 rfl) (by decide) ?_
                          have qL : ¬ isL c0 := fun q => by have := c3; rw [if_pos q] at this; exact absurd this (by decide)
                          refine fh_iret X hP hS (fh_d d_Mo_sortOf 44 rfl) ⟨?_, rfl, rfl⟩
                          unfold sorto
                          rw [if_neg (fun z => z.elim qL (fun z => z.elim (fun z9 => absurd z9.1 (Int32.not_le.mpr c4)) (fun z => z.elim c5 (fun z => z.elim c6 (fun z => z.elim c7 (c8)))))), if_neg (fun z => z.elim c9 (fun z => z.elim c10 (c11))), if_pos (Or.inr (Or.inr (c14)))]
                  · refine lv_iconst (v := 2) hx hb (fh_d d_Mo_sortOf 32 rfl) (by decide) ?_
                    have qL : ¬ isL c0 := fun q => by have := c3; rw [if_pos q] at this; exact absurd this (by decide)
                    refine fh_iret X hP hS (fh_d d_Mo_sortOf 33 rfl) ⟨?_, rfl, rfl⟩
                    unfold sorto
                    rw [if_neg (fun z => z.elim qL (fun z => z.elim (fun z9 => absurd z9.1 (Int32.not_le.mpr c4)) (fun z => z.elim c5 (fun z => z.elim c6 (fun z => z.elim c7 (c8)))))), if_pos (Or.inr (Or.inr (c11)))]
            · refine lv_iconst (v := 0) hx hb (fh_d d_Mo_sortOf 21 rfl) (by decide) ?_
              have qL : ¬ isL c0 := fun q => by have := c3; rw [if_pos q] at this; exact absurd this (by decide)
              refine fh_iret X hP hS (fh_d d_Mo_sortOf 22 rfl) ⟨?_, rfl, rfl⟩
              unfold sorto
              rw [if_pos (Or.inr (Or.inr (Or.inr (Or.inr (Or.inr (c8))))))]
    · refine lv_iload_n hx hb (fh_d d_Mo_sortOf 6 rfl) rfl (lv_at hl 0 rfl) ?_
      refine lv_bipush (v := 57) hx hb (fh_d d_Mo_sortOf 7 rfl) (by decide) ?_
      refine lv_icmp_le (tgt := 43) hx hb (fh_d d_Mo_sortOf 8 rfl) rfl (fun c21 => ?_) (fun c21 => ?_)
      · refine lv_iconst (v := 0) hx hb (fh_d d_Mo_sortOf 21 rfl) (by decide) ?_
        have qL : ¬ isL c0 := fun q => by have := c3; rw [if_pos q] at this; exact absurd this (by decide)
        refine fh_iret X hP hS (fh_d d_Mo_sortOf 22 rfl) ⟨?_, rfl, rfl⟩
        unfold sorto
        rw [if_pos (Or.inr (Or.inl ⟨Int32.not_lt.mp c4, c21⟩))]
      · refine lv_iload_n hx hb (fh_d d_Mo_sortOf 9 rfl) rfl (lv_at hl 0 rfl) ?_
        refine lv_bipush (v := 46) hx hb (fh_d d_Mo_sortOf 10 rfl) (by decide) ?_
        refine lv_icmp_eq (tgt := 43) hx hb (fh_d d_Mo_sortOf 11 rfl) rfl (fun c22 => ?_) (fun c22 => ?_)
        · refine lv_iconst (v := 0) hx hb (fh_d d_Mo_sortOf 21 rfl) (by decide) ?_
          have qL : ¬ isL c0 := fun q => by have := c3; rw [if_pos q] at this; exact absurd this (by decide)
          refine fh_iret X hP hS (fh_d d_Mo_sortOf 22 rfl) ⟨?_, rfl, rfl⟩
          unfold sorto
          rw [if_pos (Or.inr (Or.inr (Or.inl c22)))]
        · refine lv_iload_n hx hb (fh_d d_Mo_sortOf 12 rfl) rfl (lv_at hl 0 rfl) ?_
          refine lv_bipush (v := 33) hx hb (fh_d d_Mo_sortOf 13 rfl) (by decide) ?_
          refine lv_icmp_eq (tgt := 43) hx hb (fh_d d_Mo_sortOf 14 rfl) rfl (fun c23 => ?_) (fun c23 => ?_)
          · refine lv_iconst (v := 0) hx hb (fh_d d_Mo_sortOf 21 rfl) (by decide) ?_
            have qL : ¬ isL c0 := fun q => by have := c3; rw [if_pos q] at this; exact absurd this (by decide)
            refine fh_iret X hP hS (fh_d d_Mo_sortOf 22 rfl) ⟨?_, rfl, rfl⟩
            unfold sorto
            rw [if_pos (Or.inr (Or.inr (Or.inr (Or.inl c23))))]
          · refine lv_iload_n hx hb (fh_d d_Mo_sortOf 15 rfl) rfl (lv_at hl 0 rfl) ?_
            refine lv_bipush (v := 47) hx hb (fh_d d_Mo_sortOf 16 rfl) (by decide) ?_
            refine lv_icmp_eq (tgt := 43) hx hb (fh_d d_Mo_sortOf 17 rfl) rfl (fun c24 => ?_) (fun c24 => ?_)
            · refine lv_iconst (v := 0) hx hb (fh_d d_Mo_sortOf 21 rfl) (by decide) ?_
              have qL : ¬ isL c0 := fun q => by have := c3; rw [if_pos q] at this; exact absurd this (by decide)
              refine fh_iret X hP hS (fh_d d_Mo_sortOf 22 rfl) ⟨?_, rfl, rfl⟩
              unfold sorto
              rw [if_pos (Or.inr (Or.inr (Or.inr (Or.inr (Or.inl c24)))))]
            · refine lv_iload_n hx hb (fh_d d_Mo_sortOf 18 rfl) rfl (lv_at hl 0 rfl) ?_
              refine lv_bipush (v := 124) hx hb (fh_d d_Mo_sortOf 19 rfl) (by decide) ?_
              refine lv_icmp_ne (tgt := 45) hx hb (fh_d d_Mo_sortOf 20 rfl) rfl (fun c25 => ?_) (fun c25 => ?_)
              · refine lv_iload_n hx hb (fh_d d_Mo_sortOf 23 rfl) rfl (lv_at hl 0 rfl) ?_
                refine lv_bipush (v := 43) hx hb (fh_d d_Mo_sortOf 24 rfl) (by decide) ?_
                refine lv_icmp_eq (tgt := 63) hx hb (fh_d d_Mo_sortOf 25 rfl) rfl (fun c26 => ?_) (fun c26 => ?_)
                · refine lv_iconst (v := 2) hx hb (fh_d d_Mo_sortOf 32 rfl) (by decide) ?_
                  have qL : ¬ isL c0 := fun q => by have := c3; rw [if_pos q] at this; exact absurd this (by decide)
                  refine fh_iret X hP hS (fh_d d_Mo_sortOf 33 rfl) ⟨?_, rfl, rfl⟩
                  unfold sorto
                  rw [if_neg (fun z => z.elim qL (fun z => z.elim (fun z9 => c21 z9.2) (fun z => z.elim c22 (fun z => z.elim c23 (fun z => z.elim c24 (c25)))))), if_pos (Or.inl c26)]
                · refine lv_iload_n hx hb (fh_d d_Mo_sortOf 26 rfl) rfl (lv_at hl 0 rfl) ?_
                  refine lv_bipush (v := 45) hx hb (fh_d d_Mo_sortOf 27 rfl) (by decide) ?_
                  refine lv_icmp_eq (tgt := 63) hx hb (fh_d d_Mo_sortOf 28 rfl) rfl (fun c27 => ?_) (fun c27 => ?_)
                  · refine lv_iconst (v := 2) hx hb (fh_d d_Mo_sortOf 32 rfl) (by decide) ?_
                    have qL : ¬ isL c0 := fun q => by have := c3; rw [if_pos q] at this; exact absurd this (by decide)
                    refine fh_iret X hP hS (fh_d d_Mo_sortOf 33 rfl) ⟨?_, rfl, rfl⟩
                    unfold sorto
                    rw [if_neg (fun z => z.elim qL (fun z => z.elim (fun z9 => c21 z9.2) (fun z => z.elim c22 (fun z => z.elim c23 (fun z => z.elim c24 (c25)))))), if_pos (Or.inr (Or.inl c27))]
                  · refine lv_iload_n hx hb (fh_d d_Mo_sortOf 29 rfl) rfl (lv_at hl 0 rfl) ?_
                    refine lv_bipush (v := 42) hx hb (fh_d d_Mo_sortOf 30 rfl) (by decide) ?_
                    refine lv_icmp_ne (tgt := 65) hx hb (fh_d d_Mo_sortOf 31 rfl) rfl (fun c28 => ?_) (fun c28 => ?_)
                    · refine lv_iload_n hx hb (fh_d d_Mo_sortOf 34 rfl) rfl (lv_at hl 0 rfl) ?_
                      refine lv_bipush (v := 61) hx hb (fh_d d_Mo_sortOf 35 rfl) (by decide) ?_
                      refine lv_icmp_eq (tgt := 83) hx hb (fh_d d_Mo_sortOf 36 rfl) rfl (fun c29 => ?_) (fun c29 => ?_)
                      · refine lv_iconst (v := 3) hx hb (fh_d d_Mo_sortOf 43 rfl) (by decide) ?_
                        have qL : ¬ isL c0 := fun q => by have := c3; rw [if_pos q] at this; exact absurd this (by decide)
                        refine fh_iret X hP hS (fh_d d_Mo_sortOf 44 rfl) ⟨?_, rfl, rfl⟩
                        unfold sorto
                        rw [if_neg (fun z => z.elim qL (fun z => z.elim (fun z9 => c21 z9.2) (fun z => z.elim c22 (fun z => z.elim c23 (fun z => z.elim c24 (c25)))))), if_neg (fun z => z.elim c26 (fun z => z.elim c27 (c28))), if_pos (Or.inl c29)]
                      · refine lv_iload_n hx hb (fh_d d_Mo_sortOf 37 rfl) rfl (lv_at hl 0 rfl) ?_
                        refine lv_bipush (v := 60) hx hb (fh_d d_Mo_sortOf 38 rfl) (by decide) ?_
                        refine lv_icmp_eq (tgt := 83) hx hb (fh_d d_Mo_sortOf 39 rfl) rfl (fun c30 => ?_) (fun c30 => ?_)
                        · refine lv_iconst (v := 3) hx hb (fh_d d_Mo_sortOf 43 rfl) (by decide) ?_
                          have qL : ¬ isL c0 := fun q => by have := c3; rw [if_pos q] at this; exact absurd this (by decide)
                          refine fh_iret X hP hS (fh_d d_Mo_sortOf 44 rfl) ⟨?_, rfl, rfl⟩
                          unfold sorto
                          rw [if_neg (fun z => z.elim qL (fun z => z.elim (fun z9 => c21 z9.2) (fun z => z.elim c22 (fun z => z.elim c23 (fun z => z.elim c24 (c25)))))), if_neg (fun z => z.elim c26 (fun z => z.elim c27 (c28))), if_pos (Or.inr (Or.inl c30))]
                        · refine lv_iload_n hx hb (fh_d d_Mo_sortOf 40 rfl) rfl (lv_at hl 0 rfl) ?_
                          refine lv_bipush (v := 62) hx hb (fh_d d_Mo_sortOf 41 rfl) (by decide) ?_
                          refine lv_icmp_ne (tgt := 85) hx hb (fh_d d_Mo_sortOf 42 rfl) rfl (fun c31 => ?_) (fun c31 => ?_)
                          · refine lv_iload_n hx hb (fh_d d_Mo_sortOf 45 rfl) rfl (lv_at hl 0 rfl) ?_
                            refine lv_bipush (v := 40) hx hb (fh_d d_Mo_sortOf 46 rfl) (by decide) ?_
                            refine lv_icmp_eq (tgt := 97) hx hb (fh_d d_Mo_sortOf 47 rfl) rfl (fun c32 => ?_) (fun c32 => ?_)
                            · refine lv_iconst (v := 4) hx hb (fh_d d_Mo_sortOf 51 rfl) (by decide) ?_
                              have qL : ¬ isL c0 := fun q => by have := c3; rw [if_pos q] at this; exact absurd this (by decide)
                              refine fh_iret X hP hS (fh_d d_Mo_sortOf 52 rfl) ⟨?_, rfl, rfl⟩
                              unfold sorto
                              rw [if_neg (fun z => z.elim qL (fun z => z.elim (fun z9 => c21 z9.2) (fun z => z.elim c22 (fun z => z.elim c23 (fun z => z.elim c24 (c25)))))), if_neg (fun z => z.elim c26 (fun z => z.elim c27 (c28))), if_neg (fun z => z.elim c29 (fun z => z.elim c30 (c31))), if_pos (Or.inl c32)]
                            · refine lv_iload_n hx hb (fh_d d_Mo_sortOf 48 rfl) rfl (lv_at hl 0 rfl) ?_
                              refine lv_bipush (v := 91) hx hb (fh_d d_Mo_sortOf 49 rfl) (by decide) ?_
                              refine lv_icmp_ne (tgt := 99) hx hb (fh_d d_Mo_sortOf 50 rfl) rfl (fun c33 => ?_) (fun c33 => ?_)
                              · refine lv_iload_n hx hb (fh_d d_Mo_sortOf 53 rfl) rfl (lv_at hl 0 rfl) ?_
                                refine lv_bipush (v := 41) hx hb (fh_d d_Mo_sortOf 54 rfl) (by decide) ?_
                                refine lv_icmp_eq (tgt := 111) hx hb (fh_d d_Mo_sortOf 55 rfl) rfl (fun c34 => ?_) (fun c34 => ?_)
                                · refine lv_iconst (v := 5) hx hb (fh_d d_Mo_sortOf 59 rfl) (by decide) ?_
                                  refine lv_goto (tgt := 133) hx hb (fh_d d_Mo_sortOf 60 rfl) rfl ?_
                                  have qL : ¬ isL c0 := fun q => by have := c3; rw [if_pos q] at this; exact absurd this (by decide)
                                  refine fh_iret X hP hS (fh_d d_Mo_sortOf 70 rfl) ⟨?_, rfl, rfl⟩
                                  unfold sorto
                                  rw [if_neg (fun z => z.elim qL (fun z => z.elim (fun z9 => c21 z9.2) (fun z => z.elim c22 (fun z => z.elim c23 (fun z => z.elim c24 (c25)))))), if_neg (fun z => z.elim c26 (fun z => z.elim c27 (c28))), if_neg (fun z => z.elim c29 (fun z => z.elim c30 (c31))), if_neg (fun z => z.elim c32 (c33)), if_pos (Or.inl c34)]
                                · refine lv_iload_n hx hb (fh_d d_Mo_sortOf 56 rfl) rfl (lv_at hl 0 rfl) ?_
                                  refine lv_bipush (v := 93) hx hb (fh_d d_Mo_sortOf 57 rfl) (by decide) ?_
                                  refine lv_icmp_ne (tgt := 115) hx hb (fh_d d_Mo_sortOf 58 rfl) rfl (fun c35 => ?_) (fun c35 => ?_)
                                  · refine lv_iload_n hx hb (fh_d d_Mo_sortOf 61 rfl) rfl (lv_at hl 0 rfl) ?_
                                    refine lv_bipush (v := 44) hx hb (fh_d d_Mo_sortOf 62 rfl) (by decide) ?_
                                    refine lv_icmp_eq (tgt := 127) hx hb (fh_d d_Mo_sortOf 63 rfl) rfl (fun c36 => ?_) (fun c36 => ?_)
                                    · refine lv_bipush (v := 6) hx hb (fh_d d_Mo_sortOf 67 rfl) (by decide) ?_
                                      refine lv_goto (tgt := 133) hx hb (fh_d d_Mo_sortOf 68 rfl) rfl ?_
                                      have qL : ¬ isL c0 := fun q => by have := c3; rw [if_pos q] at this; exact absurd this (by decide)
                                      refine fh_iret X hP hS (fh_d d_Mo_sortOf 70 rfl) ⟨?_, rfl, rfl⟩
                                      unfold sorto
                                      rw [if_neg (fun z => z.elim qL (fun z => z.elim (fun z9 => c21 z9.2) (fun z => z.elim c22 (fun z => z.elim c23 (fun z => z.elim c24 (c25)))))), if_neg (fun z => z.elim c26 (fun z => z.elim c27 (c28))), if_neg (fun z => z.elim c29 (fun z => z.elim c30 (c31))), if_neg (fun z => z.elim c32 (c33)), if_neg (fun z => z.elim c34 (c35)), if_pos (Or.inl c36)]
                                    · refine lv_iload_n hx hb (fh_d d_Mo_sortOf 64 rfl) rfl (lv_at hl 0 rfl) ?_
                                      refine lv_bipush (v := 59) hx hb (fh_d d_Mo_sortOf 65 rfl) (by decide) ?_
                                      refine lv_icmp_ne (tgt := 132) hx hb (fh_d d_Mo_sortOf 66 rfl) rfl (fun c37 => ?_) (fun c37 => ?_)
                                      · refine lv_iconst (v := (-1)) hx hb (fh_d d_Mo_sortOf 69 rfl) (by decide) ?_
                                        have qL : ¬ isL c0 := fun q => by have := c3; rw [if_pos q] at this; exact absurd this (by decide)
                                        refine fh_iret X hP hS (fh_d d_Mo_sortOf 70 rfl) ⟨?_, rfl, rfl⟩
                                        unfold sorto
                                        rw [if_neg (fun z => z.elim qL (fun z => z.elim (fun z9 => c21 z9.2) (fun z => z.elim c22 (fun z => z.elim c23 (fun z => z.elim c24 (c25)))))), if_neg (fun z => z.elim c26 (fun z => z.elim c27 (c28))), if_neg (fun z => z.elim c29 (fun z => z.elim c30 (c31))), if_neg (fun z => z.elim c32 (c33)), if_neg (fun z => z.elim c34 (c35)), if_neg (fun z => z.elim c36 (c37))]
                                      · refine lv_bipush (v := 6) hx hb (fh_d d_Mo_sortOf 67 rfl) (by decide) ?_
                                        refine lv_goto (tgt := 133) hx hb (fh_d d_Mo_sortOf 68 rfl) rfl ?_
                                        have qL : ¬ isL c0 := fun q => by have := c3; rw [if_pos q] at this; exact absurd this (by decide)
                                        refine fh_iret X hP hS (fh_d d_Mo_sortOf 70 rfl) ⟨?_, rfl, rfl⟩
                                        unfold sorto
                                        rw [if_neg (fun z => z.elim qL (fun z => z.elim (fun z9 => c21 z9.2) (fun z => z.elim c22 (fun z => z.elim c23 (fun z => z.elim c24 (c25)))))), if_neg (fun z => z.elim c26 (fun z => z.elim c27 (c28))), if_neg (fun z => z.elim c29 (fun z => z.elim c30 (c31))), if_neg (fun z => z.elim c32 (c33)), if_neg (fun z => z.elim c34 (c35)), if_pos (Or.inr (c37))]
                                  · refine lv_iconst (v := 5) hx hb (fh_d d_Mo_sortOf 59 rfl) (by decide) ?_
                                    refine lv_goto (tgt := 133) hx hb (fh_d d_Mo_sortOf 60 rfl) rfl ?_
                                    have qL : ¬ isL c0 := fun q => by have := c3; rw [if_pos q] at this; exact absurd this (by decide)
                                    refine fh_iret X hP hS (fh_d d_Mo_sortOf 70 rfl) ⟨?_, rfl, rfl⟩
                                    unfold sorto
                                    rw [if_neg (fun z => z.elim qL (fun z => z.elim (fun z9 => c21 z9.2) (fun z => z.elim c22 (fun z => z.elim c23 (fun z => z.elim c24 (c25)))))), if_neg (fun z => z.elim c26 (fun z => z.elim c27 (c28))), if_neg (fun z => z.elim c29 (fun z => z.elim c30 (c31))), if_neg (fun z => z.elim c32 (c33)), if_pos (Or.inr (c35))]
                              · refine lv_iconst (v := 4) hx hb (fh_d d_Mo_sortOf 51 rfl) (by decide) ?_
                                have qL : ¬ isL c0 := fun q => by have := c3; rw [if_pos q] at this; exact absurd this (by decide)
                                refine fh_iret X hP hS (fh_d d_Mo_sortOf 52 rfl) ⟨?_, rfl, rfl⟩
                                unfold sorto
                                rw [if_neg (fun z => z.elim qL (fun z => z.elim (fun z9 => c21 z9.2) (fun z => z.elim c22 (fun z => z.elim c23 (fun z => z.elim c24 (c25)))))), if_neg (fun z => z.elim c26 (fun z => z.elim c27 (c28))), if_neg (fun z => z.elim c29 (fun z => z.elim c30 (c31))), if_pos (Or.inr (c33))]
                          · refine lv_iconst (v := 3) hx hb (fh_d d_Mo_sortOf 43 rfl) (by decide) ?_
                            have qL : ¬ isL c0 := fun q => by have := c3; rw [if_pos q] at this; exact absurd this (by decide)
                            refine fh_iret X hP hS (fh_d d_Mo_sortOf 44 rfl) ⟨?_, rfl, rfl⟩
                            unfold sorto
                            rw [if_neg (fun z => z.elim qL (fun z => z.elim (fun z9 => c21 z9.2) (fun z => z.elim c22 (fun z => z.elim c23 (fun z => z.elim c24 (c25)))))), if_neg (fun z => z.elim c26 (fun z => z.elim c27 (c28))), if_pos (Or.inr (Or.inr (c31)))]
                    · refine lv_iconst (v := 2) hx hb (fh_d d_Mo_sortOf 32 rfl) (by decide) ?_
                      have qL : ¬ isL c0 := fun q => by have := c3; rw [if_pos q] at this; exact absurd this (by decide)
                      refine fh_iret X hP hS (fh_d d_Mo_sortOf 33 rfl) ⟨?_, rfl, rfl⟩
                      unfold sorto
                      rw [if_neg (fun z => z.elim qL (fun z => z.elim (fun z9 => c21 z9.2) (fun z => z.elim c22 (fun z => z.elim c23 (fun z => z.elim c24 (c25)))))), if_pos (Or.inr (Or.inr (c28)))]
              · refine lv_iconst (v := 0) hx hb (fh_d d_Mo_sortOf 21 rfl) (by decide) ?_
                have qL : ¬ isL c0 := fun q => by have := c3; rw [if_pos q] at this; exact absurd this (by decide)
                refine fh_iret X hP hS (fh_d d_Mo_sortOf 22 rfl) ⟨?_, rfl, rfl⟩
                unfold sorto
                rw [if_pos (Or.inr (Or.inr (Or.inr (Or.inr (Or.inr (c25))))))]
