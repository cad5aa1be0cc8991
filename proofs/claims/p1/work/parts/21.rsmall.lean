/-! The reference: small methods of reading. Printed by wip/whole/gen/p21.py -/
/-- a letter -/
abbrev isL (c : Int32) : Prop := (97 ≤ c ∧ c ≤ 122) ∨ (65 ≤ c ∧ c ≤ 90)
set_option maxHeartbeats 4000000 in
set_option maxRecDepth 100000 in
theorem m_Mo_isLetter (l : Launch) (D : va_G) (ct : Nat → ClassId) (b : Nat) (RO : State → Prop) (r n : Nat) (c0 : Int32) (h : fh_H) : fh_C l D fh_cl (fh_tys ct) b RO y_Mo_isLetter (Cond.code y_Mo_isLetter c_Mo_isLetter 1 (Option.some FieldType.boolean) :: fh_T) (fh_rm r 0 0) [.int c0] h n (fun v h' n' => v = some (.int (if isL c0 then 1 else 0)) ∧ h' = h ∧ n' = n) 0 0 := by
  refine fh_enter (by decide) (Nat.le_of_ble_eq_true rfl) [(0, .int c0)] rfl ?_
  intro p e s m args below meth c H ls X hP hS hl
  have hx := X.1
  have hb := X.2.1
  have hml := X.2.2.1
  have hown : s.vm.findClass "FormulaSetterModel" = some m.cls := X.2.2.2.1
  have hT := X.2.2.2.2.1
  have hK := X.2.2.2.2.2.1
  have hRO := X.2.2.2.2.2.2.1
  have hnm : meth.name = "isLetter" := X.2.2.2.2.2.2.2.2.2.2
  refine lv_iload_n hx hb (fh_d d_Mo_isLetter 0 rfl) rfl (lv_at hl 0 rfl) ?_
  refine lv_bipush (v := 97) hx hb (fh_d d_Mo_isLetter 1 rfl) (by decide) ?_
  refine lv_icmp_lt (tgt := 12) hx hb (fh_d d_Mo_isLetter 2 rfl) rfl (fun c1 => ?_) (fun c1 => ?_)
  · refine lv_iload_n hx hb (fh_d d_Mo_isLetter 6 rfl) rfl (lv_at hl 0 rfl) ?_
    refine lv_bipush (v := 65) hx hb (fh_d d_Mo_isLetter 7 rfl) (by decide) ?_
    refine lv_icmp_lt (tgt := 28) hx hb (fh_d d_Mo_isLetter 8 rfl) rfl (fun c2 => ?_) (fun c2 => ?_)
    · refine lv_iconst (v := 0) hx hb (fh_d d_Mo_isLetter 14 rfl) (by decide) ?_
      refine fh_zret X hP hS (fh_d d_Mo_isLetter 15 rfl) (by decide) ⟨?_, rfl, rfl⟩
      have q9 : ¬ isL c0 := by
        simp only [Int32.le_iff_toInt_le, Int32.lt_iff_toInt_lt, isL] at *
        omega
      simp [q9]
    · refine lv_iload_n hx hb (fh_d d_Mo_isLetter 9 rfl) rfl (lv_at hl 0 rfl) ?_
      refine lv_bipush (v := 90) hx hb (fh_d d_Mo_isLetter 10 rfl) (by decide) ?_
      refine lv_icmp_gt (tgt := 28) hx hb (fh_d d_Mo_isLetter 11 rfl) rfl (fun c3 => ?_) (fun c3 => ?_)
      · refine lv_iconst (v := 0) hx hb (fh_d d_Mo_isLetter 14 rfl) (by decide) ?_
        refine fh_zret X hP hS (fh_d d_Mo_isLetter 15 rfl) (by decide) ⟨?_, rfl, rfl⟩
        have q9 : ¬ isL c0 := by
          simp only [Int32.le_iff_toInt_le, Int32.lt_iff_toInt_lt, isL] at *
          omega
        simp [q9]
      · refine lv_iconst (v := 1) hx hb (fh_d d_Mo_isLetter 12 rfl) (by decide) ?_
        refine lv_goto (tgt := 29) hx hb (fh_d d_Mo_isLetter 13 rfl) rfl ?_
        refine fh_zret X hP hS (fh_d d_Mo_isLetter 15 rfl) (by decide) ⟨?_, rfl, rfl⟩
        have q9 : isL c0 := by
          simp only [Int32.le_iff_toInt_le, Int32.lt_iff_toInt_lt, isL] at *
          omega
        simp [q9]
  · refine lv_iload_n hx hb (fh_d d_Mo_isLetter 3 rfl) rfl (lv_at hl 0 rfl) ?_
    refine lv_bipush (v := 122) hx hb (fh_d d_Mo_isLetter 4 rfl) (by decide) ?_
    refine lv_icmp_le (tgt := 24) hx hb (fh_d d_Mo_isLetter 5 rfl) rfl (fun c4 => ?_) (fun c4 => ?_)
    · refine lv_iconst (v := 1) hx hb (fh_d d_Mo_isLetter 12 rfl) (by decide) ?_
      refine lv_goto (tgt := 29) hx hb (fh_d d_Mo_isLetter 13 rfl) rfl ?_
      refine fh_zret X hP hS (fh_d d_Mo_isLetter 15 rfl) (by decide) ⟨?_, rfl, rfl⟩
      have q9 : isL c0 := by
        simp only [Int32.le_iff_toInt_le, Int32.lt_iff_toInt_lt, isL] at *
        omega
      simp [q9]
    · refine lv_iload_n hx hb (fh_d d_Mo_isLetter 6 rfl) rfl (lv_at hl 0 rfl) ?_
      refine lv_bipush (v := 65) hx hb (fh_d d_Mo_isLetter 7 rfl) (by decide) ?_
      refine lv_icmp_lt (tgt := 28) hx hb (fh_d d_Mo_isLetter 8 rfl) rfl (fun c5 => ?_) (fun c5 => ?_)
      · refine lv_iconst (v := 0) hx hb (fh_d d_Mo_isLetter 14 rfl) (by decide) ?_
        refine fh_zret X hP hS (fh_d d_Mo_isLetter 15 rfl) (by decide) ⟨?_, rfl, rfl⟩
        have q9 : ¬ isL c0 := by
          simp only [Int32.le_iff_toInt_le, Int32.lt_iff_toInt_lt, isL] at *
          omega
        simp [q9]
      · refine lv_iload_n hx hb (fh_d d_Mo_isLetter 9 rfl) rfl (lv_at hl 0 rfl) ?_
        refine lv_bipush (v := 90) hx hb (fh_d d_Mo_isLetter 10 rfl) (by decide) ?_
        refine lv_icmp_gt (tgt := 28) hx hb (fh_d d_Mo_isLetter 11 rfl) rfl (fun c6 => ?_) (fun c6 => ?_)
        · refine lv_iconst (v := 0) hx hb (fh_d d_Mo_isLetter 14 rfl) (by decide) ?_
          refine fh_zret X hP hS (fh_d d_Mo_isLetter 15 rfl) (by decide) ⟨?_, rfl, rfl⟩
          have q9 : ¬ isL c0 := by
            simp only [Int32.le_iff_toInt_le, Int32.lt_iff_toInt_lt, isL] at *
            omega
          simp [q9]
        · refine lv_iconst (v := 1) hx hb (fh_d d_Mo_isLetter 12 rfl) (by decide) ?_
          refine lv_goto (tgt := 29) hx hb (fh_d d_Mo_isLetter 13 rfl) rfl ?_
          refine fh_zret X hP hS (fh_d d_Mo_isLetter 15 rfl) (by decide) ⟨?_, rfl, rfl⟩
          have q9 : isL c0 := by
            simp only [Int32.le_iff_toInt_le, Int32.lt_iff_toInt_lt, isL] at *
            omega
          simp [q9]

set_option maxHeartbeats 4000000 in
set_option maxRecDepth 100000 in
theorem m_Mo_here (l : Launch) (D : va_G) (ct : Nat → ClassId) (b : Nat) (RO : State → Prop) (r : Nat) (n x : Nat) (g : fh_H) (A : Nat → Nat → Int32) (th wr no nu op pi wi he de : Int32) (L a k : Nat) (hL : L ≤ 160) (ha : a + k < 2 ^ 31) : fh_C l D fh_cl (fh_tys ct) b RO y_Mo_here (Cond.code y_Mo_here c_Mo_here 2 (Option.some FieldType.int) :: fh_T) (fh_rm r 0 0) [.ref x, .int (nI k)] (mkM ct x g A th (nI L) (nI a) wr no nu op pi wi he de) n (fun v h' n' => v = some (.int (if a + k < L then A 0 (a + k) else 0)) ∧ h' = mkM ct x g A th (nI L) (nI a) wr no nu op pi wi he de ∧ n' = n) 0 0 := by
  refine fh_enter (by decide) (Nat.le_of_ble_eq_true rfl) [(0, .ref x), (1, .int (nI k))] rfl ?_
  intro p e s m args below meth c H ls X hP hS hl
  have hx := X.1
  have hb := X.2.1
  have hml := X.2.2.1
  have hown : s.vm.findClass "FormulaSetterModel" = some m.cls := X.2.2.2.1
  have hT := X.2.2.2.2.1
  have hK := X.2.2.2.2.2.1
  have hRO := X.2.2.2.2.2.2.1
  have hnm : meth.name = "here" := X.2.2.2.2.2.2.2.2.2.2
  refine lv_aload_n hx hb (fh_d d_Mo_here 0 rfl) rfl (lv_at hl 0 rfl) ?_
  refine fh_get (own := "FormulaSetterModel") (ref := "FormulaSetterModel") (C := "FormulaSetterModel") (T := T_Mo) (N := 53) (v := .int (nI a)) hx hb hT i_Mo hown hK hP mkM_o rfl 3 (by decide) (hT _ w863) (fun _ h9 => h9) rfl (fh_d d_Mo_here 1 rfl) ?_
  refine lv_iload_n hx hb (fh_d d_Mo_here 2 rfl) rfl (lv_at hl 1 rfl) ?_
  refine lv_iadd hx hb (fh_d d_Mo_here 3 rfl) ?_
  refine lv_aload_n hx hb (fh_d d_Mo_here 4 rfl) rfl (lv_at hl 0 rfl) ?_
  refine fh_get (own := "FormulaSetterModel") (ref := "FormulaSetterModel") (C := "FormulaSetterModel") (T := T_Mo) (N := 53) (v := .int (nI L)) hx hb hT i_Mo hown hK hP mkM_o rfl 1 (by decide) (hT _ w861) (fun _ h9 => h9) rfl (fh_d d_Mo_here 5 rfl) ?_
  refine lv_icmp_ge (tgt := 27) hx hb (fh_d d_Mo_here 6 rfl) rfl (fun c1 => ?_) (fun c1 => ?_)
  · refine lv_iconst (v := 0) hx hb (fh_d d_Mo_here 15 rfl) (by decide) ?_
    exact fh_iret X hP hS (fh_d d_Mo_here 16 rfl) ⟨by rw [if_neg (by have q9 := (nI_leI (a := L) (b := a + k) (by omega) (by omega)).mp (nI_add a k ▸ c1); omega)], rfl, rfl⟩
  · have q8 : a + k < L := Nat.not_le.mp fun q => c1 (nI_add a k ▸ (nI_leI (a := L) (b := a + k) (by omega) (by omega)).mpr q)
    refine lv_aload_n hx hb (fh_d d_Mo_here 7 rfl) rfl (lv_at hl 0 rfl) ?_
    refine fh_get (own := "FormulaSetterModel") (ref := "FormulaSetterModel") (C := "FormulaSetterModel") (T := T_Mo) (N := 53) (v := .ref (x + 1)) hx hb hT i_Mo hown hK hP mkM_o rfl 2 (by decide) (hT _ w862) (fun _ h9 => h9) rfl (fh_d d_Mo_here 8 rfl) ?_
    refine lv_aload_n hx hb (fh_d d_Mo_here 9 rfl) rfl (lv_at hl 0 rfl) ?_
    refine fh_get (own := "FormulaSetterModel") (ref := "FormulaSetterModel") (C := "FormulaSetterModel") (T := T_Mo) (N := 53) (v := .int (nI a)) hx hb hT i_Mo hown hK hP mkM_o rfl 3 (by decide) (hT _ w863) (fun _ h9 => h9) rfl (fh_d d_Mo_here 10 rfl) ?_
    refine lv_iload_n hx hb (fh_d d_Mo_here 11 rfl) rfl (lv_at hl 1 rfl) ?_
    refine lv_iadd hx hb (fh_d d_Mo_here 12 rfl) ?_
    refine fn_iald (f := A 0) (k := a + k) hx hb hK hP 0 mkM_a0 rfl (nI_add a k) (by omega) (by decide) (fh_d d_Mo_here 13 rfl) ?_
    refine lv_goto (tgt := 28) hx hb (fh_d d_Mo_here 14 rfl) rfl ?_
    exact fh_iret X hP hS (fh_d d_Mo_here 16 rfl) ⟨by rw [if_pos q8], rfl, rfl⟩
