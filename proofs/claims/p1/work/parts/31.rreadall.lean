/-! The reference: read and isFormula. Printed by wip/whole/gen/p31.py -/
/-- one turn of reading from a place that is no blank -/
def rz_step (L : Nat) (A : Nat → Nat → Int32) (a : Nat) (w : Int32) (N U O : Nat) : RS :=
  if A 16 (O - 1) ≤ 3 then (match rz_in A L a N U O with | some y => y | none => rz_begin A L a w N U O) else rz_begin A L a w N U O
/-- reading, at most k turns -/
def rz_run (L : Nat) : Nat → RS → RS
  | 0, z => z
  | k + 1, (A, a, w, N, U, O) => if ¬ w = 0 then (A, a, w, N, U, O) else if sk (A 0) L a < L then rz_run L k (rz_step L A (sk (A 0) L a) w N U O) else (A, sk (A 0) L a, w, N, U, O)
def okN (v : Int32) (N : Nat) : Prop := v = nI (ixI v) ∧ ixI v < N
/-- what holds while nothing is wrong: frame j is of level j -/
def rz_I (L : Nat) (z : RS) : Prop := z.2.2.1 = 0 → (1 ≤ z.2.2.2.2.2 ∧ z.2.2.2.2.2 ≤ 8 ∧ 1 ≤ z.2.2.2.1 ∧ z.2.2.2.1 ≤ 2 * z.2.1 + 1 ∧ z.2.1 ≤ L ∧ z.1 16 0 = 0 ∧ (∀ j, j < z.2.2.2.2.2 → okN (z.1 17 j) z.2.2.2.1 ∧ okN (z.1 18 j) z.2.2.2.1 ∧ okN (z.1 19 j) z.2.2.2.1)
  ∧ (∀ j, 1 ≤ j → j < z.2.2.2.2.2 → ¬ z.1 16 j = 0 ∧ z.1 5 (ixI (z.1 17 j)) = nI (j - 1)) ∧ (∀ j, j < z.2.2.2.2.2 → z.1 16 j ≤ 3 → ¬ z.1 19 j = 0 → z.1 5 (ixI (z.1 19 j)) = nI j ∧ j ≤ 6))
/-- a turn keeps it, and reads on -/
def rz_J (L : Nat) : Prop := ∀ (A : Nat → Nat → Int32) (a N U O : Nat), a < L → rz_I L (A, a, 0, N, U, O) → rz_I L (rz_step L A a 0 N U O) ∧ ((rz_step L A a 0 N U O).2.2.1 = 0 → a < (rz_step L A a 0 N U O).2.1)
abbrev rz_z0 (A : Nat → Nat → Int32) : RS := (rf_push (rf_make A 0 0) 0 0 0 (nI 0), 0, 0, 1, 0, 1)
abbrev rz_read (A : Nat → Nat → Int32) (L : Nat) : RS := rz_run L (L + 2) (rz_z0 A)
abbrev rz_ok (z : RS) : Prop := z.2.2.1 = 0 ∧ z.2.2.2.2.2 = 1
theorem rz_I_sk {L : Nat} {A : Nat → Nat → Int32} {a N U O : Nat} {w : Int32} (h : rz_I L (A, a, w, N, U, O)) : rz_I L (A, sk (A 0) L a, w, N, U, O) := by
  intro hw
  obtain ⟨h1, h2, h3, h4, h5, h6⟩ := h hw
  have := sk_ge (A 0) L _ a rfl
  exact ⟨h1, h2, h3, Nat.le_trans h4 (by dsimp only; omega), this.2 h5, h6⟩
theorem rz_okf {L : Nat} {A : Nat → Nat → Int32} {a N U O : Nat} (hL : L ≤ 160) (h : rz_I L (A, a, 0, N, U, O)) : okf A O := by
  obtain ⟨h1, h2, h3, h4, h5, h6, h7, -⟩ := h rfl
  have h9 : N < 400 := by dsimp only at h4 h5; omega
  refine ⟨fun j hj => ?_, by rw [show A 16 0 = 0 from h6]; decide⟩
  obtain ⟨q1, q2, q3⟩ := h7 j hj
  exact ⟨⟨q1.1, Nat.lt_trans q1.2 h9⟩, ⟨q2.1, Nat.lt_trans q2.2 h9⟩, ⟨q3.1, Nat.lt_trans q3.2 h9⟩⟩
set_option maxHeartbeats 4000000 in
set_option maxRecDepth 100000 in
theorem m_Mo_read (l : Launch) (D : va_G) (ct : Nat → ClassId) (b : Nat) (RO : State → Prop) (hR : fh_R b RO) (r : Nat) (hr : 5 ≤ r) (n x : Nat) (g : fh_H) (A : Nat → Nat → Int32) (th at_ wr no nu op pi wi he de : Int32) (L : Nat) (hL : L ≤ 160) (hJ : rz_J L) (h0 : rz_I L (rz_z0 A)) : fh_C l D fh_cl (fh_tys ct) b RO y_Mo_read (Cond.code y_Mo_read c_Mo_read 3 (Option.some FieldType.boolean) :: fh_T) (fh_rm r 0 0) [.ref x] (mkM ct x g A th (nI L) at_ wr no nu op pi wi he de) n (fun v h' n' => v = some (.int (if rz_ok (rz_read A L) then 1 else 0)) ∧ h' = mkS ct x g th L (rz_read A L) pi wi he de ∧ n' = n) 0 0 := by
  refine fh_enter (by decide) (Nat.le_of_ble_eq_true rfl) [(0, .ref x)] rfl ?_
  intro p e s m args below meth c H ls X hP hS hl
  have hx := X.1
  have hb := X.2.1
  have hml := X.2.2.1
  have hown : s.vm.findClass "FormulaSetterModel" = some m.cls := X.2.2.2.1
  have hT := X.2.2.2.2.1
  have hK := X.2.2.2.2.2.1
  have hRO := X.2.2.2.2.2.2.1
  have hnm : meth.name = "read" := X.2.2.2.2.2.2.2.2.2.2
  have E : ∀ (B : Nat → Nat → Int32) (a : Nat) (w : Int32) (N U O : Nat) (hO : w = 0 → O ≤ 50) (hz : (B, a, w, N, U, O) = rz_read A L) (lm : List (Nat × Value)) (H : Heap) (locs : List Loc) (ls : Array Slot), fh_P D fh_cl b (mkM ct x g B th (nI L) (nI a) w (nI N) (nI U) (nI O) pi wi he de) n H → va_S (fh_A b) s.heap H locs → lv_has ls 3 [(0, .ref x)] → W p l e (fh_rm r 0 0) s m args below meth c H locs 0 0 (MQ below (fh_Post D fh_cl b (fun v h' n' => v = some (.int (if rz_ok (rz_read A L) then 1 else 0)) ∧ h' = mkS ct x g th L (rz_read A L) pi wi he de ∧ n' = n)) args s 0 0 (fh_A b)) (F0 m 105 ls []) := by
    intro B a w N U O hO hz lm H locs ls hP hS hl
    refine lv_aload_n hx hb (fh_d d_Mo_read 59 rfl) rfl (lv_at hl 0 rfl) ?_
    refine fh_get (own := "FormulaSetterModel") (ref := "FormulaSetterModel") (C := "FormulaSetterModel") (T := T_Mo) (N := 53) (v := .int w) hx hb hT i_Mo hown hK hP mkM_o rfl 4 (by decide) (hT _ w864) (fun _ h9 => h9) rfl (fh_d d_Mo_read 60 rfl) ?_
    refine lv_if_ne (tgt := 124) hx hb (fh_d d_Mo_read 61 rfl) rfl (fun c1 => ?_) (fun c1 => ?_)
    · refine lv_iconst (v := 0) hx hb (fh_d d_Mo_read 68 rfl) (by decide) ?_
      have q9 : (if rz_ok (rz_read A L) then (1 : Int32) else 0) = 0 := by rw [← hz]; exact if_neg (fun z => c1 z.1)
      exact fh_zret X hP hS (fh_d d_Mo_read 69 rfl) (by decide) ⟨by rw [q9], by rw [← hz], rfl⟩
    · refine lv_aload_n hx hb (fh_d d_Mo_read 62 rfl) rfl (lv_at hl 0 rfl) ?_
      refine fh_get (own := "FormulaSetterModel") (ref := "FormulaSetterModel") (C := "FormulaSetterModel") (T := T_Mo) (N := 53) (v := .int (nI O)) hx hb hT i_Mo hown hK hP mkM_o rfl 22 (by decide) (hT _ w882) (fun _ h9 => h9) rfl (fh_d d_Mo_read 63 rfl) ?_
      refine lv_iconst (v := 1) hx hb (fh_d d_Mo_read 64 rfl) (by decide) ?_
      refine lv_icmp_ne (tgt := 124) hx hb (fh_d d_Mo_read 65 rfl) rfl (fun c2 => ?_) (fun c2 => ?_)
      · refine lv_iconst (v := 0) hx hb (fh_d d_Mo_read 68 rfl) (by decide) ?_
        have q9 : (if rz_ok (rz_read A L) then (1 : Int32) else 0) = 0 := by rw [← hz]; exact if_neg (fun z => c2 (by rw [show O = 1 from z.2]; rfl))
        exact fh_zret X hP hS (fh_d d_Mo_read 69 rfl) (by decide) ⟨by rw [q9], by rw [← hz], rfl⟩
      · refine lv_iconst (v := 1) hx hb (fh_d d_Mo_read 66 rfl) (by decide) ?_
        refine lv_goto (tgt := 125) hx hb (fh_d d_Mo_read 67 rfl) rfl ?_
        have q9 : (if rz_ok (rz_read A L) then (1 : Int32) else 0) = 1 := by rw [← hz]; exact if_pos ⟨c1, (nI_eq (a := O) (b := 1) (by have := hO c1; omega) (by decide)).mp c2⟩
        exact fh_zret X hP hS (fh_d d_Mo_read 69 rfl) (by decide) ⟨by rw [q9], by rw [← hz], rfl⟩
  have loop : ∀ (k : Nat) (B : Nat → Nat → Int32) (a : Nat) (w : Int32) (N U O : Nat), rz_I L (B, a, w, N, U, O) → (w = 0 → L < a + k) → rz_run L (k + 1) (B, a, w, N, U, O) = rz_read A L → ∀ (H : Heap) (locs : List Loc) (ls : Array Slot), fh_P D fh_cl b (mkM ct x g B th (nI L) (nI a) w (nI N) (nI U) (nI O) pi wi he de) n H → va_S (fh_A b) s.heap H locs → lv_has ls 3 [(2, .int 1), (0, .ref x)] → W p l e (fh_rm r 0 0) s m args below meth c H locs 0 0 (MQ below (fh_Post D fh_cl b (fun v h' n' => v = some (.int (if rz_ok (rz_read A L) then 1 else 0)) ∧ h' = mkS ct x g th L (rz_read A L) pi wi he de ∧ n' = n)) args s 0 0 (fh_A b)) (F0 m 40 ls []) := by
    intro k
    induction k with
    | zero =>
      intro B a w N U O hI hk hz H locs ls hP hS hl
      refine lv_iload_n hx hb (fh_d d_Mo_read 26 rfl) rfl (lv_at hl 0 rfl) ?_
      refine lv_if_eq (tgt := 105) hx hb (fh_d d_Mo_read 27 rfl) rfl (fun c3 => absurd c3 (by decide)) (fun c3 => ?_)
      refine lv_aload_n hx hb (fh_d d_Mo_read 28 rfl) rfl (lv_at hl 1 rfl) ?_
      refine fh_get (own := "FormulaSetterModel") (ref := "FormulaSetterModel") (C := "FormulaSetterModel") (T := T_Mo) (N := 53) (v := .int w) hx hb hT i_Mo hown hK hP mkM_o rfl 4 (by decide) (hT _ w864) (fun _ h9 => h9) rfl (fh_d d_Mo_read 29 rfl) ?_
      refine lv_if_ne (tgt := 105) hx hb (fh_d d_Mo_read 30 rfl) rfl (fun c4 => ?_) (fun c4 => ?_)
      · have q9 : rz_run L (0 + 1) (B, a, w, N, U, O) = (B, a, w, N, U, O) := if_pos c4
        exact E B a w N U O (fun q => absurd q c4) (q9.symm.trans hz) [] H _ _ hP hS (lv_sub hl [1] rfl)
      · obtain rfl : w = 0 := c4
        exact absurd (hk rfl) (by have := (hI rfl).2.2.2.2.1; dsimp only at this; omega)
    | succ k ih =>
      intro B a w N U O hI hk hz H locs ls hP hS hl
      refine lv_iload_n hx hb (fh_d d_Mo_read 26 rfl) rfl (lv_at hl 0 rfl) ?_
      refine lv_if_eq (tgt := 105) hx hb (fh_d d_Mo_read 27 rfl) rfl (fun c5 => absurd c5 (by decide)) (fun c5 => ?_)
      refine lv_aload_n hx hb (fh_d d_Mo_read 28 rfl) rfl (lv_at hl 1 rfl) ?_
      refine fh_get (own := "FormulaSetterModel") (ref := "FormulaSetterModel") (C := "FormulaSetterModel") (T := T_Mo) (N := 53) (v := .int w) hx hb hT i_Mo hown hK hP mkM_o rfl 4 (by decide) (hT _ w864) (fun _ h9 => h9) rfl (fh_d d_Mo_read 29 rfl) ?_
      refine lv_if_ne (tgt := 105) hx hb (fh_d d_Mo_read 30 rfl) rfl (fun c6 => ?_) (fun c6 => ?_)
      · have q9 : rz_run L ((k + 1) + 1) (B, a, w, N, U, O) = (B, a, w, N, U, O) := if_pos c6
        exact E B a w N U O (fun q => absurd q c6) (q9.symm.trans hz) [] H _ _ hP hS (lv_sub hl [1] rfl)
      · obtain rfl : w = 0 := c6
        have hI1 := rz_I_sk hI
        obtain ⟨i1, i2, i3, i4, i5, i6, -⟩ := hI1 rfl
        obtain ⟨j1, j2, j3, j4, j5, -⟩ := hI rfl
        dsimp only at i1 i2 i3 i4 i5 i6 j1 j2 j3 j4 j5
        have hsk := sk_ge (B 0) L _ a rfl
        refine lv_aload_n hx hb (fh_d d_Mo_read 31 rfl) rfl (lv_at hl 1 rfl) ?_
        refine fh_callV (cc' := c_Mo_blanks) (nL' := 1) (rest := []) (a := x) (As := []) X hR (m_Mo_blanks l D ct b RO hR (r - 1) (by omega) n x g B th 0 (nI N) (nI U) (nI O) pi wi he de L a hL (by omega)) w1056 w1053 w1055 v35 w9 ⟨by decide, by decide, by show _ = some 0; decide +kernel⟩ (by omega) (by decide) (fh_recv hK hP mkM_o rfl) hP hS hl.1 rfl (by exact Nat.le_of_ble_eq_true rfl) (fh_d d_Mo_read 32 rfl) ⟨Nat.le_refl _, Nat.le_refl _⟩ (fun v9 h9 n9 H locs hq hP hS => ?_)
        obtain ⟨rfl, u7, u8⟩ := hq
        rw [u7, u8] at hP
        refine lv_aload_n hx hb (fh_d d_Mo_read 33 rfl) rfl (lv_at hl 1 rfl) ?_
        refine fh_get (own := "FormulaSetterModel") (ref := "FormulaSetterModel") (C := "FormulaSetterModel") (T := T_Mo) (N := 53) (v := .int (nI (sk (B 0) L a))) hx hb hT i_Mo hown hK hP mkM_o rfl 3 (by decide) (hT _ w863) (fun _ h9 => h9) rfl (fh_d d_Mo_read 34 rfl) ?_
        refine lv_aload_n hx hb (fh_d d_Mo_read 35 rfl) rfl (lv_at hl 1 rfl) ?_
        refine fh_get (own := "FormulaSetterModel") (ref := "FormulaSetterModel") (C := "FormulaSetterModel") (T := T_Mo) (N := 53) (v := .int (nI L)) hx hb hT i_Mo hown hK hP mkM_o rfl 1 (by decide) (hT _ w861) (fun _ h9 => h9) rfl (fh_d d_Mo_read 36 rfl) ?_
        refine lv_icmp_ge (tgt := 70) hx hb (fh_d d_Mo_read 37 rfl) rfl (fun c9 => ?_) (fun c9 => ?_)
        · refine lv_iconst (v := 0) hx hb (fh_d d_Mo_read 40 rfl) (by decide) ?_
          have qa : ¬ sk (B 0) L a < L := by have := (nI_leI (by omega) (by omega)).mp c9; omega
          have q9 : rz_run L (k + 1 + 1) (B, a, 0, N, U, O) = (B, sk (B 0) L a, 0, N, U, O) := (if_neg (by decide)).trans (if_neg qa)
          refine lv_istore_n (lv' := [(2, .int 0), (0, .ref x)]) hx hb (fh_d d_Mo_read 41 rfl) rfl hl (by decide) rfl (fun ls hl => ?_)
          refine lv_iload_n hx hb (fh_d d_Mo_read 42 rfl) rfl (lv_at hl 0 rfl) ?_
          refine lv_if_eq (tgt := 40) hx hb (fh_d d_Mo_read 43 rfl) rfl (fun c10 => ?_) (fun c10 => absurd c10 (Classical.not_not.mpr rfl))
          refine lv_iload_n hx hb (fh_d d_Mo_read 26 rfl) rfl (lv_at hl 0 rfl) ?_
          refine lv_if_eq (tgt := 105) hx hb (fh_d d_Mo_read 27 rfl) rfl (fun c11 => ?_) (fun c11 => absurd c11 (Classical.not_not.mpr rfl))
          exact E B (sk (B 0) L a) 0 N U O (fun _ => by omega) (q9.symm.trans hz) [] H _ _ hP hS (lv_sub hl [1] rfl)
        · refine lv_iconst (v := 1) hx hb (fh_d d_Mo_read 38 rfl) (by decide) ?_
          refine lv_goto (tgt := 71) hx hb (fh_d d_Mo_read 39 rfl) rfl ?_
          have qa : sk (B 0) L a < L := Nat.not_le.mp fun q => c9 ((nI_leI (by omega) (by omega)).mpr q)
          have q9 : rz_run L (k + 1 + 1) (B, a, 0, N, U, O) = rz_run L (k + 1) (rz_step L B (sk (B 0) L a) 0 N U O) := (if_neg (by decide)).trans (if_pos qa)
          have hst := hJ B (sk (B 0) L a) N U O qa hI1
          have hof := rz_okf hL hI1
          refine lv_istore_n (lv' := [(2, .int 1), (0, .ref x)]) hx hb (fh_d d_Mo_read 41 rfl) rfl hl (by decide) rfl (fun ls hl => ?_)
          refine lv_iload_n hx hb (fh_d d_Mo_read 42 rfl) rfl (lv_at hl 0 rfl) ?_
          refine lv_if_eq (tgt := 40) hx hb (fh_d d_Mo_read 43 rfl) rfl (fun c12 => absurd c12 (by decide)) (fun c12 => ?_)
          refine lv_aload_n hx hb (fh_d d_Mo_read 44 rfl) rfl (lv_at hl 1 rfl) ?_
          refine fh_get (own := "FormulaSetterModel") (ref := "FormulaSetterModel") (C := "FormulaSetterModel") (T := T_Mo) (N := 53) (v := .ref (x + 17)) hx hb hT i_Mo hown hK hP mkM_o rfl 23 (by decide) (hT _ w883) (fun _ h9 => h9) rfl (fh_d d_Mo_read 45 rfl) ?_
          refine lv_aload_n hx hb (fh_d d_Mo_read 46 rfl) rfl (lv_at hl 1 rfl) ?_
          refine fh_get (own := "FormulaSetterModel") (ref := "FormulaSetterModel") (C := "FormulaSetterModel") (T := T_Mo) (N := 53) (v := .int (nI O)) hx hb hT i_Mo hown hK hP mkM_o rfl 22 (by decide) (hT _ w882) (fun _ h9 => h9) rfl (fh_d d_Mo_read 47 rfl) ?_
          refine lv_iconst (v := 1) hx hb (fh_d d_Mo_read 48 rfl) (by decide) ?_
          refine lv_isub hx hb (fh_d d_Mo_read 49 rfl) ?_
          refine fn_iald (f := B 16) (k := O - 1) hx hb hK hP 0 mkM_a16 rfl (nI_m1 i1) (by omega) (by decide) (fh_d d_Mo_read 50 rfl) ?_
          refine lv_iconst (v := 3) hx hb (fh_d d_Mo_read 51 rfl) (by decide) ?_
          refine lv_icmp_gt (tgt := 98) hx hb (fh_d d_Mo_read 52 rfl) rfl (fun c13 => ?_) (fun c13 => ?_)
          · have q8 : rz_step L B (sk (B 0) L a) 0 N U O = rz_begin B L (sk (B 0) L a) 0 N U O := if_neg (Int32.not_le.mpr c13)
            refine lv_aload_n hx hb (fh_d d_Mo_read 56 rfl) rfl (lv_at hl 1 rfl) ?_
            refine fh_callV (cc' := c_Mo_begin) (nL' := 3) (rest := []) (a := x) (As := []) X hR (m_Mo_begin l D ct b RO hR (r - 1) (by omega) n x g B th 0 pi wi he de L (sk (B 0) L a) N U O hL (by omega) (by omega) i1 (by omega) hof) w1088 w1085 w1087 v42 w9 ⟨by decide, by decide, by show _ = some 0; decide +kernel⟩ (by omega) (by decide) (fh_recv hK hP mkM_o rfl) hP hS hl.1 rfl (by exact Nat.le_of_ble_eq_true rfl) (fh_d d_Mo_read 57 rfl) ⟨Nat.le_refl _, Nat.le_refl _⟩ (fun v9 h9 n9 H locs hq hP hS => ?_)
            obtain ⟨rfl, ua, ub⟩ := hq
            rw [ua, ub] at hP
            refine lv_goto (tgt := 40) hx hb (fh_d d_Mo_read 58 rfl) rfl ?_
            rw [← q8] at hP
            rw [q9] at hz
            generalize rz_step L B (sk (B 0) L a) 0 N U O = z9 at hP hst hz
            obtain ⟨B9, a9, w9, N9, U9, O9⟩ := z9
            exact ih B9 a9 w9 N9 U9 O9 hst.1 (fun q => by have := hst.2 q; have := hk rfl; dsimp only at *; omega) hz H _ _ hP hS hl
          · have q7 := Int32.not_lt.mp c13
            refine lv_aload_n hx hb (fh_d d_Mo_read 53 rfl) rfl (lv_at hl 1 rfl) ?_
            refine fh_callV (cc' := c_Mo_inList) (nL' := 5) (rest := []) (a := x) (As := []) X hR (m_Mo_inList l D ct b RO hR (r - 1) (by omega) n x g B th 0 pi wi he de L (sk (B 0) L a) N U O hL (by omega) (by omega) i1 (by omega) hof i6) w1064 w1061 w1063 v37 w9 ⟨by decide, by decide, by show _ = some 0; decide +kernel⟩ (by omega) (by decide) (fh_recv hK hP mkM_o rfl) hP hS hl.1 rfl (by exact Nat.le_of_ble_eq_true rfl) (fh_d d_Mo_read 54 rfl) ⟨Nat.le_refl _, Nat.le_refl _⟩ (fun v9 h9 n9 H locs hq hP hS => ?_)
            rcases hq with ⟨hq3, ⟨z, hq4, hq5, hq6⟩ | ⟨hq4, hq5, hq6⟩⟩
            · subst hq5; rw [hq6, hq3] at hP
              have q8 : rz_step L B (sk (B 0) L a) 0 N U O = z := (if_pos q7).trans (by rw [hq4])
              show W p l e (fh_rm r 0 0) s m args below meth c H locs 0 0 _ (F0 m 95 ls [.int 1])
              refine lv_if_ne (tgt := 40) hx hb (fh_d d_Mo_read 55 rfl) rfl (fun c14 => ?_) (fun c14 => absurd c14 (by decide))
              rw [← q8] at hP
              rw [q9] at hz
              generalize rz_step L B (sk (B 0) L a) 0 N U O = z9 at hP hst hz
              obtain ⟨B9, a9, w9, N9, U9, O9⟩ := z9
              exact ih B9 a9 w9 N9 U9 O9 hst.1 (fun q => by have := hst.2 q; have := hk rfl; dsimp only at *; omega) hz H _ _ hP hS hl
            · subst hq5; rw [hq6, hq3] at hP
              have q8 : rz_step L B (sk (B 0) L a) 0 N U O = rz_begin B L (sk (B 0) L a) 0 N U O := (if_pos q7).trans (by rw [hq4])
              show W p l e (fh_rm r 0 0) s m args below meth c H locs 0 0 _ (F0 m 95 ls [.int 0])
              refine lv_if_ne (tgt := 40) hx hb (fh_d d_Mo_read 55 rfl) rfl (fun c15 => absurd c15 (by decide)) (fun c15 => ?_)
              refine lv_aload_n hx hb (fh_d d_Mo_read 56 rfl) rfl (lv_at hl 1 rfl) ?_
              refine fh_callV (cc' := c_Mo_begin) (nL' := 3) (rest := []) (a := x) (As := []) X hR (m_Mo_begin l D ct b RO hR (r - 1) (by omega) n x g B th 0 pi wi he de L (sk (B 0) L a) N U O hL (by omega) (by omega) i1 (by omega) hof) w1088 w1085 w1087 v42 w9 ⟨by decide, by decide, by show _ = some 0; decide +kernel⟩ (by omega) (by decide) (fh_recv hK hP mkM_o rfl) hP hS hl.1 rfl (by exact Nat.le_of_ble_eq_true rfl) (fh_d d_Mo_read 57 rfl) ⟨Nat.le_refl _, Nat.le_refl _⟩ (fun v9 h9 n9 H locs hq hP hS => ?_)
              obtain ⟨rfl, ua, ub⟩ := hq
              rw [ua, ub] at hP
              refine lv_goto (tgt := 40) hx hb (fh_d d_Mo_read 58 rfl) rfl ?_
              rw [← q8] at hP
              rw [q9] at hz
              generalize rz_step L B (sk (B 0) L a) 0 N U O = z9 at hP hst hz
              obtain ⟨B9, a9, w9, N9, U9, O9⟩ := z9
              exact ih B9 a9 w9 N9 U9 O9 hst.1 (fun q => by have := hst.2 q; have := hk rfl; dsimp only at *; omega) hz H _ _ hP hS hl
  refine lv_aload_n hx hb (fh_d d_Mo_read 0 rfl) rfl (lv_at hl 0 rfl) ?_
  refine lv_iconst (v := 0) hx hb (fh_d d_Mo_read 1 rfl) (by decide) ?_
  refine fh_put (own := "FormulaSetterModel") (ref := "FormulaSetterModel") (C := "FormulaSetterModel") (T := T_Mo) (N := 53) (v := .int 0) (ty := .int) hx hb hT i_Mo t_Mo k_Mo n_Mo hown hK hP hS mkM_o rfl 3 (by decide) (hT _ w863) (fun _ h9 => h9) rfl (by decide +kernel) rfl rfl (Nat.le_of_ble_eq_true rfl) (fh_d d_Mo_read 2 rfl) (fun H locs hP hS => ?_)
  replace hP := fh_P.eq (h' := mkM ct x g A th (nI L) 0 wr no nu op pi wi he de) hP mkM_ux
  refine lv_aload_n hx hb (fh_d d_Mo_read 3 rfl) rfl (lv_at hl 0 rfl) ?_
  refine lv_iconst (v := 0) hx hb (fh_d d_Mo_read 4 rfl) (by decide) ?_
  refine fh_put (own := "FormulaSetterModel") (ref := "FormulaSetterModel") (C := "FormulaSetterModel") (T := T_Mo) (N := 53) (v := .int 0) (ty := .boolean) hx hb hT i_Mo t_Mo k_Mo n_Mo hown hK hP hS mkM_o rfl 4 (by decide) (hT _ w864) (fun _ h9 => h9) rfl (by decide +kernel) rfl rfl (Nat.le_of_ble_eq_true rfl) (fh_d d_Mo_read 5 rfl) (fun H locs hP hS => ?_)
  replace hP := fh_P.eq (h' := mkM ct x g A th (nI L) 0 0 no nu op pi wi he de) hP mkM_ux
  refine lv_aload_n hx hb (fh_d d_Mo_read 6 rfl) rfl (lv_at hl 0 rfl) ?_
  refine lv_iconst (v := 0) hx hb (fh_d d_Mo_read 7 rfl) (by decide) ?_
  refine fh_put (own := "FormulaSetterModel") (ref := "FormulaSetterModel") (C := "FormulaSetterModel") (T := T_Mo) (N := 53) (v := .int 0) (ty := .int) hx hb hT i_Mo t_Mo k_Mo n_Mo hown hK hP hS mkM_o rfl 5 (by decide) (hT _ w865) (fun _ h9 => h9) rfl (by decide +kernel) rfl rfl (Nat.le_of_ble_eq_true rfl) (fh_d d_Mo_read 8 rfl) (fun H locs hP hS => ?_)
  replace hP := fh_P.eq (h' := mkM ct x g A th (nI L) 0 0 0 nu op pi wi he de) hP mkM_ux
  refine lv_aload_n hx hb (fh_d d_Mo_read 9 rfl) rfl (lv_at hl 0 rfl) ?_
  refine lv_iconst (v := 0) hx hb (fh_d d_Mo_read 10 rfl) (by decide) ?_
  refine fh_put (own := "FormulaSetterModel") (ref := "FormulaSetterModel") (C := "FormulaSetterModel") (T := T_Mo) (N := 53) (v := .int 0) (ty := .int) hx hb hT i_Mo t_Mo k_Mo n_Mo hown hK hP hS mkM_o rfl 6 (by decide) (hT _ w866) (fun _ h9 => h9) rfl (by decide +kernel) rfl rfl (Nat.le_of_ble_eq_true rfl) (fh_d d_Mo_read 11 rfl) (fun H locs hP hS => ?_)
  replace hP := fh_P.eq (h' := mkM ct x g A th (nI L) 0 0 0 0 op pi wi he de) hP mkM_ux
  refine lv_aload_n hx hb (fh_d d_Mo_read 12 rfl) rfl (lv_at hl 0 rfl) ?_
  refine lv_iconst (v := 0) hx hb (fh_d d_Mo_read 13 rfl) (by decide) ?_
  refine fh_put (own := "FormulaSetterModel") (ref := "FormulaSetterModel") (C := "FormulaSetterModel") (T := T_Mo) (N := 53) (v := .int 0) (ty := .int) hx hb hT i_Mo t_Mo k_Mo n_Mo hown hK hP hS mkM_o rfl 22 (by decide) (hT _ w882) (fun _ h9 => h9) rfl (by decide +kernel) rfl rfl (Nat.le_of_ble_eq_true rfl) (fh_d d_Mo_read 14 rfl) (fun H locs hP hS => ?_)
  replace hP := fh_P.eq (h' := mkM ct x g A th (nI L) 0 0 0 0 0 pi wi he de) hP mkM_ux
  refine lv_aload_n hx hb (fh_d d_Mo_read 15 rfl) rfl (lv_at hl 0 rfl) ?_
  refine lv_iconst (v := 0) hx hb (fh_d d_Mo_read 16 rfl) (by decide) ?_
  refine fh_callV (cc' := c_Mo_make) (nL' := 3) (rest := []) (a := x) (As := [.int 0]) X hR (m_Mo_make l D ct b RO (r - 1) n x g A th (nI L) 0 0 0 0 pi wi he de 0 (0) (by decide)) w1048 w1045 w1047 v33 w9 ⟨by decide, by decide, by show _ = some 1; decide +kernel⟩ (by omega) (by decide) (fh_recv hK hP mkM_o rfl) hP hS hl.1 rfl (by exact Nat.le_of_ble_eq_true rfl) (fh_d d_Mo_read 17 rfl) ⟨Nat.le_refl _, Nat.le_refl _⟩ (fun v9 h9 n9 H locs hq hP hS => ?_)
  obtain ⟨rfl, u16, u17⟩ := hq
  rw [u16, u17] at hP
  refine lv_istore_n (lv' := [(1, .int (nI 0)), (0, .ref x)]) hx hb (fh_d d_Mo_read 18 rfl) rfl hl (by decide) rfl (fun ls hl => ?_)
  refine lv_aload_n hx hb (fh_d d_Mo_read 19 rfl) rfl (lv_at hl 1 rfl) ?_
  refine lv_iconst (v := 0) hx hb (fh_d d_Mo_read 20 rfl) (by decide) ?_
  refine lv_iconst (v := 0) hx hb (fh_d d_Mo_read 21 rfl) (by decide) ?_
  refine lv_iload_n hx hb (fh_d d_Mo_read 22 rfl) rfl (lv_at hl 0 rfl) ?_
  refine fh_callV (cc' := c_Mo_push) (nL' := 4) (rest := []) (a := x) (As := [.int 0, .int 0, .int (nI 0)]) X hR (m_Mo_push l D ct b RO (r - 1) n x g (rf_make A 0 0) th (nI L) 0 0 (nI 1) 0 pi wi he de 0 0 (nI 0) (0) (by decide)) w1052 w1049 w1051 v34 w9 ⟨by decide, by decide, by show _ = some 3; decide +kernel⟩ (by omega) (by decide) (fh_recv hK hP mkM_o rfl) hP hS hl.1 rfl (by exact Nat.le_of_ble_eq_true rfl) (fh_d d_Mo_read 23 rfl) ⟨Nat.le_refl _, Nat.le_refl _⟩ (fun v9 h9 n9 H locs hq hP hS => ?_)
  obtain ⟨rfl, u18, u19⟩ := hq
  rw [u18, u19] at hP
  refine lv_iconst (v := 1) hx hb (fh_d d_Mo_read 24 rfl) (by decide) ?_
  refine lv_istore_n (lv' := [(2, .int 1), (1, .int (nI 0)), (0, .ref x)]) hx hb (fh_d d_Mo_read 25 rfl) rfl hl (by decide) rfl (fun ls hl => ?_)
  exact loop (L + 1) _ 0 0 1 0 1 h0 (fun _ => by omega) rfl H _ _ hP hS (lv_sub hl [0, 2] rfl)
