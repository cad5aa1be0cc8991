/-! The reference: reading, small methods. Printed by wip/whole/gen/p22.py -/
/-- the next place from a on that is no blank -/
def sk (f : Nat → Int32) (L : Nat) (a : Nat) : Nat := if a < L ∧ f a = 32 then sk f L (a + 1) else a
termination_by L - a
theorem sk_y {f : Nat → Int32} {L a : Nat} (h : a < L) (h2 : f a = 32) : sk f L a = sk f L (a + 1) := by rw [sk, if_pos ⟨h, h2⟩]
theorem sk_n {f : Nat → Int32} {L a : Nat} (h : ¬ (a < L ∧ f a = 32)) : sk f L a = a := by rw [sk, if_neg h]
theorem sk_ge (f : Nat → Int32) (L : Nat) : ∀ k a, L - a = k → a ≤ sk f L a ∧ (a ≤ L → sk f L a ≤ L)
  | 0, a, h => by rw [sk_n (by omega)]; omega
  | k + 1, a, h => by
    by_cases h1 : a < L ∧ f a = 32
    · rw [sk_y h1.1 h1.2]
      have := sk_ge f L k (a + 1) (by omega)
      omega
    · rw [sk_n h1]; omega
theorem nI_m1 {k : Nat} (h : 1 ≤ k) : nI k - 1 = nI (k - 1) := by
  obtain ⟨j, rfl⟩ : ∃ j, k = j + 1 := ⟨k - 1, by omega⟩
  rw [nI_pred]
  rfl
/-- what stands at place k -/
abbrev hre (f : Nat → Int32) (L k : Nat) : Int32 := if k < L then f k else 0
set_option maxHeartbeats 4000000 in
set_option maxRecDepth 100000 in
theorem m_Mo_blanks (l : Launch) (D : va_G) (ct : Nat → ClassId) (b : Nat) (RO : State → Prop) (hR : fh_R b RO) (r : Nat) (hr : 1 ≤ r) (n x : Nat) (g : fh_H) (A : Nat → Nat → Int32) (th wr no nu op pi wi he de : Int32) (L a0 : Nat) (hL : L ≤ 160) (ha0 : a0 ≤ 1000) : fh_C l D fh_cl (fh_tys ct) b RO y_Mo_blanks (Cond.code y_Mo_blanks c_Mo_blanks 1 (Option.none : Option FieldType) :: fh_T) (fh_rm r 0 0) [.ref x] (mkM ct x g A th (nI L) (nI a0) wr no nu op pi wi he de) n (fun v h' n' => v = none ∧ h' = mkM ct x g A th (nI L) (nI (sk (A 0) L a0)) wr no nu op pi wi he de ∧ n' = n) 0 0 := by
  refine fh_enter (by decide) (Nat.le_of_ble_eq_true rfl) [(0, .ref x)] rfl ?_
  intro p e s m args below meth c H ls X hP hS hl
  have hx := X.1
  have hb := X.2.1
  have hml := X.2.2.1
  have hown : s.vm.findClass "FormulaSetterModel" = some m.cls := X.2.2.2.1
  have hT := X.2.2.2.2.1
  have hK := X.2.2.2.2.2.1
  have hRO := X.2.2.2.2.2.2.1
  have hnm : meth.name = "blanks" := X.2.2.2.2.2.2.2.2.2.2
  have loop : ∀ (k a : Nat), L - a = k → a ≤ 1000 → sk (A 0) L a = sk (A 0) L a0 → ∀ (H : Heap) (locs : List Loc) (ls : Array Slot), fh_P D fh_cl b (mkM ct x g A th (nI L) (nI a) wr no nu op pi wi he de) n H → va_S (fh_A b) s.heap H locs → lv_has ls 1 [(0, .ref x)] → W p l e (fh_rm r 0 0) s m args below meth c H locs 0 0 (MQ below (fh_Post D fh_cl b (fun v h' n' => v = none ∧ h' = mkM ct x g A th (nI L) (nI (sk (A 0) L a0)) wr no nu op pi wi he de ∧ n' = n)) args s 0 0 (fh_A b)) (F0 m 0 ls []) := by
    intro k
    induction k with
    | zero =>
      intro a hak ha hsk H locs ls hP hS hl
      refine lv_aload_n hx hb (fh_d d_Mo_blanks 0 rfl) rfl (lv_at hl 0 rfl) ?_
      refine lv_iconst (v := 0) hx hb (fh_d d_Mo_blanks 1 rfl) (by decide) ?_
      refine fh_callV (cc' := c_Mo_here) (nL' := 2) (rest := []) (a := x) (As := [.int 0]) X hR (m_Mo_here l D ct b RO (r - 1) n x g A th wr no nu op pi wi he de L a  (0) hL (by omega)) w1060 w1057 w1059 v36 w9 ⟨by decide, by decide, by show _ = some 1; decide +kernel⟩ (by omega) (by decide) (fh_recv hK hP mkM_o rfl) hP hS hl.1 rfl (by exact Nat.le_of_ble_eq_true rfl) (fh_d d_Mo_blanks 2 rfl) ⟨Nat.le_refl _, Nat.le_refl _⟩ (fun v9 h9 n9 H locs hq hP hS => ?_)
      obtain ⟨rfl, u1, u2⟩ := hq
      rw [u1, u2] at hP
      refine lv_bipush (v := 32) hx hb (fh_d d_Mo_blanks 3 rfl) (by decide) ?_
      refine lv_icmp_ne (tgt := 23) hx hb (fh_d d_Mo_blanks 4 rfl) rfl (fun c3 => ?_) (fun c3 => ?_)
      · have q9 : sk (A 0) L a = a := sk_n (fun q => c3 (by show hre (A 0) L a = 32; rw [hre, if_pos q.1]; exact q.2))
        exact fh_vret X hP hS (fh_d d_Mo_blanks 12 rfl) ⟨rfl, by rw [← hsk, q9], rfl⟩
      · refine lv_aload_n hx hb (fh_d d_Mo_blanks 5 rfl) rfl (lv_at hl 0 rfl) ?_
        refine lv_dup hx hb (fh_d d_Mo_blanks 6 rfl) rfl ?_
        refine fh_get (own := "FormulaSetterModel") (ref := "FormulaSetterModel") (C := "FormulaSetterModel") (T := T_Mo) (N := 53) (v := .int (nI a)) hx hb hT i_Mo hown hK hP mkM_o rfl 3 (by decide) (hT _ w863) (fun _ h9 => h9) rfl (fh_d d_Mo_blanks 7 rfl) ?_
        refine lv_iconst (v := 1) hx hb (fh_d d_Mo_blanks 8 rfl) (by decide) ?_
        refine lv_iadd hx hb (fh_d d_Mo_blanks 9 rfl) ?_
        refine fh_put (own := "FormulaSetterModel") (ref := "FormulaSetterModel") (C := "FormulaSetterModel") (T := T_Mo) (N := 53) (v := .int ((nI a) + 1)) (ty := .int) hx hb hT i_Mo t_Mo k_Mo n_Mo hown hK hP hS mkM_o rfl 3 (by decide) (hT _ w863) (fun _ h9 => h9) rfl (by decide +kernel) rfl rfl (Nat.le_of_ble_eq_true rfl) (fh_d d_Mo_blanks 10 rfl) (fun H locs hP hS => ?_)
        replace hP := fh_P.eq (h' := mkM ct x g A th (nI L) ((nI a) + 1) wr no nu op pi wi he de) hP mkM_ux
        refine lv_goto (tgt := 0) hx hb (fh_d d_Mo_blanks 11 rfl) rfl ?_
        have q8 : a < L ∧ A 0 a = 32 := by
          have q7 : hre (A 0) L a = 32 := c3
          unfold hre at q7
          by_cases q6 : a < L
          · rw [if_pos q6] at q7; exact ⟨q6, q7⟩
          · rw [if_neg q6] at q7; exact absurd q7 (by decide)
        omega
    | succ k ih =>
      intro a hak ha hsk H locs ls hP hS hl
      refine lv_aload_n hx hb (fh_d d_Mo_blanks 0 rfl) rfl (lv_at hl 0 rfl) ?_
      refine lv_iconst (v := 0) hx hb (fh_d d_Mo_blanks 1 rfl) (by decide) ?_
      refine fh_callV (cc' := c_Mo_here) (nL' := 2) (rest := []) (a := x) (As := [.int 0]) X hR (m_Mo_here l D ct b RO (r - 1) n x g A th wr no nu op pi wi he de L a  (0) hL (by omega)) w1060 w1057 w1059 v36 w9 ⟨by decide, by decide, by show _ = some 1; decide +kernel⟩ (by omega) (by decide) (fh_recv hK hP mkM_o rfl) hP hS hl.1 rfl (by exact Nat.le_of_ble_eq_true rfl) (fh_d d_Mo_blanks 2 rfl) ⟨Nat.le_refl _, Nat.le_refl _⟩ (fun v9 h9 n9 H locs hq hP hS => ?_)
      obtain ⟨rfl, u4, u5⟩ := hq
      rw [u4, u5] at hP
      refine lv_bipush (v := 32) hx hb (fh_d d_Mo_blanks 3 rfl) (by decide) ?_
      refine lv_icmp_ne (tgt := 23) hx hb (fh_d d_Mo_blanks 4 rfl) rfl (fun c6 => ?_) (fun c6 => ?_)
      · have q9 : sk (A 0) L a = a := sk_n (fun q => c6 (by show hre (A 0) L a = 32; rw [hre, if_pos q.1]; exact q.2))
        exact fh_vret X hP hS (fh_d d_Mo_blanks 12 rfl) ⟨rfl, by rw [← hsk, q9], rfl⟩
      · refine lv_aload_n hx hb (fh_d d_Mo_blanks 5 rfl) rfl (lv_at hl 0 rfl) ?_
        refine lv_dup hx hb (fh_d d_Mo_blanks 6 rfl) rfl ?_
        refine fh_get (own := "FormulaSetterModel") (ref := "FormulaSetterModel") (C := "FormulaSetterModel") (T := T_Mo) (N := 53) (v := .int (nI a)) hx hb hT i_Mo hown hK hP mkM_o rfl 3 (by decide) (hT _ w863) (fun _ h9 => h9) rfl (fh_d d_Mo_blanks 7 rfl) ?_
        refine lv_iconst (v := 1) hx hb (fh_d d_Mo_blanks 8 rfl) (by decide) ?_
        refine lv_iadd hx hb (fh_d d_Mo_blanks 9 rfl) ?_
        refine fh_put (own := "FormulaSetterModel") (ref := "FormulaSetterModel") (C := "FormulaSetterModel") (T := T_Mo) (N := 53) (v := .int ((nI a) + 1)) (ty := .int) hx hb hT i_Mo t_Mo k_Mo n_Mo hown hK hP hS mkM_o rfl 3 (by decide) (hT _ w863) (fun _ h9 => h9) rfl (by decide +kernel) rfl rfl (Nat.le_of_ble_eq_true rfl) (fh_d d_Mo_blanks 10 rfl) (fun H locs hP hS => ?_)
        replace hP := fh_P.eq (h' := mkM ct x g A th (nI L) ((nI a) + 1) wr no nu op pi wi he de) hP mkM_ux
        refine lv_goto (tgt := 0) hx hb (fh_d d_Mo_blanks 11 rfl) rfl ?_
        have q8 : a < L ∧ A 0 a = 32 := by
          have q7 : hre (A 0) L a = 32 := c6
          unfold hre at q7
          by_cases q6 : a < L
          · rw [if_pos q6] at q7; exact ⟨q6, q7⟩
          · rw [if_neg q6] at q7; exact absurd q7 (by decide)
        rw [nI_1] at hP
        exact ih (a + 1) (by omega) (by omega) (by rw [← hsk, sk_y q8.1 q8.2]) H _ _ hP hS hl
  exact loop _ a0 rfl ha0 rfl H _ _ hP hS hl

/-- make: a node N of a kind -/
def rf_make (A : Nat → Nat → Int32) (N : Nat) (wh : Int32) : Nat → Nat → Int32 := up2 (up2 (up2 (up2 (up2 (up2 (up2 (up2 (up2 (up2 (up2 (up2 (up2 (up2 A 1 (upd (A 1) N wh)) 2 (upd (A 2) N 0)) 3 (upd (A 3) N 0)) 4 (upd (A 4) N 0)) 6 (upd (A 6) N 0)) 7 (upd (A 7) N 0)) 8 (upd (A 8) N 0)) 9 (upd (A 9) N 0)) 10 (upd (A 10) N 0)) 11 (upd (A 11) N 0)) 12 (upd (A 12) N 0)) 13 (upd (A 13) N 0)) 14 (upd (A 14) N 0)) 15 (upd (A 15) N 0)
set_option maxHeartbeats 4000000 in
set_option maxRecDepth 100000 in
theorem m_Mo_make (l : Launch) (D : va_G) (ct : Nat → ClassId) (b : Nat) (RO : State → Prop) (r : Nat) (n x : Nat) (g : fh_H) (A : Nat → Nat → Int32) (th co at_ wr nu op pi wi he de wh : Int32) (N : Nat) (hN : N < 400) : fh_C l D fh_cl (fh_tys ct) b RO y_Mo_make (Cond.code y_Mo_make c_Mo_make 3 (Option.some FieldType.int) :: fh_T) (fh_rm r 0 0) [.ref x, .int wh] (mkM ct x g A th co at_ wr (nI N) nu op pi wi he de) n (fun v h' n' => v = some (.int (nI N)) ∧ h' = mkM ct x g (rf_make A N wh) th co at_ wr (nI (N + 1)) nu op pi wi he de ∧ n' = n) 0 0 := by
  refine fh_enter (by decide) (Nat.le_of_ble_eq_true rfl) [(0, .ref x), (1, .int wh)] rfl ?_
  intro p e s m args below meth c H ls X hP hS hl
  have hx := X.1
  have hb := X.2.1
  have hml := X.2.2.1
  have hown : s.vm.findClass "FormulaSetterModel" = some m.cls := X.2.2.2.1
  have hT := X.2.2.2.2.1
  have hK := X.2.2.2.2.2.1
  have hRO := X.2.2.2.2.2.2.1
  have hnm : meth.name = "make" := X.2.2.2.2.2.2.2.2.2.2
  refine lv_aload_n hx hb (fh_d d_Mo_make 0 rfl) rfl (lv_at hl 0 rfl) ?_
  refine fh_get (own := "FormulaSetterModel") (ref := "FormulaSetterModel") (C := "FormulaSetterModel") (T := T_Mo) (N := 53) (v := .int (nI N)) hx hb hT i_Mo hown hK hP mkM_o rfl 5 (by decide) (hT _ w865) (fun _ h9 => h9) rfl (fh_d d_Mo_make 1 rfl) ?_
  refine lv_istore_n (lv' := [(2, .int (nI N)), (0, .ref x), (1, .int wh)]) hx hb (fh_d d_Mo_make 2 rfl) rfl hl (by decide) rfl (fun ls hl => ?_)
  refine lv_aload_n hx hb (fh_d d_Mo_make 3 rfl) rfl (lv_at hl 1 rfl) ?_
  refine lv_dup hx hb (fh_d d_Mo_make 4 rfl) rfl ?_
  refine fh_get (own := "FormulaSetterModel") (ref := "FormulaSetterModel") (C := "FormulaSetterModel") (T := T_Mo) (N := 53) (v := .int (nI N)) hx hb hT i_Mo hown hK hP mkM_o rfl 5 (by decide) (hT _ w865) (fun _ h9 => h9) rfl (fh_d d_Mo_make 5 rfl) ?_
  refine lv_iconst (v := 1) hx hb (fh_d d_Mo_make 6 rfl) (by decide) ?_
  refine lv_iadd hx hb (fh_d d_Mo_make 7 rfl) ?_
  refine fh_put (own := "FormulaSetterModel") (ref := "FormulaSetterModel") (C := "FormulaSetterModel") (T := T_Mo) (N := 53) (v := .int ((nI N) + 1)) (ty := .int) hx hb hT i_Mo t_Mo k_Mo n_Mo hown hK hP hS mkM_o rfl 5 (by decide) (hT _ w865) (fun _ h9 => h9) rfl (by decide +kernel) rfl rfl (Nat.le_of_ble_eq_true rfl) (fh_d d_Mo_make 8 rfl) (fun H locs hP hS => ?_)
  replace hP := fh_P.eq (h' := mkM ct x g A th co at_ wr ((nI N) + 1) nu op pi wi he de) hP mkM_ux
  refine lv_aload_n hx hb (fh_d d_Mo_make 9 rfl) rfl (lv_at hl 1 rfl) ?_
  refine fh_get (own := "FormulaSetterModel") (ref := "FormulaSetterModel") (C := "FormulaSetterModel") (T := T_Mo) (N := 53) (v := .ref (x + 2)) hx hb hT i_Mo hown hK hP mkM_o rfl 7 (by decide) (hT _ w867) (fun _ h9 => h9) rfl (fh_d d_Mo_make 10 rfl) ?_
  refine lv_iload_n hx hb (fh_d d_Mo_make 11 rfl) rfl (lv_at hl 0 rfl) ?_
  refine lv_iload_n hx hb (fh_d d_Mo_make 12 rfl) rfl (lv_at hl 2 rfl) ?_
  refine fn_iast (f := A 1) (k := N) hx hb hK hP hS 0 mkM_a1 rfl (rfl) (hN) (by decide) (fh_d d_Mo_make 13 rfl) (fun H locs hP hS => ?_)
  replace hP := fh_P.eq (h' := mkM ct x g (up2 A 1 (upd (A 1) N wh)) th co at_ wr ((nI N) + 1) nu op pi wi he de) hP mkM_u1
  refine lv_aload_n hx hb (fh_d d_Mo_make 14 rfl) rfl (lv_at hl 1 rfl) ?_
  refine fh_get (own := "FormulaSetterModel") (ref := "FormulaSetterModel") (C := "FormulaSetterModel") (T := T_Mo) (N := 53) (v := .ref (x + 3)) hx hb hT i_Mo hown hK hP mkM_o rfl 8 (by decide) (hT _ w868) (fun _ h9 => h9) rfl (fh_d d_Mo_make 15 rfl) ?_
  refine lv_iload_n hx hb (fh_d d_Mo_make 16 rfl) rfl (lv_at hl 0 rfl) ?_
  refine lv_iconst (v := 0) hx hb (fh_d d_Mo_make 17 rfl) (by decide) ?_
  refine fn_iast (f := A 2) (k := N) hx hb hK hP hS 0 mkM_a2 rfl (rfl) (hN) (by decide) (fh_d d_Mo_make 18 rfl) (fun H locs hP hS => ?_)
  replace hP := fh_P.eq (h' := mkM ct x g (up2 (up2 A 1 (upd (A 1) N wh)) 2 (upd (A 2) N 0)) th co at_ wr ((nI N) + 1) nu op pi wi he de) hP mkM_u2
  refine lv_aload_n hx hb (fh_d d_Mo_make 19 rfl) rfl (lv_at hl 1 rfl) ?_
  refine fh_get (own := "FormulaSetterModel") (ref := "FormulaSetterModel") (C := "FormulaSetterModel") (T := T_Mo) (N := 53) (v := .ref (x + 4)) hx hb hT i_Mo hown hK hP mkM_o rfl 9 (by decide) (hT _ w869) (fun _ h9 => h9) rfl (fh_d d_Mo_make 20 rfl) ?_
  refine lv_iload_n hx hb (fh_d d_Mo_make 21 rfl) rfl (lv_at hl 0 rfl) ?_
  refine lv_iconst (v := 0) hx hb (fh_d d_Mo_make 22 rfl) (by decide) ?_
  refine fn_iast (f := A 3) (k := N) hx hb hK hP hS 0 mkM_a3 rfl (rfl) (hN) (by decide) (fh_d d_Mo_make 23 rfl) (fun H locs hP hS => ?_)
  replace hP := fh_P.eq (h' := mkM ct x g (up2 (up2 (up2 A 1 (upd (A 1) N wh)) 2 (upd (A 2) N 0)) 3 (upd (A 3) N 0)) th co at_ wr ((nI N) + 1) nu op pi wi he de) hP mkM_u3
  refine lv_aload_n hx hb (fh_d d_Mo_make 24 rfl) rfl (lv_at hl 1 rfl) ?_
  refine fh_get (own := "FormulaSetterModel") (ref := "FormulaSetterModel") (C := "FormulaSetterModel") (T := T_Mo) (N := 53) (v := .ref (x + 5)) hx hb hT i_Mo hown hK hP mkM_o rfl 10 (by decide) (hT _ w870) (fun _ h9 => h9) rfl (fh_d d_Mo_make 25 rfl) ?_
  refine lv_iload_n hx hb (fh_d d_Mo_make 26 rfl) rfl (lv_at hl 0 rfl) ?_
  refine lv_iconst (v := 0) hx hb (fh_d d_Mo_make 27 rfl) (by decide) ?_
  refine fn_iast (f := A 4) (k := N) hx hb hK hP hS 0 mkM_a4 rfl (rfl) (hN) (by decide) (fh_d d_Mo_make 28 rfl) (fun H locs hP hS => ?_)
  replace hP := fh_P.eq (h' := mkM ct x g (up2 (up2 (up2 (up2 A 1 (upd (A 1) N wh)) 2 (upd (A 2) N 0)) 3 (upd (A 3) N 0)) 4 (upd (A 4) N 0)) th co at_ wr ((nI N) + 1) nu op pi wi he de) hP mkM_u4
  refine lv_aload_n hx hb (fh_d d_Mo_make 29 rfl) rfl (lv_at hl 1 rfl) ?_
  refine fh_get (own := "FormulaSetterModel") (ref := "FormulaSetterModel") (C := "FormulaSetterModel") (T := T_Mo) (N := 53) (v := .ref (x + 7)) hx hb hT i_Mo hown hK hP mkM_o rfl 12 (by decide) (hT _ w872) (fun _ h9 => h9) rfl (fh_d d_Mo_make 30 rfl) ?_
  refine lv_iload_n hx hb (fh_d d_Mo_make 31 rfl) rfl (lv_at hl 0 rfl) ?_
  refine lv_iconst (v := 0) hx hb (fh_d d_Mo_make 32 rfl) (by decide) ?_
  refine fn_iast (f := A 6) (k := N) hx hb hK hP hS 0 mkM_a6 rfl (rfl) (hN) (by decide) (fh_d d_Mo_make 33 rfl) (fun H locs hP hS => ?_)
  replace hP := fh_P.eq (h' := mkM ct x g (up2 (up2 (up2 (up2 (up2 A 1 (upd (A 1) N wh)) 2 (upd (A 2) N 0)) 3 (upd (A 3) N 0)) 4 (upd (A 4) N 0)) 6 (upd (A 6) N 0)) th co at_ wr ((nI N) + 1) nu op pi wi he de) hP mkM_u6
  refine lv_aload_n hx hb (fh_d d_Mo_make 34 rfl) rfl (lv_at hl 1 rfl) ?_
  refine fh_get (own := "FormulaSetterModel") (ref := "FormulaSetterModel") (C := "FormulaSetterModel") (T := T_Mo) (N := 53) (v := .ref (x + 8)) hx hb hT i_Mo hown hK hP mkM_o rfl 13 (by decide) (hT _ w873) (fun _ h9 => h9) rfl (fh_d d_Mo_make 35 rfl) ?_
  refine lv_iload_n hx hb (fh_d d_Mo_make 36 rfl) rfl (lv_at hl 0 rfl) ?_
  refine lv_iconst (v := 0) hx hb (fh_d d_Mo_make 37 rfl) (by decide) ?_
  refine fn_iast (f := A 7) (k := N) hx hb hK hP hS 0 mkM_a7 rfl (rfl) (hN) (by decide) (fh_d d_Mo_make 38 rfl) (fun H locs hP hS => ?_)
  replace hP := fh_P.eq (h' := mkM ct x g (up2 (up2 (up2 (up2 (up2 (up2 A 1 (upd (A 1) N wh)) 2 (upd (A 2) N 0)) 3 (upd (A 3) N 0)) 4 (upd (A 4) N 0)) 6 (upd (A 6) N 0)) 7 (upd (A 7) N 0)) th co at_ wr ((nI N) + 1) nu op pi wi he de) hP mkM_u7
  refine lv_aload_n hx hb (fh_d d_Mo_make 39 rfl) rfl (lv_at hl 1 rfl) ?_
  refine fh_get (own := "FormulaSetterModel") (ref := "FormulaSetterModel") (C := "FormulaSetterModel") (T := T_Mo) (N := 53) (v := .ref (x + 9)) hx hb hT i_Mo hown hK hP mkM_o rfl 14 (by decide) (hT _ w874) (fun _ h9 => h9) rfl (fh_d d_Mo_make 40 rfl) ?_
  refine lv_iload_n hx hb (fh_d d_Mo_make 41 rfl) rfl (lv_at hl 0 rfl) ?_
  refine lv_iconst (v := 0) hx hb (fh_d d_Mo_make 42 rfl) (by decide) ?_
  refine fn_iast (f := A 8) (k := N) hx hb hK hP hS 0 mkM_a8 rfl (rfl) (hN) (by decide) (fh_d d_Mo_make 43 rfl) (fun H locs hP hS => ?_)
  replace hP := fh_P.eq (h' := mkM ct x g (up2 (up2 (up2 (up2 (up2 (up2 (up2 A 1 (upd (A 1) N wh)) 2 (upd (A 2) N 0)) 3 (upd (A 3) N 0)) 4 (upd (A 4) N 0)) 6 (upd (A 6) N 0)) 7 (upd (A 7) N 0)) 8 (upd (A 8) N 0)) th co at_ wr ((nI N) + 1) nu op pi wi he de) hP mkM_u8
  refine lv_aload_n hx hb (fh_d d_Mo_make 44 rfl) rfl (lv_at hl 1 rfl) ?_
  refine fh_get (own := "FormulaSetterModel") (ref := "FormulaSetterModel") (C := "FormulaSetterModel") (T := T_Mo) (N := 53) (v := .ref (x + 10)) hx hb hT i_Mo hown hK hP mkM_o rfl 15 (by decide) (hT _ w875) (fun _ h9 => h9) rfl (fh_d d_Mo_make 45 rfl) ?_
  refine lv_iload_n hx hb (fh_d d_Mo_make 46 rfl) rfl (lv_at hl 0 rfl) ?_
  refine lv_iconst (v := 0) hx hb (fh_d d_Mo_make 47 rfl) (by decide) ?_
  refine fn_iast (f := A 9) (k := N) hx hb hK hP hS 0 mkM_a9 rfl (rfl) (hN) (by decide) (fh_d d_Mo_make 48 rfl) (fun H locs hP hS => ?_)
  replace hP := fh_P.eq (h' := mkM ct x g (up2 (up2 (up2 (up2 (up2 (up2 (up2 (up2 A 1 (upd (A 1) N wh)) 2 (upd (A 2) N 0)) 3 (upd (A 3) N 0)) 4 (upd (A 4) N 0)) 6 (upd (A 6) N 0)) 7 (upd (A 7) N 0)) 8 (upd (A 8) N 0)) 9 (upd (A 9) N 0)) th co at_ wr ((nI N) + 1) nu op pi wi he de) hP mkM_u9
  refine lv_aload_n hx hb (fh_d d_Mo_make 49 rfl) rfl (lv_at hl 1 rfl) ?_
  refine fh_get (own := "FormulaSetterModel") (ref := "FormulaSetterModel") (C := "FormulaSetterModel") (T := T_Mo) (N := 53) (v := .ref (x + 11)) hx hb hT i_Mo hown hK hP mkM_o rfl 16 (by decide) (hT _ w876) (fun _ h9 => h9) rfl (fh_d d_Mo_make 50 rfl) ?_
  refine lv_iload_n hx hb (fh_d d_Mo_make 51 rfl) rfl (lv_at hl 0 rfl) ?_
  refine lv_iconst (v := 0) hx hb (fh_d d_Mo_make 52 rfl) (by decide) ?_
  refine fn_iast (f := A 10) (k := N) hx hb hK hP hS 0 mkM_a10 rfl (rfl) (hN) (by decide) (fh_d d_Mo_make 53 rfl) (fun H locs hP hS => ?_)
  replace hP := fh_P.eq (h' := mkM ct x g (up2 (up2 (up2 (up2 (up2 (up2 (up2 (up2 (up2 A 1 (upd (A 1) N wh)) 2 (upd (A 2) N 0)) 3 (upd (A 3) N 0)) 4 (upd (A 4) N 0)) 6 (upd (A 6) N 0)) 7 (upd (A 7) N 0)) 8 (upd (A 8) N 0)) 9 (upd (A 9) N 0)) 10 (upd (A 10) N 0)) th co at_ wr ((nI N) + 1) nu op pi wi he de) hP mkM_u10
  refine lv_aload_n hx hb (fh_d d_Mo_make 54 rfl) rfl (lv_at hl 1 rfl) ?_
  refine fh_get (own := "FormulaSetterModel") (ref := "FormulaSetterModel") (C := "FormulaSetterModel") (T := T_Mo) (N := 53) (v := .ref (x + 12)) hx hb hT i_Mo hown hK hP mkM_o rfl 17 (by decide) (hT _ w877) (fun _ h9 => h9) rfl (fh_d d_Mo_make 55 rfl) ?_
  refine lv_iload_n hx hb (fh_d d_Mo_make 56 rfl) rfl (lv_at hl 0 rfl) ?_
  refine lv_iconst (v := 0) hx hb (fh_d d_Mo_make 57 rfl) (by decide) ?_
  refine fn_iast (f := A 11) (k := N) hx hb hK hP hS 0 mkM_a11 rfl (rfl) (hN) (by decide) (fh_d d_Mo_make 58 rfl) (fun H locs hP hS => ?_)
  replace hP := fh_P.eq (h' := mkM ct x g (up2 (up2 (up2 (up2 (up2 (up2 (up2 (up2 (up2 (up2 A 1 (upd (A 1) N wh)) 2 (upd (A 2) N 0)) 3 (upd (A 3) N 0)) 4 (upd (A 4) N 0)) 6 (upd (A 6) N 0)) 7 (upd (A 7) N 0)) 8 (upd (A 8) N 0)) 9 (upd (A 9) N 0)) 10 (upd (A 10) N 0)) 11 (upd (A 11) N 0)) th co at_ wr ((nI N) + 1) nu op pi wi he de) hP mkM_u11
  refine lv_aload_n hx hb (fh_d d_Mo_make 59 rfl) rfl (lv_at hl 1 rfl) ?_
  refine fh_get (own := "FormulaSetterModel") (ref := "FormulaSetterModel") (C := "FormulaSetterModel") (T := T_Mo) (N := 53) (v := .ref (x + 13)) hx hb hT i_Mo hown hK hP mkM_o rfl 18 (by decide) (hT _ w878) (fun _ h9 => h9) rfl (fh_d d_Mo_make 60 rfl) ?_
  refine lv_iload_n hx hb (fh_d d_Mo_make 61 rfl) rfl (lv_at hl 0 rfl) ?_
  refine lv_iconst (v := 0) hx hb (fh_d d_Mo_make 62 rfl) (by decide) ?_
  refine fn_iast (f := A 12) (k := N) hx hb hK hP hS 0 mkM_a12 rfl (rfl) (hN) (by decide) (fh_d d_Mo_make 63 rfl) (fun H locs hP hS => ?_)
  replace hP := fh_P.eq (h' := mkM ct x g (up2 (up2 (up2 (up2 (up2 (up2 (up2 (up2 (up2 (up2 (up2 A 1 (upd (A 1) N wh)) 2 (upd (A 2) N 0)) 3 (upd (A 3) N 0)) 4 (upd (A 4) N 0)) 6 (upd (A 6) N 0)) 7 (upd (A 7) N 0)) 8 (upd (A 8) N 0)) 9 (upd (A 9) N 0)) 10 (upd (A 10) N 0)) 11 (upd (A 11) N 0)) 12 (upd (A 12) N 0)) th co at_ wr ((nI N) + 1) nu op pi wi he de) hP mkM_u12
  refine lv_aload_n hx hb (fh_d d_Mo_make 64 rfl) rfl (lv_at hl 1 rfl) ?_
  refine fh_get (own := "FormulaSetterModel") (ref := "FormulaSetterModel") (C := "FormulaSetterModel") (T := T_Mo) (N := 53) (v := .ref (x + 14)) hx hb hT i_Mo hown hK hP mkM_o rfl 19 (by decide) (hT _ w879) (fun _ h9 => h9) rfl (fh_d d_Mo_make 65 rfl) ?_
  refine lv_iload_n hx hb (fh_d d_Mo_make 66 rfl) rfl (lv_at hl 0 rfl) ?_
  refine lv_iconst (v := 0) hx hb (fh_d d_Mo_make 67 rfl) (by decide) ?_
  refine fn_iast (f := A 13) (k := N) hx hb hK hP hS 0 mkM_a13 rfl (rfl) (hN) (by decide) (fh_d d_Mo_make 68 rfl) (fun H locs hP hS => ?_)
  replace hP := fh_P.eq (h' := mkM ct x g (up2 (up2 (up2 (up2 (up2 (up2 (up2 (up2 (up2 (up2 (up2 (up2 A 1 (upd (A 1) N wh)) 2 (upd (A 2) N 0)) 3 (upd (A 3) N 0)) 4 (upd (A 4) N 0)) 6 (upd (A 6) N 0)) 7 (upd (A 7) N 0)) 8 (upd (A 8) N 0)) 9 (upd (A 9) N 0)) 10 (upd (A 10) N 0)) 11 (upd (A 11) N 0)) 12 (upd (A 12) N 0)) 13 (upd (A 13) N 0)) th co at_ wr ((nI N) + 1) nu op pi wi he de) hP mkM_u13
  refine lv_aload_n hx hb (fh_d d_Mo_make 69 rfl) rfl (lv_at hl 1 rfl) ?_
  refine fh_get (own := "FormulaSetterModel") (ref := "FormulaSetterModel") (C := "FormulaSetterModel") (T := T_Mo) (N := 53) (v := .ref (x + 15)) hx hb hT i_Mo hown hK hP mkM_o rfl 20 (by decide) (hT _ w880) (fun _ h9 => h9) rfl (fh_d d_Mo_make 70 rfl) ?_
  refine lv_iload_n hx hb (fh_d d_Mo_make 71 rfl) rfl (lv_at hl 0 rfl) ?_
  refine lv_iconst (v := 0) hx hb (fh_d d_Mo_make 72 rfl) (by decide) ?_
  refine fn_iast (f := A 14) (k := N) hx hb hK hP hS 0 mkM_a14 rfl (rfl) (hN) (by decide) (fh_d d_Mo_make 73 rfl) (fun H locs hP hS => ?_)
  replace hP := fh_P.eq (h' := mkM ct x g (up2 (up2 (up2 (up2 (up2 (up2 (up2 (up2 (up2 (up2 (up2 (up2 (up2 A 1 (upd (A 1) N wh)) 2 (upd (A 2) N 0)) 3 (upd (A 3) N 0)) 4 (upd (A 4) N 0)) 6 (upd (A 6) N 0)) 7 (upd (A 7) N 0)) 8 (upd (A 8) N 0)) 9 (upd (A 9) N 0)) 10 (upd (A 10) N 0)) 11 (upd (A 11) N 0)) 12 (upd (A 12) N 0)) 13 (upd (A 13) N 0)) 14 (upd (A 14) N 0)) th co at_ wr ((nI N) + 1) nu op pi wi he de) hP mkM_u14
  refine lv_aload_n hx hb (fh_d d_Mo_make 74 rfl) rfl (lv_at hl 1 rfl) ?_
  refine fh_get (own := "FormulaSetterModel") (ref := "FormulaSetterModel") (C := "FormulaSetterModel") (T := T_Mo) (N := 53) (v := .ref (x + 16)) hx hb hT i_Mo hown hK hP mkM_o rfl 21 (by decide) (hT _ w881) (fun _ h9 => h9) rfl (fh_d d_Mo_make 75 rfl) ?_
  refine lv_iload_n hx hb (fh_d d_Mo_make 76 rfl) rfl (lv_at hl 0 rfl) ?_
  refine lv_iconst (v := 0) hx hb (fh_d d_Mo_make 77 rfl) (by decide) ?_
  refine fn_zast (f := A 15) (k := N) hx hb hK hP hS 3 mkM_a15 rfl (rfl) (hN) (by decide) (by decide) (fh_d d_Mo_make 78 rfl) (fun H locs hP hS => ?_)
  replace hP := fh_P.eq (h' := mkM ct x g (up2 (up2 (up2 (up2 (up2 (up2 (up2 (up2 (up2 (up2 (up2 (up2 (up2 (up2 A 1 (upd (A 1) N wh)) 2 (upd (A 2) N 0)) 3 (upd (A 3) N 0)) 4 (upd (A 4) N 0)) 6 (upd (A 6) N 0)) 7 (upd (A 7) N 0)) 8 (upd (A 8) N 0)) 9 (upd (A 9) N 0)) 10 (upd (A 10) N 0)) 11 (upd (A 11) N 0)) 12 (upd (A 12) N 0)) 13 (upd (A 13) N 0)) 14 (upd (A 14) N 0)) 15 (upd (A 15) N 0)) th co at_ wr ((nI N) + 1) nu op pi wi he de) hP mkM_u15
  refine lv_iload_n hx hb (fh_d d_Mo_make 79 rfl) rfl (lv_at hl 0 rfl) ?_
  exact fh_iret X hP hS (fh_d d_Mo_make 80 rfl) ⟨rfl, by rw [nI_1]; rfl, rfl⟩

/-- push: a frame O -/
def rf_push (A : Nat → Nat → Int32) (O : Nat) (wh nn ii : Int32) : Nat → Nat → Int32 := up2 (up2 (up2 (up2 A 16 (upd (A 16) O wh)) 17 (upd (A 17) O nn)) 18 (upd (A 18) O ii)) 19 (upd (A 19) O 0)
set_option maxHeartbeats 4000000 in
set_option maxRecDepth 100000 in
theorem m_Mo_push (l : Launch) (D : va_G) (ct : Nat → ClassId) (b : Nat) (RO : State → Prop) (r : Nat) (n x : Nat) (g : fh_H) (A : Nat → Nat → Int32) (th co at_ wr no nu pi wi he de wh nn ii : Int32) (O : Nat) (hO : O < 40) : fh_C l D fh_cl (fh_tys ct) b RO y_Mo_push (Cond.code y_Mo_push c_Mo_push 4 (Option.none : Option FieldType) :: fh_T) (fh_rm r 0 0) [.ref x, .int wh, .int nn, .int ii] (mkM ct x g A th co at_ wr no nu (nI O) pi wi he de) n (fun v h' n' => v = none ∧ h' = mkM ct x g (rf_push A O wh nn ii) th co at_ wr no nu (nI (O + 1)) pi wi he de ∧ n' = n) 0 0 := by
  refine fh_enter (by decide) (Nat.le_of_ble_eq_true rfl) [(0, .ref x), (1, .int wh), (2, .int nn), (3, .int ii)] rfl ?_
  intro p e s m args below meth c H ls X hP hS hl
  have hx := X.1
  have hb := X.2.1
  have hml := X.2.2.1
  have hown : s.vm.findClass "FormulaSetterModel" = some m.cls := X.2.2.2.1
  have hT := X.2.2.2.2.1
  have hK := X.2.2.2.2.2.1
  have hRO := X.2.2.2.2.2.2.1
  have hnm : meth.name = "push" := X.2.2.2.2.2.2.2.2.2.2
  refine lv_aload_n hx hb (fh_d d_Mo_push 0 rfl) rfl (lv_at hl 0 rfl) ?_
  refine fh_get (own := "FormulaSetterModel") (ref := "FormulaSetterModel") (C := "FormulaSetterModel") (T := T_Mo) (N := 53) (v := .ref (x + 17)) hx hb hT i_Mo hown hK hP mkM_o rfl 23 (by decide) (hT _ w883) (fun _ h9 => h9) rfl (fh_d d_Mo_push 1 rfl) ?_
  refine lv_aload_n hx hb (fh_d d_Mo_push 2 rfl) rfl (lv_at hl 0 rfl) ?_
  refine fh_get (own := "FormulaSetterModel") (ref := "FormulaSetterModel") (C := "FormulaSetterModel") (T := T_Mo) (N := 53) (v := .int (nI O)) hx hb hT i_Mo hown hK hP mkM_o rfl 22 (by decide) (hT _ w882) (fun _ h9 => h9) rfl (fh_d d_Mo_push 3 rfl) ?_
  refine lv_iload_n hx hb (fh_d d_Mo_push 4 rfl) rfl (lv_at hl 1 rfl) ?_
  refine fn_iast (f := A 16) (k := O) hx hb hK hP hS 0 mkM_a16 rfl (rfl) (hO) (by decide) (fh_d d_Mo_push 5 rfl) (fun H locs hP hS => ?_)
  replace hP := fh_P.eq (h' := mkM ct x g (up2 A 16 (upd (A 16) O wh)) th co at_ wr no nu (nI O) pi wi he de) hP mkM_u16
  refine lv_aload_n hx hb (fh_d d_Mo_push 6 rfl) rfl (lv_at hl 0 rfl) ?_
  refine fh_get (own := "FormulaSetterModel") (ref := "FormulaSetterModel") (C := "FormulaSetterModel") (T := T_Mo) (N := 53) (v := .ref (x + 18)) hx hb hT i_Mo hown hK hP mkM_o rfl 24 (by decide) (hT _ w884) (fun _ h9 => h9) rfl (fh_d d_Mo_push 7 rfl) ?_
  refine lv_aload_n hx hb (fh_d d_Mo_push 8 rfl) rfl (lv_at hl 0 rfl) ?_
  refine fh_get (own := "FormulaSetterModel") (ref := "FormulaSetterModel") (C := "FormulaSetterModel") (T := T_Mo) (N := 53) (v := .int (nI O)) hx hb hT i_Mo hown hK hP mkM_o rfl 22 (by decide) (hT _ w882) (fun _ h9 => h9) rfl (fh_d d_Mo_push 9 rfl) ?_
  refine lv_iload_n hx hb (fh_d d_Mo_push 10 rfl) rfl (lv_at hl 2 rfl) ?_
  refine fn_iast (f := A 17) (k := O) hx hb hK hP hS 0 mkM_a17 rfl (rfl) (hO) (by decide) (fh_d d_Mo_push 11 rfl) (fun H locs hP hS => ?_)
  replace hP := fh_P.eq (h' := mkM ct x g (up2 (up2 A 16 (upd (A 16) O wh)) 17 (upd (A 17) O nn)) th co at_ wr no nu (nI O) pi wi he de) hP mkM_u17
  refine lv_aload_n hx hb (fh_d d_Mo_push 12 rfl) rfl (lv_at hl 0 rfl) ?_
  refine fh_get (own := "FormulaSetterModel") (ref := "FormulaSetterModel") (C := "FormulaSetterModel") (T := T_Mo) (N := 53) (v := .ref (x + 19)) hx hb hT i_Mo hown hK hP mkM_o rfl 25 (by decide) (hT _ w885) (fun _ h9 => h9) rfl (fh_d d_Mo_push 13 rfl) ?_
  refine lv_aload_n hx hb (fh_d d_Mo_push 14 rfl) rfl (lv_at hl 0 rfl) ?_
  refine fh_get (own := "FormulaSetterModel") (ref := "FormulaSetterModel") (C := "FormulaSetterModel") (T := T_Mo) (N := 53) (v := .int (nI O)) hx hb hT i_Mo hown hK hP mkM_o rfl 22 (by decide) (hT _ w882) (fun _ h9 => h9) rfl (fh_d d_Mo_push 15 rfl) ?_
  refine lv_iload_n hx hb (fh_d d_Mo_push 16 rfl) rfl (lv_at hl 3 rfl) ?_
  refine fn_iast (f := A 18) (k := O) hx hb hK hP hS 0 mkM_a18 rfl (rfl) (hO) (by decide) (fh_d d_Mo_push 17 rfl) (fun H locs hP hS => ?_)
  replace hP := fh_P.eq (h' := mkM ct x g (up2 (up2 (up2 A 16 (upd (A 16) O wh)) 17 (upd (A 17) O nn)) 18 (upd (A 18) O ii)) th co at_ wr no nu (nI O) pi wi he de) hP mkM_u18
  refine lv_aload_n hx hb (fh_d d_Mo_push 18 rfl) rfl (lv_at hl 0 rfl) ?_
  refine fh_get (own := "FormulaSetterModel") (ref := "FormulaSetterModel") (C := "FormulaSetterModel") (T := T_Mo) (N := 53) (v := .ref (x + 20)) hx hb hT i_Mo hown hK hP mkM_o rfl 26 (by decide) (hT _ w886) (fun _ h9 => h9) rfl (fh_d d_Mo_push 19 rfl) ?_
  refine lv_aload_n hx hb (fh_d d_Mo_push 20 rfl) rfl (lv_at hl 0 rfl) ?_
  refine fh_get (own := "FormulaSetterModel") (ref := "FormulaSetterModel") (C := "FormulaSetterModel") (T := T_Mo) (N := 53) (v := .int (nI O)) hx hb hT i_Mo hown hK hP mkM_o rfl 22 (by decide) (hT _ w882) (fun _ h9 => h9) rfl (fh_d d_Mo_push 21 rfl) ?_
  refine lv_iconst (v := 0) hx hb (fh_d d_Mo_push 22 rfl) (by decide) ?_
  refine fn_iast (f := A 19) (k := O) hx hb hK hP hS 0 mkM_a19 rfl (rfl) (hO) (by decide) (fh_d d_Mo_push 23 rfl) (fun H locs hP hS => ?_)
  replace hP := fh_P.eq (h' := mkM ct x g (up2 (up2 (up2 (up2 A 16 (upd (A 16) O wh)) 17 (upd (A 17) O nn)) 18 (upd (A 18) O ii)) 19 (upd (A 19) O 0)) th co at_ wr no nu (nI O) pi wi he de) hP mkM_u19
  refine lv_aload_n hx hb (fh_d d_Mo_push 24 rfl) rfl (lv_at hl 0 rfl) ?_
  refine lv_dup hx hb (fh_d d_Mo_push 25 rfl) rfl ?_
  refine fh_get (own := "FormulaSetterModel") (ref := "FormulaSetterModel") (C := "FormulaSetterModel") (T := T_Mo) (N := 53) (v := .int (nI O)) hx hb hT i_Mo hown hK hP mkM_o rfl 22 (by decide) (hT _ w882) (fun _ h9 => h9) rfl (fh_d d_Mo_push 26 rfl) ?_
  refine lv_iconst (v := 1) hx hb (fh_d d_Mo_push 27 rfl) (by decide) ?_
  refine lv_iadd hx hb (fh_d d_Mo_push 28 rfl) ?_
  refine fh_put (own := "FormulaSetterModel") (ref := "FormulaSetterModel") (C := "FormulaSetterModel") (T := T_Mo) (N := 53) (v := .int ((nI O) + 1)) (ty := .int) hx hb hT i_Mo t_Mo k_Mo n_Mo hown hK hP hS mkM_o rfl 22 (by decide) (hT _ w882) (fun _ h9 => h9) rfl (by decide +kernel) rfl rfl (Nat.le_of_ble_eq_true rfl) (fh_d d_Mo_push 29 rfl) (fun H locs hP hS => ?_)
  replace hP := fh_P.eq (h' := mkM ct x g (up2 (up2 (up2 (up2 A 16 (upd (A 16) O wh)) 17 (upd (A 17) O nn)) 18 (upd (A 18) O ii)) 19 (upd (A 19) O 0)) th co at_ wr no nu ((nI O) + 1) pi wi he de) hP mkM_ux
  exact fh_vret X hP hS (fh_d d_Mo_push 30 rfl) ⟨rfl, by rw [nI_1]; rfl, rfl⟩
