/-! The reference: begin. Printed by wip/whole/gen/p29.py -/
def rz_begin (A : Nat → Nat → Int32) (L a : Nat) (w : Int32) (N U O : Nat) : RS :=
  if hre (A 0) L a = 123 then (rf_ins (rz_N A N O 3 0) (N + 1) O N 1, a + 1, rz_W A O U w, N + 2, U + 1, O + 1)
  else if hre (A 0) L a = 92 then rz_obey A L a w N U O (nh (A 0) L a 1 0)
  else if 0 ≤ sorto (hre (A 0) L a) then rz_one A (a + 1) w N U O 1 (sorto (hre (A 0) L a)) (hre (A 0) L a)
  else (A, a, 1, N, U, O)
set_option maxHeartbeats 4000000 in
set_option maxRecDepth 100000 in
theorem m_Mo_begin (l : Launch) (D : va_G) (ct : Nat → ClassId) (b : Nat) (RO : State → Prop) (hR : fh_R b RO) (r : Nat) (hr : 4 ≤ r) (n x : Nat) (g : fh_H) (A : Nat → Nat → Int32) (th wr pi wi he de : Int32) (L a N U O : Nat) (hL : L ≤ 160) (ha : a ≤ 300) (hN : N + 1 < 400) (hO : 1 ≤ O) (hO2 : O < 40) (hf : okf A O) : fh_C l D fh_cl (fh_tys ct) b RO y_Mo_begin (Cond.code y_Mo_begin c_Mo_begin 3 (Option.none : Option FieldType) :: fh_T) (fh_rm r 0 0) [.ref x] (mkM ct x g A th (nI L) (nI a) wr (nI N) (nI U) (nI O) pi wi he de) n (fun v h' n' => v = none ∧ h' = mkS ct x g th L (rz_begin A L a wr N U O) pi wi he de ∧ n' = n) 0 0 := by
  refine fh_enter (by decide) (Nat.le_of_ble_eq_true rfl) [(0, .ref x)] rfl ?_
  intro p e s m args below meth c H ls X hP hS hl
  have hx := X.1
  have hb := X.2.1
  have hml := X.2.2.1
  have hown : s.vm.findClass "FormulaSetterModel" = some m.cls := X.2.2.2.1
  have hT := X.2.2.2.2.1
  have hK := X.2.2.2.2.2.1
  have hRO := X.2.2.2.2.2.2.1
  have hnm : meth.name = "begin" := X.2.2.2.2.2.2.2.2.2.2
  have hu0 := (hf.1 (O - 1) (by omega)).1
  refine lv_aload_n hx hb (fh_d d_Mo_begin 0 rfl) rfl (lv_at hl 0 rfl) ?_
  refine lv_iconst (v := 0) hx hb (fh_d d_Mo_begin 1 rfl) (by decide) ?_
  refine fh_callV (cc' := c_Mo_here) (nL' := 2) (rest := []) (a := x) (As := [.int 0]) X hR (m_Mo_here l D ct b RO (r - 1) n x g A th wr (nI N) (nI U) (nI O) pi wi he de L a  (0) hL (by omega)) w1060 w1057 w1059 v36 w9 ⟨by decide, by decide, by show _ = some 1; decide +kernel⟩ (by omega) (by decide) (fh_recv hK hP mkM_o rfl) hP hS hl.1 rfl (by exact Nat.le_of_ble_eq_true rfl) (fh_d d_Mo_begin 2 rfl) ⟨Nat.le_refl _, Nat.le_refl _⟩ (fun v9 h9 n9 H locs hq hP hS => ?_)
  obtain ⟨rfl, u1, u2⟩ := hq
  rw [u1, u2] at hP
  have hq0 : (if a + 0 < L then A 0 (a + 0) else 0) = hre (A 0) L a := rfl
  rw [hq0]
  refine lv_istore_n (lv' := [(1, .int (hre (A 0) L a)), (0, .ref x)]) hx hb (fh_d d_Mo_begin 3 rfl) rfl hl (by decide) rfl (fun ls hl => ?_)
  refine lv_iload_n hx hb (fh_d d_Mo_begin 4 rfl) rfl (lv_at hl 0 rfl) ?_
  refine lv_bipush (v := 123) hx hb (fh_d d_Mo_begin 5 rfl) (by decide) ?_
  refine lv_icmp_ne (tgt := 36) hx hb (fh_d d_Mo_begin 6 rfl) rfl (fun c3 => ?_) (fun c3 => ?_)
  · refine lv_iload_n hx hb (fh_d d_Mo_begin 21 rfl) rfl (lv_at hl 0 rfl) ?_
    refine lv_bipush (v := 92) hx hb (fh_d d_Mo_begin 22 rfl) (by decide) ?_
    refine lv_icmp_ne (tgt := 53) hx hb (fh_d d_Mo_begin 23 rfl) rfl (fun c4 => ?_) (fun c4 => ?_)
    · refine lv_iload_n hx hb (fh_d d_Mo_begin 29 rfl) rfl (lv_at hl 0 rfl) ?_
      refine fh_callS (cc' := c_Mo_sortOf) (nL' := 1) (rest := []) (av := [.int (hre (A 0) L a)]) X hR (m_Mo_sortOf l D ct b RO hR (r - 1) n (by omega) (hre (A 0) L a) _) w1116 w1114 w1115 w9 ⟨by decide, by decide, by show _ = some 1; decide +kernel⟩ (by omega) (by decide) hP hS hl.1 rfl (by exact Nat.le_of_ble_eq_true rfl) (fh_d d_Mo_begin 30 rfl) ⟨Nat.le_refl _, Nat.le_refl _⟩ (fun v9 h9 n9 H locs hq hP hS => ?_)
      obtain ⟨rfl, u5, u6⟩ := hq
      rw [u5, u6] at hP
      refine lv_if_lt (tgt := 95) hx hb (fh_d d_Mo_begin 31 rfl) rfl (fun c7 => ?_) (fun c7 => ?_)
      · refine lv_aload_n hx hb (fh_d d_Mo_begin 53 rfl) rfl (lv_at hl 1 rfl) ?_
        refine lv_iconst (v := 1) hx hb (fh_d d_Mo_begin 54 rfl) (by decide) ?_
        refine fh_put (own := "FormulaSetterModel") (ref := "FormulaSetterModel") (C := "FormulaSetterModel") (T := T_Mo) (N := 53) (v := .int 1) (ty := .boolean) hx hb hT i_Mo t_Mo k_Mo n_Mo hown hK hP hS mkM_o rfl 4 (by decide) (hT _ w864) (fun _ h9 => h9) rfl (by decide +kernel) rfl rfl (Nat.le_of_ble_eq_true rfl) (fh_d d_Mo_begin 55 rfl) (fun H locs hP hS => ?_)
        replace hP := fh_P.eq (h' := mkM ct x g A th (nI L) (nI a) 1 (nI N) (nI U) (nI O) pi wi he de) hP mkM_ux
        refine fh_vret X hP hS (fh_d d_Mo_begin 56 rfl) ⟨rfl, ?_, rfl⟩
        have q9 : rz_begin A L a wr N U O = (A, a, 1, N, U, O) := by unfold rz_begin; rw [if_neg c3, if_neg c4, if_neg (Int32.not_le.mpr c7)]
        rw [q9]
        try rfl
      · refine lv_aload_n hx hb (fh_d d_Mo_begin 32 rfl) rfl (lv_at hl 1 rfl) ?_
        refine lv_iconst (v := 1) hx hb (fh_d d_Mo_begin 33 rfl) (by decide) ?_
        refine lv_iload_n hx hb (fh_d d_Mo_begin 34 rfl) rfl (lv_at hl 0 rfl) ?_
        refine fh_callS (cc' := c_Mo_sortOf) (nL' := 1) (rest := [.int 1, .ref x]) (av := [.int (hre (A 0) L a)]) X hR (m_Mo_sortOf l D ct b RO hR (r - 1) n (by omega) (hre (A 0) L a) _) w1116 w1114 w1115 w9 ⟨by decide, by decide, by show _ = some 1; decide +kernel⟩ (by omega) (by decide) hP hS hl.1 rfl (by exact Nat.le_of_ble_eq_true rfl) (fh_d d_Mo_begin 35 rfl) ⟨Nat.le_refl _, Nat.le_refl _⟩ (fun v9 h9 n9 H locs hq hP hS => ?_)
        obtain ⟨rfl, u8, u9⟩ := hq
        rw [u8, u9] at hP
        refine fh_callV (cc' := c_Mo_nucleus) (nL' := 5) (rest := []) (a := x) (As := [.int 1, .int (sorto (hre (A 0) L a))]) X hR (m_Mo_nucleus l D ct b RO hR (r - 1) (by omega) n x g A th (nI L) (nI a) wr pi wi he de 1 (sorto (hre (A 0) L a)) N O U (rz_u A O) (by omega) hO (by omega) (fun _ => hu0)) w1092 w1089 w1091 v43 w9 ⟨by decide, by decide, by show _ = some 2; decide +kernel⟩ (by omega) (by decide) (fh_recv hK hP mkM_o rfl) hP hS hl.1 rfl (by exact Nat.le_of_ble_eq_true rfl) (fh_d d_Mo_begin 36 rfl) ⟨Nat.le_refl _, Nat.le_refl _⟩ (fun v9 h9 n9 H locs hq hP hS => ?_)
        obtain ⟨rfl, u10, u11⟩ := hq
        rw [u10, u11] at hP
        refine lv_istore_n (lv' := [(2, .int (nI N)), (1, .int (hre (A 0) L a)), (0, .ref x)]) hx hb (fh_d d_Mo_begin 37 rfl) rfl hl (by decide) rfl (fun ls hl => ?_)
        refine lv_aload_n hx hb (fh_d d_Mo_begin 38 rfl) rfl (lv_at hl 2 rfl) ?_
        refine fh_get (own := "FormulaSetterModel") (ref := "FormulaSetterModel") (C := "FormulaSetterModel") (T := T_Mo) (N := 53) (v := .ref (x + 3)) hx hb hT i_Mo hown hK hP mkM_o rfl 8 (by decide) (hT _ w868) (fun _ h9 => h9) rfl (fh_d d_Mo_begin 39 rfl) ?_
        refine lv_iload_n hx hb (fh_d d_Mo_begin 40 rfl) rfl (lv_at hl 0 rfl) ?_
        refine lv_iload_n hx hb (fh_d d_Mo_begin 41 rfl) rfl (lv_at hl 1 rfl) ?_
        refine fn_iast (f := rz_N A N O 1 (sorto (hre (A 0) L a)) 2) (k := N) hx hb hK hP hS 0 mkM_a2 rfl (rfl) (by omega) (by decide) (fh_d d_Mo_begin 42 rfl) (fun H locs hP hS => ?_)
        replace hP := fh_P.eq (h' := mkM ct x g (up2 (rz_N A N O 1 (sorto (hre (A 0) L a))) 2 (upd (rz_N A N O 1 (sorto (hre (A 0) L a)) 2) N (hre (A 0) L a))) th (nI L) (nI a) (rz_W A O U wr) (nI (N + 1)) (nI (U + 1)) (nI O) pi wi he de) hP mkM_u2
        refine lv_aload_n hx hb (fh_d d_Mo_begin 43 rfl) rfl (lv_at hl 2 rfl) ?_
        refine lv_dup hx hb (fh_d d_Mo_begin 44 rfl) rfl ?_
        refine fh_get (own := "FormulaSetterModel") (ref := "FormulaSetterModel") (C := "FormulaSetterModel") (T := T_Mo) (N := 53) (v := .int (nI a)) hx hb hT i_Mo hown hK hP mkM_o rfl 3 (by decide) (hT _ w863) (fun _ h9 => h9) rfl (fh_d d_Mo_begin 45 rfl) ?_
        refine lv_iconst (v := 1) hx hb (fh_d d_Mo_begin 46 rfl) (by decide) ?_
        refine lv_iadd hx hb (fh_d d_Mo_begin 47 rfl) ?_
        refine fh_put (own := "FormulaSetterModel") (ref := "FormulaSetterModel") (C := "FormulaSetterModel") (T := T_Mo) (N := 53) (v := .int ((nI a) + 1)) (ty := .int) hx hb hT i_Mo t_Mo k_Mo n_Mo hown hK hP hS mkM_o rfl 3 (by decide) (hT _ w863) (fun _ h9 => h9) rfl (by decide +kernel) rfl rfl (Nat.le_of_ble_eq_true rfl) (fh_d d_Mo_begin 48 rfl) (fun H locs hP hS => ?_)
        replace hP := fh_P.eq (h' := mkM ct x g (up2 (rz_N A N O 1 (sorto (hre (A 0) L a))) 2 (upd (rz_N A N O 1 (sorto (hre (A 0) L a)) 2) N (hre (A 0) L a))) th (nI L) ((nI a) + 1) (rz_W A O U wr) (nI (N + 1)) (nI (U + 1)) (nI O) pi wi he de) hP mkM_ux
        refine lv_aload_n hx hb (fh_d d_Mo_begin 49 rfl) rfl (lv_at hl 2 rfl) ?_
        refine lv_iload_n hx hb (fh_d d_Mo_begin 50 rfl) rfl (lv_at hl 0 rfl) ?_
        refine fh_callV (cc' := c_Mo_deliver) (nL' := 6) (rest := []) (a := x) (As := [.int (nI N)]) X hR (m_Mo_deliver l D ct b RO (r - 1) n x g (up2 (rz_N A N O 1 (sorto (hre (A 0) L a))) 2 (upd (rz_N A N O 1 (sorto (hre (A 0) L a)) 2) N (hre (A 0) L a))) th (nI L) ((nI a) + 1) (rz_W A O U wr) (nI (N + 1)) (nI (U + 1)) pi wi he de O N (by omega) hO (by omega) ⟨hf.1, hf.2⟩) w1068 w1065 w1067 v38 w9 ⟨by decide, by decide, by show _ = some 1; decide +kernel⟩ (by omega) (by decide) (fh_recv hK hP mkM_o rfl) hP hS hl.1 rfl (by exact Nat.le_of_ble_eq_true rfl) (fh_d d_Mo_begin 51 rfl) ⟨Nat.le_refl _, Nat.le_refl _⟩ (fun v9 h9 n9 H locs hq hP hS => ?_)
        obtain ⟨rfl, u12, u13⟩ := hq
        rw [u12, u13] at hP
        refine lv_goto (tgt := 100) hx hb (fh_d d_Mo_begin 52 rfl) rfl ?_
        refine fh_vret X hP hS (fh_d d_Mo_begin 56 rfl) ⟨rfl, ?_, rfl⟩
        have q9 : rz_begin A L a wr N U O = rz_one A (a + 1) wr N U O 1 (sorto (hre (A 0) L a)) (hre (A 0) L a) := by unfold rz_begin; rw [if_neg c3, if_neg c4, if_pos (Int32.not_lt.mp c7)]
        rw [q9]
        unfold rz_one
        rw [nI_1 a]
        try rfl
    · refine lv_aload_n hx hb (fh_d d_Mo_begin 24 rfl) rfl (lv_at hl 1 rfl) ?_
      refine lv_aload_n hx hb (fh_d d_Mo_begin 25 rfl) rfl (lv_at hl 1 rfl) ?_
      refine fh_callV (cc' := c_Mo_nameHere) (nL' := 4) (rest := [.ref x]) (a := x) (As := []) X hR (m_Mo_nameHere l D ct b RO hR (r - 1) (by omega) n x g A th wr (nI N) (nI U) (nI O) pi wi he de L a hL (by omega)) w1076 w1073 w1075 v40 w9 ⟨by decide, by decide, by show _ = some 0; decide +kernel⟩ (by omega) (by decide) (fh_recv hK hP mkM_o rfl) hP hS hl.1 rfl (by exact Nat.le_of_ble_eq_true rfl) (fh_d d_Mo_begin 26 rfl) ⟨Nat.le_refl _, Nat.le_refl _⟩ (fun v9 h9 n9 H locs hq hP hS => ?_)
      obtain ⟨rfl, u14, u15⟩ := hq
      rw [u14, u15] at hP
      refine fh_callV (cc' := c_Mo_obey) (nL' := 4) (rest := []) (a := x) (As := [.long (nh (A 0) L a 1 0)]) X hR (m_Mo_obey l D ct b RO hR (r - 1) (by omega) n x g A th wr pi wi he de (nh (A 0) L a 1 0) L a N U O hL ha hN hO hO2 hf) w1100 w1097 w1099 v45 w9 ⟨by decide, by decide, by show _ = some 1; decide +kernel⟩ (by omega) (by decide) (fh_recv hK hP mkM_o rfl) hP hS hl.1 rfl (by exact Nat.le_of_ble_eq_true rfl) (fh_d d_Mo_begin 27 rfl) ⟨Nat.le_refl _, Nat.le_refl _⟩ (fun v9 h9 n9 H locs hq hP hS => ?_)
      obtain ⟨rfl, u16, u17⟩ := hq
      rw [u16, u17] at hP
      refine lv_goto (tgt := 100) hx hb (fh_d d_Mo_begin 28 rfl) rfl ?_
      refine fh_vret X hP hS (fh_d d_Mo_begin 56 rfl) ⟨rfl, ?_, rfl⟩
      have q9 : rz_begin A L a wr N U O = rz_obey A L a wr N U O (nh (A 0) L a 1 0) := by unfold rz_begin; rw [if_neg c3, if_pos c4]
      rw [q9]
      try rfl
  · refine lv_aload_n hx hb (fh_d d_Mo_begin 7 rfl) rfl (lv_at hl 1 rfl) ?_
    refine lv_dup hx hb (fh_d d_Mo_begin 8 rfl) rfl ?_
    refine fh_get (own := "FormulaSetterModel") (ref := "FormulaSetterModel") (C := "FormulaSetterModel") (T := T_Mo) (N := 53) (v := .int (nI a)) hx hb hT i_Mo hown hK hP mkM_o rfl 3 (by decide) (hT _ w863) (fun _ h9 => h9) rfl (fh_d d_Mo_begin 9 rfl) ?_
    refine lv_iconst (v := 1) hx hb (fh_d d_Mo_begin 10 rfl) (by decide) ?_
    refine lv_iadd hx hb (fh_d d_Mo_begin 11 rfl) ?_
    refine fh_put (own := "FormulaSetterModel") (ref := "FormulaSetterModel") (C := "FormulaSetterModel") (T := T_Mo) (N := 53) (v := .int ((nI a) + 1)) (ty := .int) hx hb hT i_Mo t_Mo k_Mo n_Mo hown hK hP hS mkM_o rfl 3 (by decide) (hT _ w863) (fun _ h9 => h9) rfl (by decide +kernel) rfl rfl (Nat.le_of_ble_eq_true rfl) (fh_d d_Mo_begin 12 rfl) (fun H locs hP hS => ?_)
    replace hP := fh_P.eq (h' := mkM ct x g A th (nI L) ((nI a) + 1) wr (nI N) (nI U) (nI O) pi wi he de) hP mkM_ux
    refine lv_aload_n hx hb (fh_d d_Mo_begin 13 rfl) rfl (lv_at hl 1 rfl) ?_
    refine lv_aload_n hx hb (fh_d d_Mo_begin 14 rfl) rfl (lv_at hl 1 rfl) ?_
    refine lv_iconst (v := 3) hx hb (fh_d d_Mo_begin 15 rfl) (by decide) ?_
    refine lv_iconst (v := 0) hx hb (fh_d d_Mo_begin 16 rfl) (by decide) ?_
    refine fh_callV (cc' := c_Mo_nucleus) (nL' := 5) (rest := [.ref x]) (a := x) (As := [.int 3, .int 0]) X hR (m_Mo_nucleus l D ct b RO hR (r - 1) (by omega) n x g A th (nI L) ((nI a) + 1) wr pi wi he de 3 0 N O U (rz_u A O) (by omega) hO (by omega) (fun _ => hu0)) w1092 w1089 w1091 v43 w9 ⟨by decide, by decide, by show _ = some 2; decide +kernel⟩ (by omega) (by decide) (fh_recv hK hP mkM_o rfl) hP hS hl.1 rfl (by exact Nat.le_of_ble_eq_true rfl) (fh_d d_Mo_begin 17 rfl) ⟨Nat.le_refl _, Nat.le_refl _⟩ (fun v9 h9 n9 H locs hq hP hS => ?_)
    obtain ⟨rfl, u18, u19⟩ := hq
    rw [u18, u19] at hP
    refine lv_iconst (v := 1) hx hb (fh_d d_Mo_begin 18 rfl) (by decide) ?_
    refine fh_callV (cc' := c_Mo_inside) (nL' := 4) (rest := []) (a := x) (As := [.int (nI N), .int 1]) X hR (m_Mo_inside l D ct b RO hR (r - 1) (by omega) n x g (rz_N A N O 3 0) th (nI L) ((nI a) + 1) (rz_W A O U wr) (nI (U + 1)) pi wi he de 1 (N + 1) O N (by omega) (by omega) (by omega)) w1096 w1093 w1095 v44 w9 ⟨by decide, by decide, by show _ = some 2; decide +kernel⟩ (by omega) (by decide) (fh_recv hK hP mkM_o rfl) hP hS hl.1 rfl (by exact Nat.le_of_ble_eq_true rfl) (fh_d d_Mo_begin 19 rfl) ⟨Nat.le_refl _, Nat.le_refl _⟩ (fun v9 h9 n9 H locs hq hP hS => ?_)
    obtain ⟨rfl, u20, u21⟩ := hq
    rw [u20, u21] at hP
    refine lv_goto (tgt := 100) hx hb (fh_d d_Mo_begin 20 rfl) rfl ?_
    refine fh_vret X hP hS (fh_d d_Mo_begin 56 rfl) ⟨rfl, ?_, rfl⟩
    have q9 : rz_begin A L a wr N U O = (rf_ins (rz_N A N O 3 0) (N + 1) O N 1, a + 1, rz_W A O U wr, N + 2, U + 1, O + 1) := by unfold rz_begin; rw [if_pos c3]
    rw [q9]
    rw [nI_1]
    try rfl
