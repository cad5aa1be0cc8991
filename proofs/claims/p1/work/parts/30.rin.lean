/-! The reference: inList. Printed by wip/whole/gen/p30.py -/
abbrev rz_q (A : Nat → Nat → Int32) (O : Nat) : Nat := ixI (A 18 (O - 1))
abbrev rz_cl (A : Nat → Nat → Int32) (O : Nat) : Int32 := if A 16 (O - 1) = 3 then 0 else 1
abbrev rz_sw (A : Nat → Nat → Int32) (O : Nat) (c : Int32) : Int32 := if A 19 (O - 1) = 0 ∨ 0 < (if c = 94 then A 12 (ixI (A 19 (O - 1))) else A 13 (ixI (A 19 (O - 1)))) then 1 else 0
def rz_script (A : Nat → Nat → Int32) (a : Nat) (N U O : Nat) (c : Int32) : RS := (rf_push A O (if c = 94 then 6 else 7) (A 19 (O - 1)) 0, a + 1, rz_sw A O c, N, U, O + 1)
def rz_close (A : Nat → Nat → Int32) (a : Nat) (N U O : Nat) : RS := if A 16 (O - 1) = 1 ∨ A 16 (O - 1) = 3 then ((rf_del (O - 1) A (rz_u A O)).1, a + 1, 0, N, U, (rf_del (O - 1) A (rz_u A O)).2) else (A, a + 1, 1, N, U, O - 1)
def rz_amp (A : Nat → Nat → Int32) (a : Nat) (N U O : Nat) : RS := (rf_cell A N O (rz_q A O) (A 8 (rz_q A O)) (A 9 (rz_q A O) + 1), a + 1, rf_cw (rz_cl A O) (A 8 (rz_q A O)) (A 9 (rz_q A O) + 1), N + 1, U, O)
def rz_row (A : Nat → Nat → Int32) (a : Nat) (N U O : Nat) : RS := (rf_cell A N O (rz_q A O) (A 8 (rz_q A O) + 1) 0, a + 2, rf_cw (rz_cl A O) (A 8 (rz_q A O) + 1) 0, N + 1, U, O)
abbrev rz_rA (A : Nat → Nat → Int32) (L a O : Nat) : Nat → Nat → Int32 := up2 A 3 (upd (A 3) (rz_u A O) (rz_sd A L (a + 6)))
def rz_right (A : Nat → Nat → Int32) (L a : Nat) (N U O : Nat) : RS := if A 16 (O - 1) = 2 ∧ ¬ rz_sd A L (a + 6) < 0 then ((rf_del (O - 1) (rz_rA A L a O) (rz_u A O)).1, sk (A 0) L (a + 6) + 1, 0, N, U, (rf_del (O - 1) (rz_rA A L a O) (rz_u A O)).2) else (rz_rA A L a O, sk (A 0) L (a + 6) + 1, 1, N, U, O - 1)
/-- what ends or goes on in a list; none: an item begins -/
def rz_in (A : Nat → Nat → Int32) (L a : Nat) (N U O : Nat) : Option RS :=
  if hre (A 0) L a = 94 ∨ hre (A 0) L a = 95 then some (rz_script A a N U O (hre (A 0) L a))
  else if hre (A 0) L a = 125 then some (rz_close A a N U O)
  else if hre (A 0) L a = 38 then some (rz_amp A a N U O)
  else if hre (A 0) L a = 92 ∧ hre (A 0) L (a + 1) = 92 then some (rz_row A a N U O)
  else if hre (A 0) L a = 92 ∧ nh (A 0) L a 1 0 = 491394656372 then some (rz_right A L a N U O)
  else none
set_option maxHeartbeats 4000000 in
set_option maxRecDepth 100000 in
theorem m_Mo_inList (l : Launch) (D : va_G) (ct : Nat → ClassId) (b : Nat) (RO : State → Prop) (hR : fh_R b RO) (r : Nat) (hr : 4 ≤ r) (n x : Nat) (g : fh_H) (A : Nat → Nat → Int32) (th wr pi wi he de : Int32) (L a N U O : Nat) (hL : L ≤ 160) (ha : a ≤ 300) (hN : N + 1 < 400) (hO : 1 ≤ O) (hO2 : O < 40) (hf : okf A O) (h00 : A 16 0 = 0) : fh_C l D fh_cl (fh_tys ct) b RO y_Mo_inList (Cond.code y_Mo_inList c_Mo_inList 5 (Option.some FieldType.boolean) :: fh_T) (fh_rm r 0 0) [.ref x] (mkM ct x g A th (nI L) (nI a) wr (nI N) (nI U) (nI O) pi wi he de) n (fun v h' n' => n' = n ∧ ((∃ z, rz_in A L a N U O = some z ∧ v = some (.int 1) ∧ h' = mkS ct x g th L z pi wi he de) ∨ (rz_in A L a N U O = none ∧ v = some (.int 0) ∧ h' = mkM ct x g A th (nI L) (nI a) wr (nI N) (nI U) (nI O) pi wi he de))) 0 0 := by
  refine fh_enter (by decide) (Nat.le_of_ble_eq_true rfl) [(0, .ref x)] rfl ?_
  intro p e s m args below meth c H ls X hP hS hl
  have hx := X.1
  have hb := X.2.1
  have hml := X.2.2.1
  have hown : s.vm.findClass "FormulaSetterModel" = some m.cls := X.2.2.2.1
  have hT := X.2.2.2.2.1
  have hK := X.2.2.2.2.2.1
  have hRO := X.2.2.2.2.2.2.1
  have hnm : meth.name = "inList" := X.2.2.2.2.2.2.2.2.2.2
  obtain ⟨⟨g1, g2⟩, ⟨g3, g4⟩, ⟨g5, g6⟩⟩ := hf.1 (O - 1) (by omega)
  have J : ∀ (v : Int32) (hv : (v = 1 ∧ A 16 (O - 1) = 3) ∨ (v = 0 ∧ ¬ A 16 (O - 1) = 3)) (H : Heap) (locs : List Loc) (ls : Array Slot), fh_P D fh_cl b (mkM ct x g A th (nI L) (nI a) wr (nI N) (nI U) (nI O) pi wi he de) n H → va_S (fh_A b) s.heap H locs → lv_has ls 5 [(3, .int v), (2, .int (hre (A 0) L a)), (1, .int ((nI O) - 1)), (0, .ref x)] → W p l e (fh_rm r 0 0) s m args below meth c H locs 0 0 (MQ below (fh_Post D fh_cl b (fun v h' n' => n' = n ∧ ((∃ z, rz_in A L a N U O = some z ∧ v = some (.int 1) ∧ h' = mkS ct x g th L z pi wi he de) ∨ (rz_in A L a N U O = none ∧ v = some (.int 0) ∧ h' = mkM ct x g A th (nI L) (nI a) wr (nI N) (nI U) (nI O) pi wi he de)))) args s 0 0 (fh_A b)) (F0 m 29 ls []) := by
    intro v hv H locs ls hP hS hl
    refine lv_iload_n hx hb (fh_d d_Mo_inList 19 rfl) rfl (lv_at hl 1 rfl) ?_
    refine lv_bipush (v := 94) hx hb (fh_d d_Mo_inList 20 rfl) (by decide) ?_
    refine lv_icmp_eq (tgt := 41) hx hb (fh_d d_Mo_inList 21 rfl) rfl (fun c1 => ?_) (fun c1 => ?_)
    · have qc : hre (A 0) L a = 94 := c1
      have qz : rz_in A L a N U O = some (rz_script A a N U O (hre (A 0) L a)) := if_pos (Or.inl qc)
      refine lv_aload_n hx hb (fh_d d_Mo_inList 25 rfl) rfl (lv_at hl 3 rfl) ?_
      refine fh_get (own := "FormulaSetterModel") (ref := "FormulaSetterModel") (C := "FormulaSetterModel") (T := T_Mo) (N := 53) (v := .ref (x + 20)) hx hb hT i_Mo hown hK hP mkM_o rfl 26 (by decide) (hT _ w886) (fun _ h9 => h9) rfl (fh_d d_Mo_inList 26 rfl) ?_
      refine lv_iload_n hx hb (fh_d d_Mo_inList 27 rfl) rfl (lv_at hl 2 rfl) ?_
      refine fn_iald (f := A 19) (k := O - 1) hx hb hK hP 0 mkM_a19 rfl (nI_m1 hO) (by omega) (by decide) (fh_d d_Mo_inList 28 rfl) ?_
      refine lv_istore (lv' := [(4, .int ((A 19) (O - 1))), (3, .int v), (2, .int (hre (A 0) L a)), (1, .int ((nI O) - 1)), (0, .ref x)]) hx hb (fh_d d_Mo_inList 29 rfl) hl (by decide) rfl (fun ls hl => ?_)
      refine lv_aload_n hx hb (fh_d d_Mo_inList 30 rfl) rfl (lv_at hl 4 rfl) ?_
      refine lv_iload hx hb (fh_d d_Mo_inList 31 rfl) (lv_at hl 0 rfl) ?_
      refine lv_if_eq (tgt := 81) hx hb (fh_d d_Mo_inList 32 rfl) rfl (fun c2 => ?_) (fun c2 => ?_)
      · refine lv_iconst (v := 1) hx hb (fh_d d_Mo_inList 46 rfl) (by decide) ?_
        refine lv_goto (tgt := 86) hx hb (fh_d d_Mo_inList 47 rfl) rfl ?_
        have qi : (if hre (A 0) L a = 94 then A 12 (ixI (A 19 (O - 1))) else A 13 (ixI (A 19 (O - 1)))) = A 12 (ixI (A 19 (O - 1))) := if_pos qc
        have qw : rz_sw A O (hre (A 0) L a) = 1 := if_pos (Or.inl c2)
        refine fh_put (own := "FormulaSetterModel") (ref := "FormulaSetterModel") (C := "FormulaSetterModel") (T := T_Mo) (N := 53) (v := .int 1) (ty := .boolean) hx hb hT i_Mo t_Mo k_Mo n_Mo hown hK hP hS mkM_o rfl 4 (by decide) (hT _ w864) (fun _ h9 => h9) rfl (by decide +kernel) rfl rfl (Nat.le_of_ble_eq_true rfl) (fh_d d_Mo_inList 49 rfl) (fun H locs hP hS => ?_)
        replace hP := fh_P.eq (h' := mkM ct x g A th (nI L) (nI a) 1 (nI N) (nI U) (nI O) pi wi he de) hP mkM_ux
        refine lv_aload_n hx hb (fh_d d_Mo_inList 50 rfl) rfl (lv_at hl 4 rfl) ?_
        refine lv_dup hx hb (fh_d d_Mo_inList 51 rfl) rfl ?_
        refine fh_get (own := "FormulaSetterModel") (ref := "FormulaSetterModel") (C := "FormulaSetterModel") (T := T_Mo) (N := 53) (v := .int (nI a)) hx hb hT i_Mo hown hK hP mkM_o rfl 3 (by decide) (hT _ w863) (fun _ h9 => h9) rfl (fh_d d_Mo_inList 52 rfl) ?_
        refine lv_iconst (v := 1) hx hb (fh_d d_Mo_inList 53 rfl) (by decide) ?_
        refine lv_iadd hx hb (fh_d d_Mo_inList 54 rfl) ?_
        refine fh_put (own := "FormulaSetterModel") (ref := "FormulaSetterModel") (C := "FormulaSetterModel") (T := T_Mo) (N := 53) (v := .int ((nI a) + 1)) (ty := .int) hx hb hT i_Mo t_Mo k_Mo n_Mo hown hK hP hS mkM_o rfl 3 (by decide) (hT _ w863) (fun _ h9 => h9) rfl (by decide +kernel) rfl rfl (Nat.le_of_ble_eq_true rfl) (fh_d d_Mo_inList 55 rfl) (fun H locs hP hS => ?_)
        replace hP := fh_P.eq (h' := mkM ct x g A th (nI L) ((nI a) + 1) 1 (nI N) (nI U) (nI O) pi wi he de) hP mkM_ux
        refine lv_aload_n hx hb (fh_d d_Mo_inList 56 rfl) rfl (lv_at hl 4 rfl) ?_
        refine lv_iload_n hx hb (fh_d d_Mo_inList 57 rfl) rfl (lv_at hl 2 rfl) ?_
        refine lv_bipush (v := 94) hx hb (fh_d d_Mo_inList 58 rfl) (by decide) ?_
        refine lv_icmp_ne (tgt := 111) hx hb (fh_d d_Mo_inList 59 rfl) rfl (fun c3 => absurd c3 (Classical.not_not.mpr qc)) (fun c3 => ?_)
        refine lv_bipush (v := 6) hx hb (fh_d d_Mo_inList 60 rfl) (by decide) ?_
        refine lv_goto (tgt := 113) hx hb (fh_d d_Mo_inList 61 rfl) rfl ?_
        refine lv_iload hx hb (fh_d d_Mo_inList 63 rfl) (lv_at hl 0 rfl) ?_
        refine lv_iconst (v := 0) hx hb (fh_d d_Mo_inList 64 rfl) (by decide) ?_
        refine fh_callV (cc' := c_Mo_push) (nL' := 4) (rest := []) (a := x) (As := [.int 6, .int ((A 19) (O - 1)), .int 0]) X hR (m_Mo_push l D ct b RO (r - 1) n x g A th (nI L) ((nI a) + 1) 1 (nI N) (nI U) pi wi he de 6 ((A 19) (O - 1)) 0 (O) (by omega)) w1052 w1049 w1051 v34 w9 ⟨by decide, by decide, by show _ = some 3; decide +kernel⟩ (by omega) (by decide) (fh_recv hK hP mkM_o rfl) hP hS hl.1 rfl (by exact Nat.le_of_ble_eq_true rfl) (fh_d d_Mo_inList 65 rfl) ⟨Nat.le_refl _, Nat.le_refl _⟩ (fun v9 h9 n9 H locs hq hP hS => ?_)
        obtain ⟨rfl, u4, u5⟩ := hq
        rw [u4, u5] at hP
        refine lv_goto (tgt := 435) hx hb (fh_d d_Mo_inList 66 rfl) rfl ?_
        refine lv_iconst (v := 1) hx hb (fh_d d_Mo_inList 242 rfl) (by decide) ?_
        refine fh_zret X hP hS (fh_d d_Mo_inList 243 rfl) (by decide) ⟨rfl, Or.inl ⟨_, qz, rfl, ?_⟩⟩
        unfold rz_script
        rw [qw, if_pos qc, nI_1 a]
        try rfl
      · refine lv_iload_n hx hb (fh_d d_Mo_inList 33 rfl) rfl (lv_at hl 2 rfl) ?_
        refine lv_bipush (v := 94) hx hb (fh_d d_Mo_inList 34 rfl) (by decide) ?_
        refine lv_icmp_ne (tgt := 71) hx hb (fh_d d_Mo_inList 35 rfl) rfl (fun c6 => absurd c6 (Classical.not_not.mpr qc)) (fun c6 => ?_)
        refine lv_aload_n hx hb (fh_d d_Mo_inList 36 rfl) rfl (lv_at hl 4 rfl) ?_
        refine fh_get (own := "FormulaSetterModel") (ref := "FormulaSetterModel") (C := "FormulaSetterModel") (T := T_Mo) (N := 53) (v := .ref (x + 13)) hx hb hT i_Mo hown hK hP mkM_o rfl 18 (by decide) (hT _ w878) (fun _ h9 => h9) rfl (fh_d d_Mo_inList 37 rfl) ?_
        refine lv_iload hx hb (fh_d d_Mo_inList 38 rfl) (lv_at hl 0 rfl) ?_
        refine fn_iald (f := A 12) (k := ixI (A 19 (O - 1))) hx hb hK hP 0 mkM_a12 rfl (g5) (g6) (by decide) (fh_d d_Mo_inList 39 rfl) ?_
        refine lv_goto (tgt := 78) hx hb (fh_d d_Mo_inList 40 rfl) rfl ?_
        refine lv_if_le (tgt := 85) hx hb (fh_d d_Mo_inList 45 rfl) rfl (fun c7 => ?_) (fun c7 => ?_)
        · refine lv_iconst (v := 0) hx hb (fh_d d_Mo_inList 48 rfl) (by decide) ?_
          have qi : (if hre (A 0) L a = 94 then A 12 (ixI (A 19 (O - 1))) else A 13 (ixI (A 19 (O - 1)))) = A 12 (ixI (A 19 (O - 1))) := if_pos qc
          have qw : rz_sw A O (hre (A 0) L a) = 0 := if_neg (fun z => z.elim c2 (fun z2 => by rw [qi] at z2; exact absurd c7 (Int32.not_le.mpr z2)))
          refine fh_put (own := "FormulaSetterModel") (ref := "FormulaSetterModel") (C := "FormulaSetterModel") (T := T_Mo) (N := 53) (v := .int 0) (ty := .boolean) hx hb hT i_Mo t_Mo k_Mo n_Mo hown hK hP hS mkM_o rfl 4 (by decide) (hT _ w864) (fun _ h9 => h9) rfl (by decide +kernel) rfl rfl (Nat.le_of_ble_eq_true rfl) (fh_d d_Mo_inList 49 rfl) (fun H locs hP hS => ?_)
          replace hP := fh_P.eq (h' := mkM ct x g A th (nI L) (nI a) 0 (nI N) (nI U) (nI O) pi wi he de) hP mkM_ux
          refine lv_aload_n hx hb (fh_d d_Mo_inList 50 rfl) rfl (lv_at hl 4 rfl) ?_
          refine lv_dup hx hb (fh_d d_Mo_inList 51 rfl) rfl ?_
          refine fh_get (own := "FormulaSetterModel") (ref := "FormulaSetterModel") (C := "FormulaSetterModel") (T := T_Mo) (N := 53) (v := .int (nI a)) hx hb hT i_Mo hown hK hP mkM_o rfl 3 (by decide) (hT _ w863) (fun _ h9 => h9) rfl (fh_d d_Mo_inList 52 rfl) ?_
          refine lv_iconst (v := 1) hx hb (fh_d d_Mo_inList 53 rfl) (by decide) ?_
          refine lv_iadd hx hb (fh_d d_Mo_inList 54 rfl) ?_
          refine fh_put (own := "FormulaSetterModel") (ref := "FormulaSetterModel") (C := "FormulaSetterModel") (T := T_Mo) (N := 53) (v := .int ((nI a) + 1)) (ty := .int) hx hb hT i_Mo t_Mo k_Mo n_Mo hown hK hP hS mkM_o rfl 3 (by decide) (hT _ w863) (fun _ h9 => h9) rfl (by decide +kernel) rfl rfl (Nat.le_of_ble_eq_true rfl) (fh_d d_Mo_inList 55 rfl) (fun H locs hP hS => ?_)
          replace hP := fh_P.eq (h' := mkM ct x g A th (nI L) ((nI a) + 1) 0 (nI N) (nI U) (nI O) pi wi he de) hP mkM_ux
          refine lv_aload_n hx hb (fh_d d_Mo_inList 56 rfl) rfl (lv_at hl 4 rfl) ?_
          refine lv_iload_n hx hb (fh_d d_Mo_inList 57 rfl) rfl (lv_at hl 2 rfl) ?_
          refine lv_bipush (v := 94) hx hb (fh_d d_Mo_inList 58 rfl) (by decide) ?_
          refine lv_icmp_ne (tgt := 111) hx hb (fh_d d_Mo_inList 59 rfl) rfl (fun c8 => absurd c8 (Classical.not_not.mpr qc)) (fun c8 => ?_)
          refine lv_bipush (v := 6) hx hb (fh_d d_Mo_inList 60 rfl) (by decide) ?_
          refine lv_goto (tgt := 113) hx hb (fh_d d_Mo_inList 61 rfl) rfl ?_
          refine lv_iload hx hb (fh_d d_Mo_inList 63 rfl) (lv_at hl 0 rfl) ?_
          refine lv_iconst (v := 0) hx hb (fh_d d_Mo_inList 64 rfl) (by decide) ?_
          refine fh_callV (cc' := c_Mo_push) (nL' := 4) (rest := []) (a := x) (As := [.int 6, .int ((A 19) (O - 1)), .int 0]) X hR (m_Mo_push l D ct b RO (r - 1) n x g A th (nI L) ((nI a) + 1) 0 (nI N) (nI U) pi wi he de 6 ((A 19) (O - 1)) 0 (O) (by omega)) w1052 w1049 w1051 v34 w9 ⟨by decide, by decide, by show _ = some 3; decide +kernel⟩ (by omega) (by decide) (fh_recv hK hP mkM_o rfl) hP hS hl.1 rfl (by exact Nat.le_of_ble_eq_true rfl) (fh_d d_Mo_inList 65 rfl) ⟨Nat.le_refl _, Nat.le_refl _⟩ (fun v9 h9 n9 H locs hq hP hS => ?_)
          obtain ⟨rfl, u9, u10⟩ := hq
          rw [u9, u10] at hP
          refine lv_goto (tgt := 435) hx hb (fh_d d_Mo_inList 66 rfl) rfl ?_
          refine lv_iconst (v := 1) hx hb (fh_d d_Mo_inList 242 rfl) (by decide) ?_
          refine fh_zret X hP hS (fh_d d_Mo_inList 243 rfl) (by decide) ⟨rfl, Or.inl ⟨_, qz, rfl, ?_⟩⟩
          unfold rz_script
          rw [qw, if_pos qc, nI_1 a]
          try rfl
        · refine lv_iconst (v := 1) hx hb (fh_d d_Mo_inList 46 rfl) (by decide) ?_
          refine lv_goto (tgt := 86) hx hb (fh_d d_Mo_inList 47 rfl) rfl ?_
          have qi : (if hre (A 0) L a = 94 then A 12 (ixI (A 19 (O - 1))) else A 13 (ixI (A 19 (O - 1)))) = A 12 (ixI (A 19 (O - 1))) := if_pos qc
          have qw : rz_sw A O (hre (A 0) L a) = 1 := if_pos (Or.inr (by rw [qi]; exact Int32.not_le.mp c7))
          refine fh_put (own := "FormulaSetterModel") (ref := "FormulaSetterModel") (C := "FormulaSetterModel") (T := T_Mo) (N := 53) (v := .int 1) (ty := .boolean) hx hb hT i_Mo t_Mo k_Mo n_Mo hown hK hP hS mkM_o rfl 4 (by decide) (hT _ w864) (fun _ h9 => h9) rfl (by decide +kernel) rfl rfl (Nat.le_of_ble_eq_true rfl) (fh_d d_Mo_inList 49 rfl) (fun H locs hP hS => ?_)
          replace hP := fh_P.eq (h' := mkM ct x g A th (nI L) (nI a) 1 (nI N) (nI U) (nI O) pi wi he de) hP mkM_ux
          refine lv_aload_n hx hb (fh_d d_Mo_inList 50 rfl) rfl (lv_at hl 4 rfl) ?_
          refine lv_dup hx hb (fh_d d_Mo_inList 51 rfl) rfl ?_
          refine fh_get (own := "FormulaSetterModel") (ref := "FormulaSetterModel") (C := "FormulaSetterModel") (T := T_Mo) (N := 53) (v := .int (nI a)) hx hb hT i_Mo hown hK hP mkM_o rfl 3 (by decide) (hT _ w863) (fun _ h9 => h9) rfl (fh_d d_Mo_inList 52 rfl) ?_
          refine lv_iconst (v := 1) hx hb (fh_d d_Mo_inList 53 rfl) (by decide) ?_
          refine lv_iadd hx hb (fh_d d_Mo_inList 54 rfl) ?_
          refine fh_put (own := "FormulaSetterModel") (ref := "FormulaSetterModel") (C := "FormulaSetterModel") (T := T_Mo) (N := 53) (v := .int ((nI a) + 1)) (ty := .int) hx hb hT i_Mo t_Mo k_Mo n_Mo hown hK hP hS mkM_o rfl 3 (by decide) (hT _ w863) (fun _ h9 => h9) rfl (by decide +kernel) rfl rfl (Nat.le_of_ble_eq_true rfl) (fh_d d_Mo_inList 55 rfl) (fun H locs hP hS => ?_)
          replace hP := fh_P.eq (h' := mkM ct x g A th (nI L) ((nI a) + 1) 1 (nI N) (nI U) (nI O) pi wi he de) hP mkM_ux
          refine lv_aload_n hx hb (fh_d d_Mo_inList 56 rfl) rfl (lv_at hl 4 rfl) ?_
          refine lv_iload_n hx hb (fh_d d_Mo_inList 57 rfl) rfl (lv_at hl 2 rfl) ?_
          refine lv_bipush (v := 94) hx hb (fh_d d_Mo_inList 58 rfl) (by decide) ?_
          refine lv_icmp_ne (tgt := 111) hx hb (fh_d d_Mo_inList 59 rfl) rfl (fun c11 => absurd c11 (Classical.not_not.mpr qc)) (fun c11 => ?_)
          refine lv_bipush (v := 6) hx hb (fh_d d_Mo_inList 60 rfl) (by decide) ?_
          refine lv_goto (tgt := 113) hx hb (fh_d d_Mo_inList 61 rfl) rfl ?_
          refine lv_iload hx hb (fh_d d_Mo_inList 63 rfl) (lv_at hl 0 rfl) ?_
          refine lv_iconst (v := 0) hx hb (fh_d d_Mo_inList 64 rfl) (by decide) ?_
          refine fh_callV (cc' := c_Mo_push) (nL' := 4) (rest := []) (a := x) (As := [.int 6, .int ((A 19) (O - 1)), .int 0]) X hR (m_Mo_push l D ct b RO (r - 1) n x g A th (nI L) ((nI a) + 1) 1 (nI N) (nI U) pi wi he de 6 ((A 19) (O - 1)) 0 (O) (by omega)) w1052 w1049 w1051 v34 w9 ⟨by decide, by decide, by show _ = some 3; decide +kernel⟩ (by omega) (by decide) (fh_recv hK hP mkM_o rfl) hP hS hl.1 rfl (by exact Nat.le_of_ble_eq_true rfl) (fh_d d_Mo_inList 65 rfl) ⟨Nat.le_refl _, Nat.le_refl _⟩ (fun v9 h9 n9 H locs hq hP hS => ?_)
          obtain ⟨rfl, u12, u13⟩ := hq
          rw [u12, u13] at hP
          refine lv_goto (tgt := 435) hx hb (fh_d d_Mo_inList 66 rfl) rfl ?_
          refine lv_iconst (v := 1) hx hb (fh_d d_Mo_inList 242 rfl) (by decide) ?_
          refine fh_zret X hP hS (fh_d d_Mo_inList 243 rfl) (by decide) ⟨rfl, Or.inl ⟨_, qz, rfl, ?_⟩⟩
          unfold rz_script
          rw [qw, if_pos qc, nI_1 a]
          try rfl
    · refine lv_iload_n hx hb (fh_d d_Mo_inList 22 rfl) rfl (lv_at hl 1 rfl) ?_
      refine lv_bipush (v := 95) hx hb (fh_d d_Mo_inList 23 rfl) (by decide) ?_
      refine lv_icmp_ne (tgt := 122) hx hb (fh_d d_Mo_inList 24 rfl) rfl (fun c14 => ?_) (fun c14 => ?_)
      · refine lv_iload_n hx hb (fh_d d_Mo_inList 67 rfl) rfl (lv_at hl 1 rfl) ?_
        refine lv_bipush (v := 125) hx hb (fh_d d_Mo_inList 68 rfl) (by decide) ?_
        refine lv_icmp_ne (tgt := 191) hx hb (fh_d d_Mo_inList 69 rfl) rfl (fun c15 => ?_) (fun c15 => ?_)
        · refine lv_iload_n hx hb (fh_d d_Mo_inList 105 rfl) rfl (lv_at hl 1 rfl) ?_
          refine lv_bipush (v := 38) hx hb (fh_d d_Mo_inList 106 rfl) (by decide) ?_
          refine lv_icmp_ne (tgt := 251) hx hb (fh_d d_Mo_inList 107 rfl) rfl (fun c16 => ?_) (fun c16 => ?_)
          · refine lv_iload_n hx hb (fh_d d_Mo_inList 140 rfl) rfl (lv_at hl 1 rfl) ?_
            refine lv_bipush (v := 92) hx hb (fh_d d_Mo_inList 141 rfl) (by decide) ?_
            refine lv_icmp_ne (tgt := 311) hx hb (fh_d d_Mo_inList 142 rfl) rfl (fun c17 => ?_) (fun c17 => ?_)
            · have qr : ¬ (hre (A 0) L a = 92 ∧ hre (A 0) L (a + 1) = 92) := fun z => c17 z.1
              refine lv_iload_n hx hb (fh_d d_Mo_inList 174 rfl) rfl (lv_at hl 1 rfl) ?_
              refine lv_bipush (v := 92) hx hb (fh_d d_Mo_inList 175 rfl) (by decide) ?_
              refine lv_icmp_ne (tgt := 433) hx hb (fh_d d_Mo_inList 176 rfl) rfl (fun c18 => ?_) (fun c18 => ?_)
              · have q5 : ¬ (hre (A 0) L a = 92 ∧ nh (A 0) L a 1 0 = 491394656372) := fun z => c18 z.1
                have qz : rz_in A L a N U O = none := (((((if_neg (fun z => z.elim c1 c14))).trans (if_neg c15)).trans (if_neg c16)).trans (if_neg qr)).trans (if_neg q5)
                refine lv_iconst (v := 0) hx hb (fh_d d_Mo_inList 240 rfl) (by decide) ?_
                exact fh_zret X hP hS (fh_d d_Mo_inList 241 rfl) (by decide) ⟨rfl, Or.inr ⟨qz, rfl, rfl⟩⟩
              · refine lv_aload_n hx hb (fh_d d_Mo_inList 177 rfl) rfl (lv_at hl 3 rfl) ?_
                refine fh_callV (cc' := c_Mo_nameHere) (nL' := 4) (rest := []) (a := x) (As := []) X hR (m_Mo_nameHere l D ct b RO hR (r - 1) (by omega) n x g A th wr (nI N) (nI U) (nI O) pi wi he de L a hL (by omega)) w1076 w1073 w1075 v40 w9 ⟨by decide, by decide, by show _ = some 0; decide +kernel⟩ (by omega) (by decide) (fh_recv hK hP mkM_o rfl) hP hS hl.1 rfl (by exact Nat.le_of_ble_eq_true rfl) (fh_d d_Mo_inList 178 rfl) ⟨Nat.le_refl _, Nat.le_refl _⟩ (fun v9 h9 n9 H locs hq hP hS => ?_)
                obtain ⟨rfl, u19, u20⟩ := hq
                rw [u19, u20] at hP
                refine lv_ldc2 (v := 491394656372) hx hb hown (hT _ w1080) (fh_d d_Mo_inList 179 rfl) ?_
                refine W.lcmp hx hb (fh_d d_Mo_inList 180 rfl) ?_
                refine lv_if_ne (tgt := 433) hx hb (fh_d d_Mo_inList 181 rfl) rfl (fun c21 => ?_) (fun c21 => ?_)
                · have q5 : ¬ (hre (A 0) L a = 92 ∧ nh (A 0) L a 1 0 = 491394656372) := fun z => c21 ((lg_cmp_eq _ _).mpr z.2)
                  have qz : rz_in A L a N U O = none := (((((if_neg (fun z => z.elim c1 c14))).trans (if_neg c15)).trans (if_neg c16)).trans (if_neg qr)).trans (if_neg q5)
                  refine lv_iconst (v := 0) hx hb (fh_d d_Mo_inList 240 rfl) (by decide) ?_
                  exact fh_zret X hP hS (fh_d d_Mo_inList 241 rfl) (by decide) ⟨rfl, Or.inr ⟨qz, rfl, rfl⟩⟩
                · have qz : rz_in A L a N U O = some (rz_right A L a N U O) := (((((if_neg (fun z => z.elim c1 c14))).trans (if_neg c15)).trans (if_neg c16)).trans (if_neg qr)).trans (if_pos ⟨c18, (lg_cmp_eq _ _).mp c21⟩)
                  refine lv_aload_n hx hb (fh_d d_Mo_inList 182 rfl) rfl (lv_at hl 3 rfl) ?_
                  refine lv_dup hx hb (fh_d d_Mo_inList 183 rfl) rfl ?_
                  refine fh_get (own := "FormulaSetterModel") (ref := "FormulaSetterModel") (C := "FormulaSetterModel") (T := T_Mo) (N := 53) (v := .int (nI a)) hx hb hT i_Mo hown hK hP mkM_o rfl 3 (by decide) (hT _ w863) (fun _ h9 => h9) rfl (fh_d d_Mo_inList 184 rfl) ?_
                  refine lv_bipush (v := 6) hx hb (fh_d d_Mo_inList 185 rfl) (by decide) ?_
                  refine lv_iadd hx hb (fh_d d_Mo_inList 186 rfl) ?_
                  refine fh_put (own := "FormulaSetterModel") (ref := "FormulaSetterModel") (C := "FormulaSetterModel") (T := T_Mo) (N := 53) (v := .int ((nI a) + 6)) (ty := .int) hx hb hT i_Mo t_Mo k_Mo n_Mo hown hK hP hS mkM_o rfl 3 (by decide) (hT _ w863) (fun _ h9 => h9) rfl (by decide +kernel) rfl rfl (Nat.le_of_ble_eq_true rfl) (fh_d d_Mo_inList 187 rfl) (fun H locs hP hS => ?_)
                  replace hP := fh_P.eq (h' := mkM ct x g A th (nI L) ((nI a) + 6) wr (nI N) (nI U) (nI O) pi wi he de) hP mkM_ux
                  refine lv_aload_n hx hb (fh_d d_Mo_inList 188 rfl) rfl (lv_at hl 3 rfl) ?_
                  refine lv_aload_n hx hb (fh_d d_Mo_inList 189 rfl) rfl (lv_at hl 3 rfl) ?_
                  refine fh_get (own := "FormulaSetterModel") (ref := "FormulaSetterModel") (C := "FormulaSetterModel") (T := T_Mo) (N := 53) (v := .ref (x + 17)) hx hb hT i_Mo hown hK hP mkM_o rfl 23 (by decide) (hT _ w883) (fun _ h9 => h9) rfl (fh_d d_Mo_inList 190 rfl) ?_
                  refine lv_iload_n hx hb (fh_d d_Mo_inList 191 rfl) rfl (lv_at hl 2 rfl) ?_
                  refine fn_iald (f := A 16) (k := O - 1) hx hb hK hP 0 mkM_a16 rfl (nI_m1 hO) (by omega) (by decide) (fh_d d_Mo_inList 192 rfl) ?_
                  refine lv_iconst (v := 2) hx hb (fh_d d_Mo_inList 193 rfl) (by decide) ?_
                  refine lv_icmp_eq (tgt := 354) hx hb (fh_d d_Mo_inList 194 rfl) rfl (fun c22 => ?_) (fun c22 => ?_)
                  · refine lv_iconst (v := 0) hx hb (fh_d d_Mo_inList 197 rfl) (by decide) ?_
                    have qh : A 16 (O - 1) = 2 := c22
                    refine fh_put (own := "FormulaSetterModel") (ref := "FormulaSetterModel") (C := "FormulaSetterModel") (T := T_Mo) (N := 53) (v := .int 0) (ty := .boolean) hx hb hT i_Mo t_Mo k_Mo n_Mo hown hK hP hS mkM_o rfl 4 (by decide) (hT _ w864) (fun _ h9 => h9) rfl (by decide +kernel) rfl rfl (Nat.le_of_ble_eq_true rfl) (fh_d d_Mo_inList 198 rfl) (fun H locs hP hS => ?_)
                    replace hP := fh_P.eq (h' := mkM ct x g A th (nI L) ((nI a) + 6) 0 (nI N) (nI U) (nI O) pi wi he de) hP mkM_ux
                    refine lv_aload_n hx hb (fh_d d_Mo_inList 199 rfl) rfl (lv_at hl 3 rfl) ?_
                    refine fh_get (own := "FormulaSetterModel") (ref := "FormulaSetterModel") (C := "FormulaSetterModel") (T := T_Mo) (N := 53) (v := .ref (x + 4)) hx hb hT i_Mo hown hK hP mkM_o rfl 9 (by decide) (hT _ w869) (fun _ h9 => h9) rfl (fh_d d_Mo_inList 200 rfl) ?_
                    refine lv_aload_n hx hb (fh_d d_Mo_inList 201 rfl) rfl (lv_at hl 3 rfl) ?_
                    refine fh_get (own := "FormulaSetterModel") (ref := "FormulaSetterModel") (C := "FormulaSetterModel") (T := T_Mo) (N := 53) (v := .ref (x + 18)) hx hb hT i_Mo hown hK hP mkM_o rfl 24 (by decide) (hT _ w884) (fun _ h9 => h9) rfl (fh_d d_Mo_inList 202 rfl) ?_
                    refine lv_iload_n hx hb (fh_d d_Mo_inList 203 rfl) rfl (lv_at hl 2 rfl) ?_
                    refine fn_iald (f := A 17) (k := O - 1) hx hb hK hP 0 mkM_a17 rfl (nI_m1 hO) (by omega) (by decide) (fh_d d_Mo_inList 204 rfl) ?_
                    refine lv_aload_n hx hb (fh_d d_Mo_inList 205 rfl) rfl (lv_at hl 3 rfl) ?_
                    have hat : nI a + 6 = nI (a + 6) := nI_add a 6
                    rw [hat] at hP
                    refine fh_callV (cc' := c_Mo_side) (nL' := 3) (rest := [.int ((A 17) (O - 1)), .ref (x + 4)]) (a := x) (As := []) X hR (m_Mo_side l D ct b RO hR (r - 1) (by omega) n x g A th 0 (nI N) (nI U) (nI O) pi wi he de L (a + 6) hL (by omega)) w1084 w1081 w1083 v41 w9 ⟨by decide, by decide, by show _ = some 0; decide +kernel⟩ (by omega) (by decide) (fh_recv hK hP mkM_o rfl) hP hS hl.1 rfl (by exact Nat.le_of_ble_eq_true rfl) (fh_d d_Mo_inList 206 rfl) ⟨Nat.le_refl _, Nat.le_refl _⟩ (fun v9 h9 n9 H locs hq hP hS => ?_)
                    obtain ⟨rfl, u23, u24⟩ := hq
                    rw [u23, u24] at hP
                    refine fn_iast (f := A 3) (k := ixI (A 17 (O - 1))) hx hb hK hP hS 0 mkM_a3 rfl (g1) (g2) (by decide) (fh_d d_Mo_inList 207 rfl) (fun H locs hP hS => ?_)
                    replace hP := fh_P.eq (h' := mkM ct x g (up2 A 3 (upd (A 3) (ixI (A 17 (O - 1))) (rz_sd A L (a + 6)))) th (nI L) (nI (sk (A 0) L (a + 6) + 1)) 0 (nI N) (nI U) (nI O) pi wi he de) hP mkM_u3
                    refine lv_aload_n hx hb (fh_d d_Mo_inList 208 rfl) rfl (lv_at hl 3 rfl) ?_
                    refine lv_aload_n hx hb (fh_d d_Mo_inList 209 rfl) rfl (lv_at hl 3 rfl) ?_
                    refine fh_get (own := "FormulaSetterModel") (ref := "FormulaSetterModel") (C := "FormulaSetterModel") (T := T_Mo) (N := 53) (v := .int 0) hx hb hT i_Mo hown hK hP mkM_o rfl 4 (by decide) (hT _ w864) (fun _ h9 => h9) rfl (fh_d d_Mo_inList 210 rfl) ?_
                    refine lv_if_ne (tgt := 395) hx hb (fh_d d_Mo_inList 211 rfl) rfl (fun c25 => absurd c25 (by decide)) (fun c25 => ?_)
                    refine lv_aload_n hx hb (fh_d d_Mo_inList 212 rfl) rfl (lv_at hl 3 rfl) ?_
                    refine fh_get (own := "FormulaSetterModel") (ref := "FormulaSetterModel") (C := "FormulaSetterModel") (T := T_Mo) (N := 53) (v := .ref (x + 4)) hx hb hT i_Mo hown hK hP mkM_o rfl 9 (by decide) (hT _ w869) (fun _ h9 => h9) rfl (fh_d d_Mo_inList 213 rfl) ?_
                    refine lv_aload_n hx hb (fh_d d_Mo_inList 214 rfl) rfl (lv_at hl 3 rfl) ?_
                    refine fh_get (own := "FormulaSetterModel") (ref := "FormulaSetterModel") (C := "FormulaSetterModel") (T := T_Mo) (N := 53) (v := .ref (x + 18)) hx hb hT i_Mo hown hK hP mkM_o rfl 24 (by decide) (hT _ w884) (fun _ h9 => h9) rfl (fh_d d_Mo_inList 215 rfl) ?_
                    refine lv_iload_n hx hb (fh_d d_Mo_inList 216 rfl) rfl (lv_at hl 2 rfl) ?_
                    refine fn_iald (f := A 17) (k := O - 1) hx hb hK hP 0 mkM_a17 rfl (nI_m1 hO) (by omega) (by decide) (fh_d d_Mo_inList 217 rfl) ?_
                    refine fn_iald (f := upd (A 3) (ixI (A 17 (O - 1))) (rz_sd A L (a + 6))) (k := ixI (A 17 (O - 1))) hx hb hK hP 0 mkM_a3 rfl (g1) (g2) (by decide) (fh_d d_Mo_inList 218 rfl) ?_
                    rw [pk_us]
                    refine lv_if_ge (tgt := 399) hx hb (fh_d d_Mo_inList 219 rfl) rfl (fun c26 => ?_) (fun c26 => ?_)
                    · refine lv_iconst (v := 0) hx hb (fh_d d_Mo_inList 222 rfl) (by decide) ?_
                      have qw : A 16 (O - 1) = 2 ∧ ¬ rz_sd A L (a + 6) < 0 := ⟨qh, Int32.not_lt.mpr c26⟩
                      refine fh_put (own := "FormulaSetterModel") (ref := "FormulaSetterModel") (C := "FormulaSetterModel") (T := T_Mo) (N := 53) (v := .int 0) (ty := .boolean) hx hb hT i_Mo t_Mo k_Mo n_Mo hown hK hP hS mkM_o rfl 4 (by decide) (hT _ w864) (fun _ h9 => h9) rfl (by decide +kernel) rfl rfl (Nat.le_of_ble_eq_true rfl) (fh_d d_Mo_inList 223 rfl) (fun H locs hP hS => ?_)
                      replace hP := fh_P.eq (h' := mkM ct x g (up2 A 3 (upd (A 3) (ixI (A 17 (O - 1))) (rz_sd A L (a + 6)))) th (nI L) (nI (sk (A 0) L (a + 6) + 1)) 0 (nI N) (nI U) (nI O) pi wi he de) hP mkM_ux
                      refine lv_aload_n hx hb (fh_d d_Mo_inList 224 rfl) rfl (lv_at hl 3 rfl) ?_
                      refine lv_dup hx hb (fh_d d_Mo_inList 225 rfl) rfl ?_
                      refine fh_get (own := "FormulaSetterModel") (ref := "FormulaSetterModel") (C := "FormulaSetterModel") (T := T_Mo) (N := 53) (v := .int (nI O)) hx hb hT i_Mo hown hK hP mkM_o rfl 22 (by decide) (hT _ w882) (fun _ h9 => h9) rfl (fh_d d_Mo_inList 226 rfl) ?_
                      refine lv_iconst (v := 1) hx hb (fh_d d_Mo_inList 227 rfl) (by decide) ?_
                      refine lv_isub hx hb (fh_d d_Mo_inList 228 rfl) ?_
                      refine fh_put (own := "FormulaSetterModel") (ref := "FormulaSetterModel") (C := "FormulaSetterModel") (T := T_Mo) (N := 53) (v := .int ((nI O) - 1)) (ty := .int) hx hb hT i_Mo t_Mo k_Mo n_Mo hown hK hP hS mkM_o rfl 22 (by decide) (hT _ w882) (fun _ h9 => h9) rfl (by decide +kernel) rfl rfl (Nat.le_of_ble_eq_true rfl) (fh_d d_Mo_inList 229 rfl) (fun H locs hP hS => ?_)
                      replace hP := fh_P.eq (h' := mkM ct x g (up2 A 3 (upd (A 3) (ixI (A 17 (O - 1))) (rz_sd A L (a + 6)))) th (nI L) (nI (sk (A 0) L (a + 6) + 1)) 0 (nI N) (nI U) ((nI O) - 1) pi wi he de) hP mkM_ux
                      refine lv_aload_n hx hb (fh_d d_Mo_inList 230 rfl) rfl (lv_at hl 3 rfl) ?_
                      refine fh_get (own := "FormulaSetterModel") (ref := "FormulaSetterModel") (C := "FormulaSetterModel") (T := T_Mo) (N := 53) (v := .int 0) hx hb hT i_Mo hown hK hP mkM_o rfl 4 (by decide) (hT _ w864) (fun _ h9 => h9) rfl (fh_d d_Mo_inList 231 rfl) ?_
                      refine lv_if_ne (tgt := 435) hx hb (fh_d d_Mo_inList 232 rfl) rfl (fun c27 => absurd c27 (by decide)) (fun c27 => ?_)
                      refine lv_aload_n hx hb (fh_d d_Mo_inList 233 rfl) rfl (lv_at hl 3 rfl) ?_
                      refine lv_aload_n hx hb (fh_d d_Mo_inList 234 rfl) rfl (lv_at hl 3 rfl) ?_
                      refine fh_get (own := "FormulaSetterModel") (ref := "FormulaSetterModel") (C := "FormulaSetterModel") (T := T_Mo) (N := 53) (v := .ref (x + 18)) hx hb hT i_Mo hown hK hP mkM_o rfl 24 (by decide) (hT _ w884) (fun _ h9 => h9) rfl (fh_d d_Mo_inList 235 rfl) ?_
                      refine lv_iload_n hx hb (fh_d d_Mo_inList 236 rfl) rfl (lv_at hl 2 rfl) ?_
                      refine fn_iald (f := A 17) (k := O - 1) hx hb hK hP 0 mkM_a17 rfl (nI_m1 hO) (by omega) (by decide) (fh_d d_Mo_inList 237 rfl) ?_
                      have hO1 : 1 ≤ O - 1 := by
                        by_cases q9 : O = 1
                        · exfalso
                          subst q9
                          rw [show A 16 (1 - 1) = A 16 0 from rfl, h00] at qh; exact absurd qh (by decide)
                        · omega
                      rw [nI_m1 hO] at hP
                      rw [g1]
                      refine fh_callV (cc' := c_Mo_deliver) (nL' := 6) (rest := []) (a := x) (As := [.int (nI (ixI (A 17 (O - 1))))]) X hR (m_Mo_deliver l D ct b RO (r - 1) n x g (up2 A 3 (upd (A 3) (ixI (A 17 (O - 1))) (rz_sd A L (a + 6)))) th (nI L) (nI (sk (A 0) L (a + 6) + 1)) 0 (nI N) (nI U) pi wi he de (O - 1) (rz_u A O) g2 hO1 (by omega) ⟨fun j hj => hf.1 j (by omega), hf.2⟩) w1068 w1065 w1067 v38 w9 ⟨by decide, by decide, by show _ = some 1; decide +kernel⟩ (by omega) (by decide) (fh_recv hK hP mkM_o rfl) hP hS hl.1 rfl (by exact Nat.le_of_ble_eq_true rfl) (fh_d d_Mo_inList 238 rfl) ⟨Nat.le_refl _, Nat.le_refl _⟩ (fun v9 h9 n9 H locs hq hP hS => ?_)
                      obtain ⟨rfl, u28, u29⟩ := hq
                      rw [u28, u29] at hP
                      refine lv_goto (tgt := 435) hx hb (fh_d d_Mo_inList 239 rfl) rfl ?_
                      refine lv_iconst (v := 1) hx hb (fh_d d_Mo_inList 242 rfl) (by decide) ?_
                      refine fh_zret X hP hS (fh_d d_Mo_inList 243 rfl) (by decide) ⟨rfl, Or.inl ⟨_, qz, rfl, ?_⟩⟩
                      unfold rz_right
                      rw [if_pos qw]
                      try rfl
                    · refine lv_iconst (v := 1) hx hb (fh_d d_Mo_inList 220 rfl) (by decide) ?_
                      refine lv_goto (tgt := 400) hx hb (fh_d d_Mo_inList 221 rfl) rfl ?_
                      have qw : ¬ (A 16 (O - 1) = 2 ∧ ¬ rz_sd A L (a + 6) < 0) := fun z => z.2 (Int32.not_le.mp c26)
                      refine fh_put (own := "FormulaSetterModel") (ref := "FormulaSetterModel") (C := "FormulaSetterModel") (T := T_Mo) (N := 53) (v := .int 1) (ty := .boolean) hx hb hT i_Mo t_Mo k_Mo n_Mo hown hK hP hS mkM_o rfl 4 (by decide) (hT _ w864) (fun _ h9 => h9) rfl (by decide +kernel) rfl rfl (Nat.le_of_ble_eq_true rfl) (fh_d d_Mo_inList 223 rfl) (fun H locs hP hS => ?_)
                      replace hP := fh_P.eq (h' := mkM ct x g (up2 A 3 (upd (A 3) (ixI (A 17 (O - 1))) (rz_sd A L (a + 6)))) th (nI L) (nI (sk (A 0) L (a + 6) + 1)) 1 (nI N) (nI U) (nI O) pi wi he de) hP mkM_ux
                      refine lv_aload_n hx hb (fh_d d_Mo_inList 224 rfl) rfl (lv_at hl 3 rfl) ?_
                      refine lv_dup hx hb (fh_d d_Mo_inList 225 rfl) rfl ?_
                      refine fh_get (own := "FormulaSetterModel") (ref := "FormulaSetterModel") (C := "FormulaSetterModel") (T := T_Mo) (N := 53) (v := .int (nI O)) hx hb hT i_Mo hown hK hP mkM_o rfl 22 (by decide) (hT _ w882) (fun _ h9 => h9) rfl (fh_d d_Mo_inList 226 rfl) ?_
                      refine lv_iconst (v := 1) hx hb (fh_d d_Mo_inList 227 rfl) (by decide) ?_
                      refine lv_isub hx hb (fh_d d_Mo_inList 228 rfl) ?_
                      refine fh_put (own := "FormulaSetterModel") (ref := "FormulaSetterModel") (C := "FormulaSetterModel") (T := T_Mo) (N := 53) (v := .int ((nI O) - 1)) (ty := .int) hx hb hT i_Mo t_Mo k_Mo n_Mo hown hK hP hS mkM_o rfl 22 (by decide) (hT _ w882) (fun _ h9 => h9) rfl (by decide +kernel) rfl rfl (Nat.le_of_ble_eq_true rfl) (fh_d d_Mo_inList 229 rfl) (fun H locs hP hS => ?_)
                      replace hP := fh_P.eq (h' := mkM ct x g (up2 A 3 (upd (A 3) (ixI (A 17 (O - 1))) (rz_sd A L (a + 6)))) th (nI L) (nI (sk (A 0) L (a + 6) + 1)) 1 (nI N) (nI U) ((nI O) - 1) pi wi he de) hP mkM_ux
                      refine lv_aload_n hx hb (fh_d d_Mo_inList 230 rfl) rfl (lv_at hl 3 rfl) ?_
                      refine fh_get (own := "FormulaSetterModel") (ref := "FormulaSetterModel") (C := "FormulaSetterModel") (T := T_Mo) (N := 53) (v := .int 1) hx hb hT i_Mo hown hK hP mkM_o rfl 4 (by decide) (hT _ w864) (fun _ h9 => h9) rfl (fh_d d_Mo_inList 231 rfl) ?_
                      refine lv_if_ne (tgt := 435) hx hb (fh_d d_Mo_inList 232 rfl) rfl (fun c30 => ?_) (fun c30 => absurd c30 (by decide))
                      refine lv_iconst (v := 1) hx hb (fh_d d_Mo_inList 242 rfl) (by decide) ?_
                      refine fh_zret X hP hS (fh_d d_Mo_inList 243 rfl) (by decide) ⟨rfl, Or.inl ⟨_, qz, rfl, ?_⟩⟩
                      unfold rz_right
                      rw [if_neg qw, nI_m1 hO]
                      try rfl
                  · refine lv_iconst (v := 1) hx hb (fh_d d_Mo_inList 195 rfl) (by decide) ?_
                    refine lv_goto (tgt := 355) hx hb (fh_d d_Mo_inList 196 rfl) rfl ?_
                    have qh : ¬ A 16 (O - 1) = 2 := c22
                    refine fh_put (own := "FormulaSetterModel") (ref := "FormulaSetterModel") (C := "FormulaSetterModel") (T := T_Mo) (N := 53) (v := .int 1) (ty := .boolean) hx hb hT i_Mo t_Mo k_Mo n_Mo hown hK hP hS mkM_o rfl 4 (by decide) (hT _ w864) (fun _ h9 => h9) rfl (by decide +kernel) rfl rfl (Nat.le_of_ble_eq_true rfl) (fh_d d_Mo_inList 198 rfl) (fun H locs hP hS => ?_)
                    replace hP := fh_P.eq (h' := mkM ct x g A th (nI L) ((nI a) + 6) 1 (nI N) (nI U) (nI O) pi wi he de) hP mkM_ux
                    refine lv_aload_n hx hb (fh_d d_Mo_inList 199 rfl) rfl (lv_at hl 3 rfl) ?_
                    refine fh_get (own := "FormulaSetterModel") (ref := "FormulaSetterModel") (C := "FormulaSetterModel") (T := T_Mo) (N := 53) (v := .ref (x + 4)) hx hb hT i_Mo hown hK hP mkM_o rfl 9 (by decide) (hT _ w869) (fun _ h9 => h9) rfl (fh_d d_Mo_inList 200 rfl) ?_
                    refine lv_aload_n hx hb (fh_d d_Mo_inList 201 rfl) rfl (lv_at hl 3 rfl) ?_
                    refine fh_get (own := "FormulaSetterModel") (ref := "FormulaSetterModel") (C := "FormulaSetterModel") (T := T_Mo) (N := 53) (v := .ref (x + 18)) hx hb hT i_Mo hown hK hP mkM_o rfl 24 (by decide) (hT _ w884) (fun _ h9 => h9) rfl (fh_d d_Mo_inList 202 rfl) ?_
                    refine lv_iload_n hx hb (fh_d d_Mo_inList 203 rfl) rfl (lv_at hl 2 rfl) ?_
                    refine fn_iald (f := A 17) (k := O - 1) hx hb hK hP 0 mkM_a17 rfl (nI_m1 hO) (by omega) (by decide) (fh_d d_Mo_inList 204 rfl) ?_
                    refine lv_aload_n hx hb (fh_d d_Mo_inList 205 rfl) rfl (lv_at hl 3 rfl) ?_
                    have hat : nI a + 6 = nI (a + 6) := nI_add a 6
                    rw [hat] at hP
                    refine fh_callV (cc' := c_Mo_side) (nL' := 3) (rest := [.int ((A 17) (O - 1)), .ref (x + 4)]) (a := x) (As := []) X hR (m_Mo_side l D ct b RO hR (r - 1) (by omega) n x g A th 1 (nI N) (nI U) (nI O) pi wi he de L (a + 6) hL (by omega)) w1084 w1081 w1083 v41 w9 ⟨by decide, by decide, by show _ = some 0; decide +kernel⟩ (by omega) (by decide) (fh_recv hK hP mkM_o rfl) hP hS hl.1 rfl (by exact Nat.le_of_ble_eq_true rfl) (fh_d d_Mo_inList 206 rfl) ⟨Nat.le_refl _, Nat.le_refl _⟩ (fun v9 h9 n9 H locs hq hP hS => ?_)
                    obtain ⟨rfl, u31, u32⟩ := hq
                    rw [u31, u32] at hP
                    refine fn_iast (f := A 3) (k := ixI (A 17 (O - 1))) hx hb hK hP hS 0 mkM_a3 rfl (g1) (g2) (by decide) (fh_d d_Mo_inList 207 rfl) (fun H locs hP hS => ?_)
                    replace hP := fh_P.eq (h' := mkM ct x g (up2 A 3 (upd (A 3) (ixI (A 17 (O - 1))) (rz_sd A L (a + 6)))) th (nI L) (nI (sk (A 0) L (a + 6) + 1)) 1 (nI N) (nI U) (nI O) pi wi he de) hP mkM_u3
                    refine lv_aload_n hx hb (fh_d d_Mo_inList 208 rfl) rfl (lv_at hl 3 rfl) ?_
                    refine lv_aload_n hx hb (fh_d d_Mo_inList 209 rfl) rfl (lv_at hl 3 rfl) ?_
                    refine fh_get (own := "FormulaSetterModel") (ref := "FormulaSetterModel") (C := "FormulaSetterModel") (T := T_Mo) (N := 53) (v := .int 1) hx hb hT i_Mo hown hK hP mkM_o rfl 4 (by decide) (hT _ w864) (fun _ h9 => h9) rfl (fh_d d_Mo_inList 210 rfl) ?_
                    refine lv_if_ne (tgt := 395) hx hb (fh_d d_Mo_inList 211 rfl) rfl (fun c33 => ?_) (fun c33 => absurd c33 (by decide))
                    refine lv_iconst (v := 1) hx hb (fh_d d_Mo_inList 220 rfl) (by decide) ?_
                    refine lv_goto (tgt := 400) hx hb (fh_d d_Mo_inList 221 rfl) rfl ?_
                    have qw : ¬ (A 16 (O - 1) = 2 ∧ ¬ rz_sd A L (a + 6) < 0) := fun z => qh z.1
                    refine fh_put (own := "FormulaSetterModel") (ref := "FormulaSetterModel") (C := "FormulaSetterModel") (T := T_Mo) (N := 53) (v := .int 1) (ty := .boolean) hx hb hT i_Mo t_Mo k_Mo n_Mo hown hK hP hS mkM_o rfl 4 (by decide) (hT _ w864) (fun _ h9 => h9) rfl (by decide +kernel) rfl rfl (Nat.le_of_ble_eq_true rfl) (fh_d d_Mo_inList 223 rfl) (fun H locs hP hS => ?_)
                    replace hP := fh_P.eq (h' := mkM ct x g (up2 A 3 (upd (A 3) (ixI (A 17 (O - 1))) (rz_sd A L (a + 6)))) th (nI L) (nI (sk (A 0) L (a + 6) + 1)) 1 (nI N) (nI U) (nI O) pi wi he de) hP mkM_ux
                    refine lv_aload_n hx hb (fh_d d_Mo_inList 224 rfl) rfl (lv_at hl 3 rfl) ?_
                    refine lv_dup hx hb (fh_d d_Mo_inList 225 rfl) rfl ?_
                    refine fh_get (own := "FormulaSetterModel") (ref := "FormulaSetterModel") (C := "FormulaSetterModel") (T := T_Mo) (N := 53) (v := .int (nI O)) hx hb hT i_Mo hown hK hP mkM_o rfl 22 (by decide) (hT _ w882) (fun _ h9 => h9) rfl (fh_d d_Mo_inList 226 rfl) ?_
                    refine lv_iconst (v := 1) hx hb (fh_d d_Mo_inList 227 rfl) (by decide) ?_
                    refine lv_isub hx hb (fh_d d_Mo_inList 228 rfl) ?_
                    refine fh_put (own := "FormulaSetterModel") (ref := "FormulaSetterModel") (C := "FormulaSetterModel") (T := T_Mo) (N := 53) (v := .int ((nI O) - 1)) (ty := .int) hx hb hT i_Mo t_Mo k_Mo n_Mo hown hK hP hS mkM_o rfl 22 (by decide) (hT _ w882) (fun _ h9 => h9) rfl (by decide +kernel) rfl rfl (Nat.le_of_ble_eq_true rfl) (fh_d d_Mo_inList 229 rfl) (fun H locs hP hS => ?_)
                    replace hP := fh_P.eq (h' := mkM ct x g (up2 A 3 (upd (A 3) (ixI (A 17 (O - 1))) (rz_sd A L (a + 6)))) th (nI L) (nI (sk (A 0) L (a + 6) + 1)) 1 (nI N) (nI U) ((nI O) - 1) pi wi he de) hP mkM_ux
                    refine lv_aload_n hx hb (fh_d d_Mo_inList 230 rfl) rfl (lv_at hl 3 rfl) ?_
                    refine fh_get (own := "FormulaSetterModel") (ref := "FormulaSetterModel") (C := "FormulaSetterModel") (T := T_Mo) (N := 53) (v := .int 1) hx hb hT i_Mo hown hK hP mkM_o rfl 4 (by decide) (hT _ w864) (fun _ h9 => h9) rfl (fh_d d_Mo_inList 231 rfl) ?_
                    refine lv_if_ne (tgt := 435) hx hb (fh_d d_Mo_inList 232 rfl) rfl (fun c34 => ?_) (fun c34 => absurd c34 (by decide))
                    refine lv_iconst (v := 1) hx hb (fh_d d_Mo_inList 242 rfl) (by decide) ?_
                    refine fh_zret X hP hS (fh_d d_Mo_inList 243 rfl) (by decide) ⟨rfl, Or.inl ⟨_, qz, rfl, ?_⟩⟩
                    unfold rz_right
                    rw [if_neg qw, nI_m1 hO]
                    try rfl
            · refine lv_aload_n hx hb (fh_d d_Mo_inList 143 rfl) rfl (lv_at hl 3 rfl) ?_
              refine lv_iconst (v := 1) hx hb (fh_d d_Mo_inList 144 rfl) (by decide) ?_
              refine fh_callV (cc' := c_Mo_here) (nL' := 2) (rest := []) (a := x) (As := [.int 1]) X hR (m_Mo_here l D ct b RO (r - 1) n x g A th wr (nI N) (nI U) (nI O) pi wi he de L a  (1) hL (by omega)) w1060 w1057 w1059 v36 w9 ⟨by decide, by decide, by show _ = some 1; decide +kernel⟩ (by omega) (by decide) (fh_recv hK hP mkM_o rfl) hP hS hl.1 rfl (by exact Nat.le_of_ble_eq_true rfl) (fh_d d_Mo_inList 145 rfl) ⟨Nat.le_refl _, Nat.le_refl _⟩ (fun v9 h9 n9 H locs hq hP hS => ?_)
              obtain ⟨rfl, u35, u36⟩ := hq
              rw [u35, u36] at hP
              have hq1 : (if a + 1 < L then A 0 (a + 1) else 0) = hre (A 0) L (a + 1) := rfl
              rw [hq1]
              refine lv_bipush (v := 92) hx hb (fh_d d_Mo_inList 146 rfl) (by decide) ?_
              refine lv_icmp_ne (tgt := 311) hx hb (fh_d d_Mo_inList 147 rfl) rfl (fun c37 => ?_) (fun c37 => ?_)
              · have qr : ¬ (hre (A 0) L a = 92 ∧ hre (A 0) L (a + 1) = 92) := fun z => c37 z.2
                refine lv_iload_n hx hb (fh_d d_Mo_inList 174 rfl) rfl (lv_at hl 1 rfl) ?_
                refine lv_bipush (v := 92) hx hb (fh_d d_Mo_inList 175 rfl) (by decide) ?_
                refine lv_icmp_ne (tgt := 433) hx hb (fh_d d_Mo_inList 176 rfl) rfl (fun c38 => ?_) (fun c38 => ?_)
                · have q5 : ¬ (hre (A 0) L a = 92 ∧ nh (A 0) L a 1 0 = 491394656372) := fun z => c38 z.1
                  have qz : rz_in A L a N U O = none := (((((if_neg (fun z => z.elim c1 c14))).trans (if_neg c15)).trans (if_neg c16)).trans (if_neg qr)).trans (if_neg q5)
                  refine lv_iconst (v := 0) hx hb (fh_d d_Mo_inList 240 rfl) (by decide) ?_
                  exact fh_zret X hP hS (fh_d d_Mo_inList 241 rfl) (by decide) ⟨rfl, Or.inr ⟨qz, rfl, rfl⟩⟩
                · refine lv_aload_n hx hb (fh_d d_Mo_inList 177 rfl) rfl (lv_at hl 3 rfl) ?_
                  refine fh_callV (cc' := c_Mo_nameHere) (nL' := 4) (rest := []) (a := x) (As := []) X hR (m_Mo_nameHere l D ct b RO hR (r - 1) (by omega) n x g A th wr (nI N) (nI U) (nI O) pi wi he de L a hL (by omega)) w1076 w1073 w1075 v40 w9 ⟨by decide, by decide, by show _ = some 0; decide +kernel⟩ (by omega) (by decide) (fh_recv hK hP mkM_o rfl) hP hS hl.1 rfl (by exact Nat.le_of_ble_eq_true rfl) (fh_d d_Mo_inList 178 rfl) ⟨Nat.le_refl _, Nat.le_refl _⟩ (fun v9 h9 n9 H locs hq hP hS => ?_)
                  obtain ⟨rfl, u39, u40⟩ := hq
                  rw [u39, u40] at hP
                  refine lv_ldc2 (v := 491394656372) hx hb hown (hT _ w1080) (fh_d d_Mo_inList 179 rfl) ?_
                  refine W.lcmp hx hb (fh_d d_Mo_inList 180 rfl) ?_
                  refine lv_if_ne (tgt := 433) hx hb (fh_d d_Mo_inList 181 rfl) rfl (fun c41 => ?_) (fun c41 => ?_)
                  · have q5 : ¬ (hre (A 0) L a = 92 ∧ nh (A 0) L a 1 0 = 491394656372) := fun z => c41 ((lg_cmp_eq _ _).mpr z.2)
                    have qz : rz_in A L a N U O = none := (((((if_neg (fun z => z.elim c1 c14))).trans (if_neg c15)).trans (if_neg c16)).trans (if_neg qr)).trans (if_neg q5)
                    refine lv_iconst (v := 0) hx hb (fh_d d_Mo_inList 240 rfl) (by decide) ?_
                    exact fh_zret X hP hS (fh_d d_Mo_inList 241 rfl) (by decide) ⟨rfl, Or.inr ⟨qz, rfl, rfl⟩⟩
                  · have qz : rz_in A L a N U O = some (rz_right A L a N U O) := (((((if_neg (fun z => z.elim c1 c14))).trans (if_neg c15)).trans (if_neg c16)).trans (if_neg qr)).trans (if_pos ⟨c38, (lg_cmp_eq _ _).mp c41⟩)
                    refine lv_aload_n hx hb (fh_d d_Mo_inList 182 rfl) rfl (lv_at hl 3 rfl) ?_
                    refine lv_dup hx hb (fh_d d_Mo_inList 183 rfl) rfl ?_
                    refine fh_get (own := "FormulaSetterModel") (ref := "FormulaSetterModel") (C := "FormulaSetterModel") (T := T_Mo) (N := 53) (v := .int (nI a)) hx hb hT i_Mo hown hK hP mkM_o rfl 3 (by decide) (hT _ w863) (fun _ h9 => h9) rfl (fh_d d_Mo_inList 184 rfl) ?_
                    refine lv_bipush (v := 6) hx hb (fh_d d_Mo_inList 185 rfl) (by decide) ?_
                    refine lv_iadd hx hb (fh_d d_Mo_inList 186 rfl) ?_
                    refine fh_put (own := "FormulaSetterModel") (ref := "FormulaSetterModel") (C := "FormulaSetterModel") (T := T_Mo) (N := 53) (v := .int ((nI a) + 6)) (ty := .int) hx hb hT i_Mo t_Mo k_Mo n_Mo hown hK hP hS mkM_o rfl 3 (by decide) (hT _ w863) (fun _ h9 => h9) rfl (by decide +kernel) rfl rfl (Nat.le_of_ble_eq_true rfl) (fh_d d_Mo_inList 187 rfl) (fun H locs hP hS => ?_)
                    replace hP := fh_P.eq (h' := mkM ct x g A th (nI L) ((nI a) + 6) wr (nI N) (nI U) (nI O) pi wi he de) hP mkM_ux
                    refine lv_aload_n hx hb (fh_d d_Mo_inList 188 rfl) rfl (lv_at hl 3 rfl) ?_
                    refine lv_aload_n hx hb (fh_d d_Mo_inList 189 rfl) rfl (lv_at hl 3 rfl) ?_
                    refine fh_get (own := "FormulaSetterModel") (ref := "FormulaSetterModel") (C := "FormulaSetterModel") (T := T_Mo) (N := 53) (v := .ref (x + 17)) hx hb hT i_Mo hown hK hP mkM_o rfl 23 (by decide) (hT _ w883) (fun _ h9 => h9) rfl (fh_d d_Mo_inList 190 rfl) ?_
                    refine lv_iload_n hx hb (fh_d d_Mo_inList 191 rfl) rfl (lv_at hl 2 rfl) ?_
                    refine fn_iald (f := A 16) (k := O - 1) hx hb hK hP 0 mkM_a16 rfl (nI_m1 hO) (by omega) (by decide) (fh_d d_Mo_inList 192 rfl) ?_
                    refine lv_iconst (v := 2) hx hb (fh_d d_Mo_inList 193 rfl) (by decide) ?_
                    refine lv_icmp_eq (tgt := 354) hx hb (fh_d d_Mo_inList 194 rfl) rfl (fun c42 => ?_) (fun c42 => ?_)
                    · refine lv_iconst (v := 0) hx hb (fh_d d_Mo_inList 197 rfl) (by decide) ?_
                      have qh : A 16 (O - 1) = 2 := c42
                      refine fh_put (own := "FormulaSetterModel") (ref := "FormulaSetterModel") (C := "FormulaSetterModel") (T := T_Mo) (N := 53) (v := .int 0) (ty := .boolean) hx hb hT i_Mo t_Mo k_Mo n_Mo hown hK hP hS mkM_o rfl 4 (by decide) (hT _ w864) (fun _ h9 => h9) rfl (by decide +kernel) rfl rfl (Nat.le_of_ble_eq_true rfl) (fh_d d_Mo_inList 198 rfl) (fun H locs hP hS => ?_)
                      replace hP := fh_P.eq (h' := mkM ct x g A th (nI L) ((nI a) + 6) 0 (nI N) (nI U) (nI O) pi wi he de) hP mkM_ux
                      refine lv_aload_n hx hb (fh_d d_Mo_inList 199 rfl) rfl (lv_at hl 3 rfl) ?_
                      refine fh_get (own := "FormulaSetterModel") (ref := "FormulaSetterModel") (C := "FormulaSetterModel") (T := T_Mo) (N := 53) (v := .ref (x + 4)) hx hb hT i_Mo hown hK hP mkM_o rfl 9 (by decide) (hT _ w869) (fun _ h9 => h9) rfl (fh_d d_Mo_inList 200 rfl) ?_
                      refine lv_aload_n hx hb (fh_d d_Mo_inList 201 rfl) rfl (lv_at hl 3 rfl) ?_
                      refine fh_get (own := "FormulaSetterModel") (ref := "FormulaSetterModel") (C := "FormulaSetterModel") (T := T_Mo) (N := 53) (v := .ref (x + 18)) hx hb hT i_Mo hown hK hP mkM_o rfl 24 (by decide) (hT _ w884) (fun _ h9 => h9) rfl (fh_d d_Mo_inList 202 rfl) ?_
                      refine lv_iload_n hx hb (fh_d d_Mo_inList 203 rfl) rfl (lv_at hl 2 rfl) ?_
                      refine fn_iald (f := A 17) (k := O - 1) hx hb hK hP 0 mkM_a17 rfl (nI_m1 hO) (by omega) (by decide) (fh_d d_Mo_inList 204 rfl) ?_
                      refine lv_aload_n hx hb (fh_d d_Mo_inList 205 rfl) rfl (lv_at hl 3 rfl) ?_
                      have hat : nI a + 6 = nI (a + 6) := nI_add a 6
                      rw [hat] at hP
                      refine fh_callV (cc' := c_Mo_side) (nL' := 3) (rest := [.int ((A 17) (O - 1)), .ref (x + 4)]) (a := x) (As := []) X hR (m_Mo_side l D ct b RO hR (r - 1) (by omega) n x g A th 0 (nI N) (nI U) (nI O) pi wi he de L (a + 6) hL (by omega)) w1084 w1081 w1083 v41 w9 ⟨by decide, by decide, by show _ = some 0; decide +kernel⟩ (by omega) (by decide) (fh_recv hK hP mkM_o rfl) hP hS hl.1 rfl (by exact Nat.le_of_ble_eq_true rfl) (fh_d d_Mo_inList 206 rfl) ⟨Nat.le_refl _, Nat.le_refl _⟩ (fun v9 h9 n9 H locs hq hP hS => ?_)
                      obtain ⟨rfl, u43, u44⟩ := hq
                      rw [u43, u44] at hP
                      refine fn_iast (f := A 3) (k := ixI (A 17 (O - 1))) hx hb hK hP hS 0 mkM_a3 rfl (g1) (g2) (by decide) (fh_d d_Mo_inList 207 rfl) (fun H locs hP hS => ?_)
                      replace hP := fh_P.eq (h' := mkM ct x g (up2 A 3 (upd (A 3) (ixI (A 17 (O - 1))) (rz_sd A L (a + 6)))) th (nI L) (nI (sk (A 0) L (a + 6) + 1)) 0 (nI N) (nI U) (nI O) pi wi he de) hP mkM_u3
                      refine lv_aload_n hx hb (fh_d d_Mo_inList 208 rfl) rfl (lv_at hl 3 rfl) ?_
                      refine lv_aload_n hx hb (fh_d d_Mo_inList 209 rfl) rfl (lv_at hl 3 rfl) ?_
                      refine fh_get (own := "FormulaSetterModel") (ref := "FormulaSetterModel") (C := "FormulaSetterModel") (T := T_Mo) (N := 53) (v := .int 0) hx hb hT i_Mo hown hK hP mkM_o rfl 4 (by decide) (hT _ w864) (fun _ h9 => h9) rfl (fh_d d_Mo_inList 210 rfl) ?_
                      refine lv_if_ne (tgt := 395) hx hb (fh_d d_Mo_inList 211 rfl) rfl (fun c45 => absurd c45 (by decide)) (fun c45 => ?_)
                      refine lv_aload_n hx hb (fh_d d_Mo_inList 212 rfl) rfl (lv_at hl 3 rfl) ?_
                      refine fh_get (own := "FormulaSetterModel") (ref := "FormulaSetterModel") (C := "FormulaSetterModel") (T := T_Mo) (N := 53) (v := .ref (x + 4)) hx hb hT i_Mo hown hK hP mkM_o rfl 9 (by decide) (hT _ w869) (fun _ h9 => h9) rfl (fh_d d_Mo_inList 213 rfl) ?_
                      refine lv_aload_n hx hb (fh_d d_Mo_inList 214 rfl) rfl (lv_at hl 3 rfl) ?_
                      refine fh_get (own := "FormulaSetterModel") (ref := "FormulaSetterModel") (C := "FormulaSetterModel") (T := T_Mo) (N := 53) (v := .ref (x + 18)) hx hb hT i_Mo hown hK hP mkM_o rfl 24 (by decide) (hT _ w884) (fun _ h9 => h9) rfl (fh_d d_Mo_inList 215 rfl) ?_
                      refine lv_iload_n hx hb (fh_d d_Mo_inList 216 rfl) rfl (lv_at hl 2 rfl) ?_
                      refine fn_iald (f := A 17) (k := O - 1) hx hb hK hP 0 mkM_a17 rfl (nI_m1 hO) (by omega) (by decide) (fh_d d_Mo_inList 217 rfl) ?_
                      refine fn_iald (f := upd (A 3) (ixI (A 17 (O - 1))) (rz_sd A L (a + 6))) (k := ixI (A 17 (O - 1))) hx hb hK hP 0 mkM_a3 rfl (g1) (g2) (by decide) (fh_d d_Mo_inList 218 rfl) ?_
                      rw [pk_us]
                      refine lv_if_ge (tgt := 399) hx hb (fh_d d_Mo_inList 219 rfl) rfl (fun c46 => ?_) (fun c46 => ?_)
                      · refine lv_iconst (v := 0) hx hb (fh_d d_Mo_inList 222 rfl) (by decide) ?_
                        have qw : A 16 (O - 1) = 2 ∧ ¬ rz_sd A L (a + 6) < 0 := ⟨qh, Int32.not_lt.mpr c46⟩
                        refine fh_put (own := "FormulaSetterModel") (ref := "FormulaSetterModel") (C := "FormulaSetterModel") (T := T_Mo) (N := 53) (v := .int 0) (ty := .boolean) hx hb hT i_Mo t_Mo k_Mo n_Mo hown hK hP hS mkM_o rfl 4 (by decide) (hT _ w864) (fun _ h9 => h9) rfl (by decide +kernel) rfl rfl (Nat.le_of_ble_eq_true rfl) (fh_d d_Mo_inList 223 rfl) (fun H locs hP hS => ?_)
                        replace hP := fh_P.eq (h' := mkM ct x g (up2 A 3 (upd (A 3) (ixI (A 17 (O - 1))) (rz_sd A L (a + 6)))) th (nI L) (nI (sk (A 0) L (a + 6) + 1)) 0 (nI N) (nI U) (nI O) pi wi he de) hP mkM_ux
                        refine lv_aload_n hx hb (fh_d d_Mo_inList 224 rfl) rfl (lv_at hl 3 rfl) ?_
                        refine lv_dup hx hb (fh_d d_Mo_inList 225 rfl) rfl ?_
                        refine fh_get (own := "FormulaSetterModel") (ref := "FormulaSetterModel") (C := "FormulaSetterModel") (T := T_Mo) (N := 53) (v := .int (nI O)) hx hb hT i_Mo hown hK hP mkM_o rfl 22 (by decide) (hT _ w882) (fun _ h9 => h9) rfl (fh_d d_Mo_inList 226 rfl) ?_
                        refine lv_iconst (v := 1) hx hb (fh_d d_Mo_inList 227 rfl) (by decide) ?_
                        refine lv_isub hx hb (fh_d d_Mo_inList 228 rfl) ?_
                        refine fh_put (own := "FormulaSetterModel") (ref := "FormulaSetterModel") (C := "FormulaSetterModel") (T := T_Mo) (N := 53) (v := .int ((nI O) - 1)) (ty := .int) hx hb hT i_Mo t_Mo k_Mo n_Mo hown hK hP hS mkM_o rfl 22 (by decide) (hT _ w882) (fun _ h9 => h9) rfl (by decide +kernel) rfl rfl (Nat.le_of_ble_eq_true rfl) (fh_d d_Mo_inList 229 rfl) (fun H locs hP hS => ?_)
                        replace hP := fh_P.eq (h' := mkM ct x g (up2 A 3 (upd (A 3) (ixI (A 17 (O - 1))) (rz_sd A L (a + 6)))) th (nI L) (nI (sk (A 0) L (a + 6) + 1)) 0 (nI N) (nI U) ((nI O) - 1) pi wi he de) hP mkM_ux
                        refine lv_aload_n hx hb (fh_d d_Mo_inList 230 rfl) rfl (lv_at hl 3 rfl) ?_
                        refine fh_get (own := "FormulaSetterModel") (ref := "FormulaSetterModel") (C := "FormulaSetterModel") (T := T_Mo) (N := 53) (v := .int 0) hx hb hT i_Mo hown hK hP mkM_o rfl 4 (by decide) (hT _ w864) (fun _ h9 => h9) rfl (fh_d d_Mo_inList 231 rfl) ?_
                        refine lv_if_ne (tgt := 435) hx hb (fh_d d_Mo_inList 232 rfl) rfl (fun c47 => absurd c47 (by decide)) (fun c47 => ?_)
                        refine lv_aload_n hx hb (fh_d d_Mo_inList 233 rfl) rfl (lv_at hl 3 rfl) ?_
                        refine lv_aload_n hx hb (fh_d d_Mo_inList 234 rfl) rfl (lv_at hl 3 rfl) ?_
                        refine fh_get (own := "FormulaSetterModel") (ref := "FormulaSetterModel") (C := "FormulaSetterModel") (T := T_Mo) (N := 53) (v := .ref (x + 18)) hx hb hT i_Mo hown hK hP mkM_o rfl 24 (by decide) (hT _ w884) (fun _ h9 => h9) rfl (fh_d d_Mo_inList 235 rfl) ?_
                        refine lv_iload_n hx hb (fh_d d_Mo_inList 236 rfl) rfl (lv_at hl 2 rfl) ?_
                        refine fn_iald (f := A 17) (k := O - 1) hx hb hK hP 0 mkM_a17 rfl (nI_m1 hO) (by omega) (by decide) (fh_d d_Mo_inList 237 rfl) ?_
                        have hO1 : 1 ≤ O - 1 := by
                          by_cases q9 : O = 1
                          · exfalso
                            subst q9
                            rw [show A 16 (1 - 1) = A 16 0 from rfl, h00] at qh; exact absurd qh (by decide)
                          · omega
                        rw [nI_m1 hO] at hP
                        rw [g1]
                        refine fh_callV (cc' := c_Mo_deliver) (nL' := 6) (rest := []) (a := x) (As := [.int (nI (ixI (A 17 (O - 1))))]) X hR (m_Mo_deliver l D ct b RO (r - 1) n x g (up2 A 3 (upd (A 3) (ixI (A 17 (O - 1))) (rz_sd A L (a + 6)))) th (nI L) (nI (sk (A 0) L (a + 6) + 1)) 0 (nI N) (nI U) pi wi he de (O - 1) (rz_u A O) g2 hO1 (by omega) ⟨fun j hj => hf.1 j (by omega), hf.2⟩) w1068 w1065 w1067 v38 w9 ⟨by decide, by decide, by show _ = some 1; decide +kernel⟩ (by omega) (by decide) (fh_recv hK hP mkM_o rfl) hP hS hl.1 rfl (by exact Nat.le_of_ble_eq_true rfl) (fh_d d_Mo_inList 238 rfl) ⟨Nat.le_refl _, Nat.le_refl _⟩ (fun v9 h9 n9 H locs hq hP hS => ?_)
                        obtain ⟨rfl, u48, u49⟩ := hq
                        rw [u48, u49] at hP
                        refine lv_goto (tgt := 435) hx hb (fh_d d_Mo_inList 239 rfl) rfl ?_
                        refine lv_iconst (v := 1) hx hb (fh_d d_Mo_inList 242 rfl) (by decide) ?_
                        refine fh_zret X hP hS (fh_d d_Mo_inList 243 rfl) (by decide) ⟨rfl, Or.inl ⟨_, qz, rfl, ?_⟩⟩
                        unfold rz_right
                        rw [if_pos qw]
                        try rfl
                      · refine lv_iconst (v := 1) hx hb (fh_d d_Mo_inList 220 rfl) (by decide) ?_
                        refine lv_goto (tgt := 400) hx hb (fh_d d_Mo_inList 221 rfl) rfl ?_
                        have qw : ¬ (A 16 (O - 1) = 2 ∧ ¬ rz_sd A L (a + 6) < 0) := fun z => z.2 (Int32.not_le.mp c46)
                        refine fh_put (own := "FormulaSetterModel") (ref := "FormulaSetterModel") (C := "FormulaSetterModel") (T := T_Mo) (N := 53) (v := .int 1) (ty := .boolean) hx hb hT i_Mo t_Mo k_Mo n_Mo hown hK hP hS mkM_o rfl 4 (by decide) (hT _ w864) (fun _ h9 => h9) rfl (by decide +kernel) rfl rfl (Nat.le_of_ble_eq_true rfl) (fh_d d_Mo_inList 223 rfl) (fun H locs hP hS => ?_)
                        replace hP := fh_P.eq (h' := mkM ct x g (up2 A 3 (upd (A 3) (ixI (A 17 (O - 1))) (rz_sd A L (a + 6)))) th (nI L) (nI (sk (A 0) L (a + 6) + 1)) 1 (nI N) (nI U) (nI O) pi wi he de) hP mkM_ux
                        refine lv_aload_n hx hb (fh_d d_Mo_inList 224 rfl) rfl (lv_at hl 3 rfl) ?_
                        refine lv_dup hx hb (fh_d d_Mo_inList 225 rfl) rfl ?_
                        refine fh_get (own := "FormulaSetterModel") (ref := "FormulaSetterModel") (C := "FormulaSetterModel") (T := T_Mo) (N := 53) (v := .int (nI O)) hx hb hT i_Mo hown hK hP mkM_o rfl 22 (by decide) (hT _ w882) (fun _ h9 => h9) rfl (fh_d d_Mo_inList 226 rfl) ?_
                        refine lv_iconst (v := 1) hx hb (fh_d d_Mo_inList 227 rfl) (by decide) ?_
                        refine lv_isub hx hb (fh_d d_Mo_inList 228 rfl) ?_
                        refine fh_put (own := "FormulaSetterModel") (ref := "FormulaSetterModel") (C := "FormulaSetterModel") (T := T_Mo) (N := 53) (v := .int ((nI O) - 1)) (ty := .int) hx hb hT i_Mo t_Mo k_Mo n_Mo hown hK hP hS mkM_o rfl 22 (by decide) (hT _ w882) (fun _ h9 => h9) rfl (by decide +kernel) rfl rfl (Nat.le_of_ble_eq_true rfl) (fh_d d_Mo_inList 229 rfl) (fun H locs hP hS => ?_)
                        replace hP := fh_P.eq (h' := mkM ct x g (up2 A 3 (upd (A 3) (ixI (A 17 (O - 1))) (rz_sd A L (a + 6)))) th (nI L) (nI (sk (A 0) L (a + 6) + 1)) 1 (nI N) (nI U) ((nI O) - 1) pi wi he de) hP mkM_ux
                        refine lv_aload_n hx hb (fh_d d_Mo_inList 230 rfl) rfl (lv_at hl 3 rfl) ?_
                        refine fh_get (own := "FormulaSetterModel") (ref := "FormulaSetterModel") (C := "FormulaSetterModel") (T := T_Mo) (N := 53) (v := .int 1) hx hb hT i_Mo hown hK hP mkM_o rfl 4 (by decide) (hT _ w864) (fun _ h9 => h9) rfl (fh_d d_Mo_inList 231 rfl) ?_
                        refine lv_if_ne (tgt := 435) hx hb (fh_d d_Mo_inList 232 rfl) rfl (fun c50 => ?_) (fun c50 => absurd c50 (by decide))
                        refine lv_iconst (v := 1) hx hb (fh_d d_Mo_inList 242 rfl) (by decide) ?_
                        refine fh_zret X hP hS (fh_d d_Mo_inList 243 rfl) (by decide) ⟨rfl, Or.inl ⟨_, qz, rfl, ?_⟩⟩
                        unfold rz_right
                        rw [if_neg qw, nI_m1 hO]
                        try rfl
                    · refine lv_iconst (v := 1) hx hb (fh_d d_Mo_inList 195 rfl) (by decide) ?_
                      refine lv_goto (tgt := 355) hx hb (fh_d d_Mo_inList 196 rfl) rfl ?_
                      have qh : ¬ A 16 (O - 1) = 2 := c42
                      refine fh_put (own := "FormulaSetterModel") (ref := "FormulaSetterModel") (C := "FormulaSetterModel") (T := T_Mo) (N := 53) (v := .int 1) (ty := .boolean) hx hb hT i_Mo t_Mo k_Mo n_Mo hown hK hP hS mkM_o rfl 4 (by decide) (hT _ w864) (fun _ h9 => h9) rfl (by decide +kernel) rfl rfl (Nat.le_of_ble_eq_true rfl) (fh_d d_Mo_inList 198 rfl) (fun H locs hP hS => ?_)
                      replace hP := fh_P.eq (h' := mkM ct x g A th (nI L) ((nI a) + 6) 1 (nI N) (nI U) (nI O) pi wi he de) hP mkM_ux
                      refine lv_aload_n hx hb (fh_d d_Mo_inList 199 rfl) rfl (lv_at hl 3 rfl) ?_
                      refine fh_get (own := "FormulaSetterModel") (ref := "FormulaSetterModel") (C := "FormulaSetterModel") (T := T_Mo) (N := 53) (v := .ref (x + 4)) hx hb hT i_Mo hown hK hP mkM_o rfl 9 (by decide) (hT _ w869) (fun _ h9 => h9) rfl (fh_d d_Mo_inList 200 rfl) ?_
                      refine lv_aload_n hx hb (fh_d d_Mo_inList 201 rfl) rfl (lv_at hl 3 rfl) ?_
                      refine fh_get (own := "FormulaSetterModel") (ref := "FormulaSetterModel") (C := "FormulaSetterModel") (T := T_Mo) (N := 53) (v := .ref (x + 18)) hx hb hT i_Mo hown hK hP mkM_o rfl 24 (by decide) (hT _ w884) (fun _ h9 => h9) rfl (fh_d d_Mo_inList 202 rfl) ?_
                      refine lv_iload_n hx hb (fh_d d_Mo_inList 203 rfl) rfl (lv_at hl 2 rfl) ?_
                      refine fn_iald (f := A 17) (k := O - 1) hx hb hK hP 0 mkM_a17 rfl (nI_m1 hO) (by omega) (by decide) (fh_d d_Mo_inList 204 rfl) ?_
                      refine lv_aload_n hx hb (fh_d d_Mo_inList 205 rfl) rfl (lv_at hl 3 rfl) ?_
                      have hat : nI a + 6 = nI (a + 6) := nI_add a 6
                      rw [hat] at hP
                      refine fh_callV (cc' := c_Mo_side) (nL' := 3) (rest := [.int ((A 17) (O - 1)), .ref (x + 4)]) (a := x) (As := []) X hR (m_Mo_side l D ct b RO hR (r - 1) (by omega) n x g A th 1 (nI N) (nI U) (nI O) pi wi he de L (a + 6) hL (by omega)) w1084 w1081 w1083 v41 w9 ⟨by decide, by decide, by show _ = some 0; decide +kernel⟩ (by omega) (by decide) (fh_recv hK hP mkM_o rfl) hP hS hl.1 rfl (by exact Nat.le_of_ble_eq_true rfl) (fh_d d_Mo_inList 206 rfl) ⟨Nat.le_refl _, Nat.le_refl _⟩ (fun v9 h9 n9 H locs hq hP hS => ?_)
                      obtain ⟨rfl, u51, u52⟩ := hq
                      rw [u51, u52] at hP
                      refine fn_iast (f := A 3) (k := ixI (A 17 (O - 1))) hx hb hK hP hS 0 mkM_a3 rfl (g1) (g2) (by decide) (fh_d d_Mo_inList 207 rfl) (fun H locs hP hS => ?_)
                      replace hP := fh_P.eq (h' := mkM ct x g (up2 A 3 (upd (A 3) (ixI (A 17 (O - 1))) (rz_sd A L (a + 6)))) th (nI L) (nI (sk (A 0) L (a + 6) + 1)) 1 (nI N) (nI U) (nI O) pi wi he de) hP mkM_u3
                      refine lv_aload_n hx hb (fh_d d_Mo_inList 208 rfl) rfl (lv_at hl 3 rfl) ?_
                      refine lv_aload_n hx hb (fh_d d_Mo_inList 209 rfl) rfl (lv_at hl 3 rfl) ?_
                      refine fh_get (own := "FormulaSetterModel") (ref := "FormulaSetterModel") (C := "FormulaSetterModel") (T := T_Mo) (N := 53) (v := .int 1) hx hb hT i_Mo hown hK hP mkM_o rfl 4 (by decide) (hT _ w864) (fun _ h9 => h9) rfl (fh_d d_Mo_inList 210 rfl) ?_
                      refine lv_if_ne (tgt := 395) hx hb (fh_d d_Mo_inList 211 rfl) rfl (fun c53 => ?_) (fun c53 => absurd c53 (by decide))
                      refine lv_iconst (v := 1) hx hb (fh_d d_Mo_inList 220 rfl) (by decide) ?_
                      refine lv_goto (tgt := 400) hx hb (fh_d d_Mo_inList 221 rfl) rfl ?_
                      have qw : ¬ (A 16 (O - 1) = 2 ∧ ¬ rz_sd A L (a + 6) < 0) := fun z => qh z.1
                      refine fh_put (own := "FormulaSetterModel") (ref := "FormulaSetterModel") (C := "FormulaSetterModel") (T := T_Mo) (N := 53) (v := .int 1) (ty := .boolean) hx hb hT i_Mo t_Mo k_Mo n_Mo hown hK hP hS mkM_o rfl 4 (by decide) (hT _ w864) (fun _ h9 => h9) rfl (by decide +kernel) rfl rfl (Nat.le_of_ble_eq_true rfl) (fh_d d_Mo_inList 223 rfl) (fun H locs hP hS => ?_)
                      replace hP := fh_P.eq (h' := mkM ct x g (up2 A 3 (upd (A 3) (ixI (A 17 (O - 1))) (rz_sd A L (a + 6)))) th (nI L) (nI (sk (A 0) L (a + 6) + 1)) 1 (nI N) (nI U) (nI O) pi wi he de) hP mkM_ux
                      refine lv_aload_n hx hb (fh_d d_Mo_inList 224 rfl) rfl (lv_at hl 3 rfl) ?_
                      refine lv_dup hx hb (fh_d d_Mo_inList 225 rfl) rfl ?_
                      refine fh_get (own := "FormulaSetterModel") (ref := "FormulaSetterModel") (C := "FormulaSetterModel") (T := T_Mo) (N := 53) (v := .int (nI O)) hx hb hT i_Mo hown hK hP mkM_o rfl 22 (by decide) (hT _ w882) (fun _ h9 => h9) rfl (fh_d d_Mo_inList 226 rfl) ?_
                      refine lv_iconst (v := 1) hx hb (fh_d d_Mo_inList 227 rfl) (by decide) ?_
                      refine lv_isub hx hb (fh_d d_Mo_inList 228 rfl) ?_
                      refine fh_put (own := "FormulaSetterModel") (ref := "FormulaSetterModel") (C := "FormulaSetterModel") (T := T_Mo) (N := 53) (v := .int ((nI O) - 1)) (ty := .int) hx hb hT i_Mo t_Mo k_Mo n_Mo hown hK hP hS mkM_o rfl 22 (by decide) (hT _ w882) (fun _ h9 => h9) rfl (by decide +kernel) rfl rfl (Nat.le_of_ble_eq_true rfl) (fh_d d_Mo_inList 229 rfl) (fun H locs hP hS => ?_)
                      replace hP := fh_P.eq (h' := mkM ct x g (up2 A 3 (upd (A 3) (ixI (A 17 (O - 1))) (rz_sd A L (a + 6)))) th (nI L) (nI (sk (A 0) L (a + 6) + 1)) 1 (nI N) (nI U) ((nI O) - 1) pi wi he de) hP mkM_ux
                      refine lv_aload_n hx hb (fh_d d_Mo_inList 230 rfl) rfl (lv_at hl 3 rfl) ?_
                      refine fh_get (own := "FormulaSetterModel") (ref := "FormulaSetterModel") (C := "FormulaSetterModel") (T := T_Mo) (N := 53) (v := .int 1) hx hb hT i_Mo hown hK hP mkM_o rfl 4 (by decide) (hT _ w864) (fun _ h9 => h9) rfl (fh_d d_Mo_inList 231 rfl) ?_
                      refine lv_if_ne (tgt := 435) hx hb (fh_d d_Mo_inList 232 rfl) rfl (fun c54 => ?_) (fun c54 => absurd c54 (by decide))
                      refine lv_iconst (v := 1) hx hb (fh_d d_Mo_inList 242 rfl) (by decide) ?_
                      refine fh_zret X hP hS (fh_d d_Mo_inList 243 rfl) (by decide) ⟨rfl, Or.inl ⟨_, qz, rfl, ?_⟩⟩
                      unfold rz_right
                      rw [if_neg qw, nI_m1 hO]
                      try rfl
              · have qz : rz_in A L a N U O = some (rz_row A a N U O) := ((((if_neg (fun z => z.elim c1 c14))).trans (if_neg c15)).trans (if_neg c16)).trans (if_pos ⟨c17, c37⟩)
                refine lv_aload_n hx hb (fh_d d_Mo_inList 148 rfl) rfl (lv_at hl 3 rfl) ?_
                refine lv_iload_n hx hb (fh_d d_Mo_inList 149 rfl) rfl (lv_at hl 0 rfl) ?_
                refine lv_if_ne (tgt := 276) hx hb (fh_d d_Mo_inList 150 rfl) rfl (fun c55 => ?_) (fun c55 => ?_)
                · refine lv_iconst (v := 0) hx hb (fh_d d_Mo_inList 153 rfl) (by decide) ?_
                  have qw : rz_cl A O = 0 := if_pos (hv.elim (fun z4 => z4.2) (fun z4 => absurd z4.1 c55))
                  refine fh_put (own := "FormulaSetterModel") (ref := "FormulaSetterModel") (C := "FormulaSetterModel") (T := T_Mo) (N := 53) (v := .int 0) (ty := .boolean) hx hb hT i_Mo t_Mo k_Mo n_Mo hown hK hP hS mkM_o rfl 4 (by decide) (hT _ w864) (fun _ h9 => h9) rfl (by decide +kernel) rfl rfl (Nat.le_of_ble_eq_true rfl) (fh_d d_Mo_inList 154 rfl) (fun H locs hP hS => ?_)
                  replace hP := fh_P.eq (h' := mkM ct x g A th (nI L) (nI a) 0 (nI N) (nI U) (nI O) pi wi he de) hP mkM_ux
                  refine lv_aload_n hx hb (fh_d d_Mo_inList 155 rfl) rfl (lv_at hl 3 rfl) ?_
                  refine lv_dup hx hb (fh_d d_Mo_inList 156 rfl) rfl ?_
                  refine fh_get (own := "FormulaSetterModel") (ref := "FormulaSetterModel") (C := "FormulaSetterModel") (T := T_Mo) (N := 53) (v := .int (nI a)) hx hb hT i_Mo hown hK hP mkM_o rfl 3 (by decide) (hT _ w863) (fun _ h9 => h9) rfl (fh_d d_Mo_inList 157 rfl) ?_
                  refine lv_iconst (v := 2) hx hb (fh_d d_Mo_inList 158 rfl) (by decide) ?_
                  refine lv_iadd hx hb (fh_d d_Mo_inList 159 rfl) ?_
                  refine fh_put (own := "FormulaSetterModel") (ref := "FormulaSetterModel") (C := "FormulaSetterModel") (T := T_Mo) (N := 53) (v := .int ((nI a) + 2)) (ty := .int) hx hb hT i_Mo t_Mo k_Mo n_Mo hown hK hP hS mkM_o rfl 3 (by decide) (hT _ w863) (fun _ h9 => h9) rfl (by decide +kernel) rfl rfl (Nat.le_of_ble_eq_true rfl) (fh_d d_Mo_inList 160 rfl) (fun H locs hP hS => ?_)
                  replace hP := fh_P.eq (h' := mkM ct x g A th (nI L) ((nI a) + 2) 0 (nI N) (nI U) (nI O) pi wi he de) hP mkM_ux
                  refine lv_aload_n hx hb (fh_d d_Mo_inList 161 rfl) rfl (lv_at hl 3 rfl) ?_
                  refine lv_aload_n hx hb (fh_d d_Mo_inList 162 rfl) rfl (lv_at hl 3 rfl) ?_
                  refine fh_get (own := "FormulaSetterModel") (ref := "FormulaSetterModel") (C := "FormulaSetterModel") (T := T_Mo) (N := 53) (v := .ref (x + 9)) hx hb hT i_Mo hown hK hP mkM_o rfl 14 (by decide) (hT _ w874) (fun _ h9 => h9) rfl (fh_d d_Mo_inList 163 rfl) ?_
                  refine lv_aload_n hx hb (fh_d d_Mo_inList 164 rfl) rfl (lv_at hl 3 rfl) ?_
                  refine fh_get (own := "FormulaSetterModel") (ref := "FormulaSetterModel") (C := "FormulaSetterModel") (T := T_Mo) (N := 53) (v := .ref (x + 19)) hx hb hT i_Mo hown hK hP mkM_o rfl 25 (by decide) (hT _ w885) (fun _ h9 => h9) rfl (fh_d d_Mo_inList 165 rfl) ?_
                  refine lv_iload_n hx hb (fh_d d_Mo_inList 166 rfl) rfl (lv_at hl 2 rfl) ?_
                  refine fn_iald (f := A 18) (k := O - 1) hx hb hK hP 0 mkM_a18 rfl (nI_m1 hO) (by omega) (by decide) (fh_d d_Mo_inList 167 rfl) ?_
                  refine fn_iald (f := A 8) (k := ixI (A 18 (O - 1))) hx hb hK hP 0 mkM_a8 rfl (g3) (g4) (by decide) (fh_d d_Mo_inList 168 rfl) ?_
                  refine lv_iconst (v := 1) hx hb (fh_d d_Mo_inList 169 rfl) (by decide) ?_
                  refine lv_iadd hx hb (fh_d d_Mo_inList 170 rfl) ?_
                  refine lv_iconst (v := 0) hx hb (fh_d d_Mo_inList 171 rfl) (by decide) ?_
                  refine fh_callV (cc' := c_Mo_cell) (nL' := 5) (rest := []) (a := x) (As := [.int (((A 8) (ixI (A 18 (O - 1)))) + 1), .int 0]) X hR (m_Mo_cell l D ct b RO hR (r - 1) (by omega) n x g A th (nI L) ((nI a) + 2) 0 (nI U) pi wi he de (((A 8) (ixI (A 18 (O - 1)))) + 1) 0 N O (rz_q A O) (by omega) hO (by omega) g3 g4) w1072 w1069 w1071 v39 w9 ⟨by decide, by decide, by show _ = some 2; decide +kernel⟩ (by omega) (by decide) (fh_recv hK hP mkM_o rfl) hP hS hl.1 rfl (by exact Nat.le_of_ble_eq_true rfl) (fh_d d_Mo_inList 172 rfl) ⟨Nat.le_refl _, Nat.le_refl _⟩ (fun v9 h9 n9 H locs hq hP hS => ?_)
                  obtain ⟨rfl, u56, u57⟩ := hq
                  rw [u56, u57] at hP
                  refine lv_goto (tgt := 435) hx hb (fh_d d_Mo_inList 173 rfl) rfl ?_
                  refine lv_iconst (v := 1) hx hb (fh_d d_Mo_inList 242 rfl) (by decide) ?_
                  refine fh_zret X hP hS (fh_d d_Mo_inList 243 rfl) (by decide) ⟨rfl, Or.inl ⟨_, qz, rfl, ?_⟩⟩
                  unfold rz_row
                  rw [qw, show nI a + 2 = nI (a + 2) from nI_add a 2]
                  try rfl
                · refine lv_iconst (v := 1) hx hb (fh_d d_Mo_inList 151 rfl) (by decide) ?_
                  refine lv_goto (tgt := 277) hx hb (fh_d d_Mo_inList 152 rfl) rfl ?_
                  have qw : rz_cl A O = 1 := if_neg (hv.elim (fun z4 => absurd (z4.1.symm.trans c55) (by decide)) (fun z4 => z4.2))
                  refine fh_put (own := "FormulaSetterModel") (ref := "FormulaSetterModel") (C := "FormulaSetterModel") (T := T_Mo) (N := 53) (v := .int 1) (ty := .boolean) hx hb hT i_Mo t_Mo k_Mo n_Mo hown hK hP hS mkM_o rfl 4 (by decide) (hT _ w864) (fun _ h9 => h9) rfl (by decide +kernel) rfl rfl (Nat.le_of_ble_eq_true rfl) (fh_d d_Mo_inList 154 rfl) (fun H locs hP hS => ?_)
                  replace hP := fh_P.eq (h' := mkM ct x g A th (nI L) (nI a) 1 (nI N) (nI U) (nI O) pi wi he de) hP mkM_ux
                  refine lv_aload_n hx hb (fh_d d_Mo_inList 155 rfl) rfl (lv_at hl 3 rfl) ?_
                  refine lv_dup hx hb (fh_d d_Mo_inList 156 rfl) rfl ?_
                  refine fh_get (own := "FormulaSetterModel") (ref := "FormulaSetterModel") (C := "FormulaSetterModel") (T := T_Mo) (N := 53) (v := .int (nI a)) hx hb hT i_Mo hown hK hP mkM_o rfl 3 (by decide) (hT _ w863) (fun _ h9 => h9) rfl (fh_d d_Mo_inList 157 rfl) ?_
                  refine lv_iconst (v := 2) hx hb (fh_d d_Mo_inList 158 rfl) (by decide) ?_
                  refine lv_iadd hx hb (fh_d d_Mo_inList 159 rfl) ?_
                  refine fh_put (own := "FormulaSetterModel") (ref := "FormulaSetterModel") (C := "FormulaSetterModel") (T := T_Mo) (N := 53) (v := .int ((nI a) + 2)) (ty := .int) hx hb hT i_Mo t_Mo k_Mo n_Mo hown hK hP hS mkM_o rfl 3 (by decide) (hT _ w863) (fun _ h9 => h9) rfl (by decide +kernel) rfl rfl (Nat.le_of_ble_eq_true rfl) (fh_d d_Mo_inList 160 rfl) (fun H locs hP hS => ?_)
                  replace hP := fh_P.eq (h' := mkM ct x g A th (nI L) ((nI a) + 2) 1 (nI N) (nI U) (nI O) pi wi he de) hP mkM_ux
                  refine lv_aload_n hx hb (fh_d d_Mo_inList 161 rfl) rfl (lv_at hl 3 rfl) ?_
                  refine lv_aload_n hx hb (fh_d d_Mo_inList 162 rfl) rfl (lv_at hl 3 rfl) ?_
                  refine fh_get (own := "FormulaSetterModel") (ref := "FormulaSetterModel") (C := "FormulaSetterModel") (T := T_Mo) (N := 53) (v := .ref (x + 9)) hx hb hT i_Mo hown hK hP mkM_o rfl 14 (by decide) (hT _ w874) (fun _ h9 => h9) rfl (fh_d d_Mo_inList 163 rfl) ?_
                  refine lv_aload_n hx hb (fh_d d_Mo_inList 164 rfl) rfl (lv_at hl 3 rfl) ?_
                  refine fh_get (own := "FormulaSetterModel") (ref := "FormulaSetterModel") (C := "FormulaSetterModel") (T := T_Mo) (N := 53) (v := .ref (x + 19)) hx hb hT i_Mo hown hK hP mkM_o rfl 25 (by decide) (hT _ w885) (fun _ h9 => h9) rfl (fh_d d_Mo_inList 165 rfl) ?_
                  refine lv_iload_n hx hb (fh_d d_Mo_inList 166 rfl) rfl (lv_at hl 2 rfl) ?_
                  refine fn_iald (f := A 18) (k := O - 1) hx hb hK hP 0 mkM_a18 rfl (nI_m1 hO) (by omega) (by decide) (fh_d d_Mo_inList 167 rfl) ?_
                  refine fn_iald (f := A 8) (k := ixI (A 18 (O - 1))) hx hb hK hP 0 mkM_a8 rfl (g3) (g4) (by decide) (fh_d d_Mo_inList 168 rfl) ?_
                  refine lv_iconst (v := 1) hx hb (fh_d d_Mo_inList 169 rfl) (by decide) ?_
                  refine lv_iadd hx hb (fh_d d_Mo_inList 170 rfl) ?_
                  refine lv_iconst (v := 0) hx hb (fh_d d_Mo_inList 171 rfl) (by decide) ?_
                  refine fh_callV (cc' := c_Mo_cell) (nL' := 5) (rest := []) (a := x) (As := [.int (((A 8) (ixI (A 18 (O - 1)))) + 1), .int 0]) X hR (m_Mo_cell l D ct b RO hR (r - 1) (by omega) n x g A th (nI L) ((nI a) + 2) 1 (nI U) pi wi he de (((A 8) (ixI (A 18 (O - 1)))) + 1) 0 N O (rz_q A O) (by omega) hO (by omega) g3 g4) w1072 w1069 w1071 v39 w9 ⟨by decide, by decide, by show _ = some 2; decide +kernel⟩ (by omega) (by decide) (fh_recv hK hP mkM_o rfl) hP hS hl.1 rfl (by exact Nat.le_of_ble_eq_true rfl) (fh_d d_Mo_inList 172 rfl) ⟨Nat.le_refl _, Nat.le_refl _⟩ (fun v9 h9 n9 H locs hq hP hS => ?_)
                  obtain ⟨rfl, u58, u59⟩ := hq
                  rw [u58, u59] at hP
                  refine lv_goto (tgt := 435) hx hb (fh_d d_Mo_inList 173 rfl) rfl ?_
                  refine lv_iconst (v := 1) hx hb (fh_d d_Mo_inList 242 rfl) (by decide) ?_
                  refine fh_zret X hP hS (fh_d d_Mo_inList 243 rfl) (by decide) ⟨rfl, Or.inl ⟨_, qz, rfl, ?_⟩⟩
                  unfold rz_row
                  rw [qw, show nI a + 2 = nI (a + 2) from nI_add a 2]
                  try rfl
          · have qz : rz_in A L a N U O = some (rz_amp A a N U O) := (((if_neg (fun z => z.elim c1 c14))).trans (if_neg c15)).trans (if_pos c16)
            refine lv_aload_n hx hb (fh_d d_Mo_inList 108 rfl) rfl (lv_at hl 3 rfl) ?_
            refine lv_iload_n hx hb (fh_d d_Mo_inList 109 rfl) rfl (lv_at hl 0 rfl) ?_
            refine lv_if_ne (tgt := 206) hx hb (fh_d d_Mo_inList 110 rfl) rfl (fun c60 => ?_) (fun c60 => ?_)
            · refine lv_iconst (v := 0) hx hb (fh_d d_Mo_inList 113 rfl) (by decide) ?_
              have qw : rz_cl A O = 0 := if_pos (hv.elim (fun z4 => z4.2) (fun z4 => absurd z4.1 c60))
              refine fh_put (own := "FormulaSetterModel") (ref := "FormulaSetterModel") (C := "FormulaSetterModel") (T := T_Mo) (N := 53) (v := .int 0) (ty := .boolean) hx hb hT i_Mo t_Mo k_Mo n_Mo hown hK hP hS mkM_o rfl 4 (by decide) (hT _ w864) (fun _ h9 => h9) rfl (by decide +kernel) rfl rfl (Nat.le_of_ble_eq_true rfl) (fh_d d_Mo_inList 114 rfl) (fun H locs hP hS => ?_)
              replace hP := fh_P.eq (h' := mkM ct x g A th (nI L) (nI a) 0 (nI N) (nI U) (nI O) pi wi he de) hP mkM_ux
              refine lv_aload_n hx hb (fh_d d_Mo_inList 115 rfl) rfl (lv_at hl 3 rfl) ?_
              refine lv_dup hx hb (fh_d d_Mo_inList 116 rfl) rfl ?_
              refine fh_get (own := "FormulaSetterModel") (ref := "FormulaSetterModel") (C := "FormulaSetterModel") (T := T_Mo) (N := 53) (v := .int (nI a)) hx hb hT i_Mo hown hK hP mkM_o rfl 3 (by decide) (hT _ w863) (fun _ h9 => h9) rfl (fh_d d_Mo_inList 117 rfl) ?_
              refine lv_iconst (v := 1) hx hb (fh_d d_Mo_inList 118 rfl) (by decide) ?_
              refine lv_iadd hx hb (fh_d d_Mo_inList 119 rfl) ?_
              refine fh_put (own := "FormulaSetterModel") (ref := "FormulaSetterModel") (C := "FormulaSetterModel") (T := T_Mo) (N := 53) (v := .int ((nI a) + 1)) (ty := .int) hx hb hT i_Mo t_Mo k_Mo n_Mo hown hK hP hS mkM_o rfl 3 (by decide) (hT _ w863) (fun _ h9 => h9) rfl (by decide +kernel) rfl rfl (Nat.le_of_ble_eq_true rfl) (fh_d d_Mo_inList 120 rfl) (fun H locs hP hS => ?_)
              replace hP := fh_P.eq (h' := mkM ct x g A th (nI L) ((nI a) + 1) 0 (nI N) (nI U) (nI O) pi wi he de) hP mkM_ux
              refine lv_aload_n hx hb (fh_d d_Mo_inList 121 rfl) rfl (lv_at hl 3 rfl) ?_
              refine lv_aload_n hx hb (fh_d d_Mo_inList 122 rfl) rfl (lv_at hl 3 rfl) ?_
              refine fh_get (own := "FormulaSetterModel") (ref := "FormulaSetterModel") (C := "FormulaSetterModel") (T := T_Mo) (N := 53) (v := .ref (x + 9)) hx hb hT i_Mo hown hK hP mkM_o rfl 14 (by decide) (hT _ w874) (fun _ h9 => h9) rfl (fh_d d_Mo_inList 123 rfl) ?_
              refine lv_aload_n hx hb (fh_d d_Mo_inList 124 rfl) rfl (lv_at hl 3 rfl) ?_
              refine fh_get (own := "FormulaSetterModel") (ref := "FormulaSetterModel") (C := "FormulaSetterModel") (T := T_Mo) (N := 53) (v := .ref (x + 19)) hx hb hT i_Mo hown hK hP mkM_o rfl 25 (by decide) (hT _ w885) (fun _ h9 => h9) rfl (fh_d d_Mo_inList 125 rfl) ?_
              refine lv_iload_n hx hb (fh_d d_Mo_inList 126 rfl) rfl (lv_at hl 2 rfl) ?_
              refine fn_iald (f := A 18) (k := O - 1) hx hb hK hP 0 mkM_a18 rfl (nI_m1 hO) (by omega) (by decide) (fh_d d_Mo_inList 127 rfl) ?_
              refine fn_iald (f := A 8) (k := ixI (A 18 (O - 1))) hx hb hK hP 0 mkM_a8 rfl (g3) (g4) (by decide) (fh_d d_Mo_inList 128 rfl) ?_
              refine lv_aload_n hx hb (fh_d d_Mo_inList 129 rfl) rfl (lv_at hl 3 rfl) ?_
              refine fh_get (own := "FormulaSetterModel") (ref := "FormulaSetterModel") (C := "FormulaSetterModel") (T := T_Mo) (N := 53) (v := .ref (x + 10)) hx hb hT i_Mo hown hK hP mkM_o rfl 15 (by decide) (hT _ w875) (fun _ h9 => h9) rfl (fh_d d_Mo_inList 130 rfl) ?_
              refine lv_aload_n hx hb (fh_d d_Mo_inList 131 rfl) rfl (lv_at hl 3 rfl) ?_
              refine fh_get (own := "FormulaSetterModel") (ref := "FormulaSetterModel") (C := "FormulaSetterModel") (T := T_Mo) (N := 53) (v := .ref (x + 19)) hx hb hT i_Mo hown hK hP mkM_o rfl 25 (by decide) (hT _ w885) (fun _ h9 => h9) rfl (fh_d d_Mo_inList 132 rfl) ?_
              refine lv_iload_n hx hb (fh_d d_Mo_inList 133 rfl) rfl (lv_at hl 2 rfl) ?_
              refine fn_iald (f := A 18) (k := O - 1) hx hb hK hP 0 mkM_a18 rfl (nI_m1 hO) (by omega) (by decide) (fh_d d_Mo_inList 134 rfl) ?_
              refine fn_iald (f := A 9) (k := ixI (A 18 (O - 1))) hx hb hK hP 0 mkM_a9 rfl (g3) (g4) (by decide) (fh_d d_Mo_inList 135 rfl) ?_
              refine lv_iconst (v := 1) hx hb (fh_d d_Mo_inList 136 rfl) (by decide) ?_
              refine lv_iadd hx hb (fh_d d_Mo_inList 137 rfl) ?_
              refine fh_callV (cc' := c_Mo_cell) (nL' := 5) (rest := []) (a := x) (As := [.int ((A 8) (ixI (A 18 (O - 1)))), .int (((A 9) (ixI (A 18 (O - 1)))) + 1)]) X hR (m_Mo_cell l D ct b RO hR (r - 1) (by omega) n x g A th (nI L) ((nI a) + 1) 0 (nI U) pi wi he de ((A 8) (ixI (A 18 (O - 1)))) (((A 9) (ixI (A 18 (O - 1)))) + 1) N O (rz_q A O) (by omega) hO (by omega) g3 g4) w1072 w1069 w1071 v39 w9 ⟨by decide, by decide, by show _ = some 2; decide +kernel⟩ (by omega) (by decide) (fh_recv hK hP mkM_o rfl) hP hS hl.1 rfl (by exact Nat.le_of_ble_eq_true rfl) (fh_d d_Mo_inList 138 rfl) ⟨Nat.le_refl _, Nat.le_refl _⟩ (fun v9 h9 n9 H locs hq hP hS => ?_)
              obtain ⟨rfl, u61, u62⟩ := hq
              rw [u61, u62] at hP
              refine lv_goto (tgt := 435) hx hb (fh_d d_Mo_inList 139 rfl) rfl ?_
              refine lv_iconst (v := 1) hx hb (fh_d d_Mo_inList 242 rfl) (by decide) ?_
              refine fh_zret X hP hS (fh_d d_Mo_inList 243 rfl) (by decide) ⟨rfl, Or.inl ⟨_, qz, rfl, ?_⟩⟩
              unfold rz_amp
              rw [qw, nI_1 a]
              try rfl
            · refine lv_iconst (v := 1) hx hb (fh_d d_Mo_inList 111 rfl) (by decide) ?_
              refine lv_goto (tgt := 207) hx hb (fh_d d_Mo_inList 112 rfl) rfl ?_
              have qw : rz_cl A O = 1 := if_neg (hv.elim (fun z4 => absurd (z4.1.symm.trans c60) (by decide)) (fun z4 => z4.2))
              refine fh_put (own := "FormulaSetterModel") (ref := "FormulaSetterModel") (C := "FormulaSetterModel") (T := T_Mo) (N := 53) (v := .int 1) (ty := .boolean) hx hb hT i_Mo t_Mo k_Mo n_Mo hown hK hP hS mkM_o rfl 4 (by decide) (hT _ w864) (fun _ h9 => h9) rfl (by decide +kernel) rfl rfl (Nat.le_of_ble_eq_true rfl) (fh_d d_Mo_inList 114 rfl) (fun H locs hP hS => ?_)
              replace hP := fh_P.eq (h' := mkM ct x g A th (nI L) (nI a) 1 (nI N) (nI U) (nI O) pi wi he de) hP mkM_ux
              refine lv_aload_n hx hb (fh_d d_Mo_inList 115 rfl) rfl (lv_at hl 3 rfl) ?_
              refine lv_dup hx hb (fh_d d_Mo_inList 116 rfl) rfl ?_
              refine fh_get (own := "FormulaSetterModel") (ref := "FormulaSetterModel") (C := "FormulaSetterModel") (T := T_Mo) (N := 53) (v := .int (nI a)) hx hb hT i_Mo hown hK hP mkM_o rfl 3 (by decide) (hT _ w863) (fun _ h9 => h9) rfl (fh_d d_Mo_inList 117 rfl) ?_
              refine lv_iconst (v := 1) hx hb (fh_d d_Mo_inList 118 rfl) (by decide) ?_
              refine lv_iadd hx hb (fh_d d_Mo_inList 119 rfl) ?_
              refine fh_put (own := "FormulaSetterModel") (ref := "FormulaSetterModel") (C := "FormulaSetterModel") (T := T_Mo) (N := 53) (v := .int ((nI a) + 1)) (ty := .int) hx hb hT i_Mo t_Mo k_Mo n_Mo hown hK hP hS mkM_o rfl 3 (by decide) (hT _ w863) (fun _ h9 => h9) rfl (by decide +kernel) rfl rfl (Nat.le_of_ble_eq_true rfl) (fh_d d_Mo_inList 120 rfl) (fun H locs hP hS => ?_)
              replace hP := fh_P.eq (h' := mkM ct x g A th (nI L) ((nI a) + 1) 1 (nI N) (nI U) (nI O) pi wi he de) hP mkM_ux
              refine lv_aload_n hx hb (fh_d d_Mo_inList 121 rfl) rfl (lv_at hl 3 rfl) ?_
              refine lv_aload_n hx hb (fh_d d_Mo_inList 122 rfl) rfl (lv_at hl 3 rfl) ?_
              refine fh_get (own := "FormulaSetterModel") (ref := "FormulaSetterModel") (C := "FormulaSetterModel") (T := T_Mo) (N := 53) (v := .ref (x + 9)) hx hb hT i_Mo hown hK hP mkM_o rfl 14 (by decide) (hT _ w874) (fun _ h9 => h9) rfl (fh_d d_Mo_inList 123 rfl) ?_
              refine lv_aload_n hx hb (fh_d d_Mo_inList 124 rfl) rfl (lv_at hl 3 rfl) ?_
              refine fh_get (own := "FormulaSetterModel") (ref := "FormulaSetterModel") (C := "FormulaSetterModel") (T := T_Mo) (N := 53) (v := .ref (x + 19)) hx hb hT i_Mo hown hK hP mkM_o rfl 25 (by decide) (hT _ w885) (fun _ h9 => h9) rfl (fh_d d_Mo_inList 125 rfl) ?_
              refine lv_iload_n hx hb (fh_d d_Mo_inList 126 rfl) rfl (lv_at hl 2 rfl) ?_
              refine fn_iald (f := A 18) (k := O - 1) hx hb hK hP 0 mkM_a18 rfl (nI_m1 hO) (by omega) (by decide) (fh_d d_Mo_inList 127 rfl) ?_
              refine fn_iald (f := A 8) (k := ixI (A 18 (O - 1))) hx hb hK hP 0 mkM_a8 rfl (g3) (g4) (by decide) (fh_d d_Mo_inList 128 rfl) ?_
              refine lv_aload_n hx hb (fh_d d_Mo_inList 129 rfl) rfl (lv_at hl 3 rfl) ?_
              refine fh_get (own := "FormulaSetterModel") (ref := "FormulaSetterModel") (C := "FormulaSetterModel") (T := T_Mo) (N := 53) (v := .ref (x + 10)) hx hb hT i_Mo hown hK hP mkM_o rfl 15 (by decide) (hT _ w875) (fun _ h9 => h9) rfl (fh_d d_Mo_inList 130 rfl) ?_
              refine lv_aload_n hx hb (fh_d d_Mo_inList 131 rfl) rfl (lv_at hl 3 rfl) ?_
              refine fh_get (own := "FormulaSetterModel") (ref := "FormulaSetterModel") (C := "FormulaSetterModel") (T := T_Mo) (N := 53) (v := .ref (x + 19)) hx hb hT i_Mo hown hK hP mkM_o rfl 25 (by decide) (hT _ w885) (fun _ h9 => h9) rfl (fh_d d_Mo_inList 132 rfl) ?_
              refine lv_iload_n hx hb (fh_d d_Mo_inList 133 rfl) rfl (lv_at hl 2 rfl) ?_
              refine fn_iald (f := A 18) (k := O - 1) hx hb hK hP 0 mkM_a18 rfl (nI_m1 hO) (by omega) (by decide) (fh_d d_Mo_inList 134 rfl) ?_
              refine fn_iald (f := A 9) (k := ixI (A 18 (O - 1))) hx hb hK hP 0 mkM_a9 rfl (g3) (g4) (by decide) (fh_d d_Mo_inList 135 rfl) ?_
              refine lv_iconst (v := 1) hx hb (fh_d d_Mo_inList 136 rfl) (by decide) ?_
              refine lv_iadd hx hb (fh_d d_Mo_inList 137 rfl) ?_
              refine fh_callV (cc' := c_Mo_cell) (nL' := 5) (rest := []) (a := x) (As := [.int ((A 8) (ixI (A 18 (O - 1)))), .int (((A 9) (ixI (A 18 (O - 1)))) + 1)]) X hR (m_Mo_cell l D ct b RO hR (r - 1) (by omega) n x g A th (nI L) ((nI a) + 1) 1 (nI U) pi wi he de ((A 8) (ixI (A 18 (O - 1)))) (((A 9) (ixI (A 18 (O - 1)))) + 1) N O (rz_q A O) (by omega) hO (by omega) g3 g4) w1072 w1069 w1071 v39 w9 ⟨by decide, by decide, by show _ = some 2; decide +kernel⟩ (by omega) (by decide) (fh_recv hK hP mkM_o rfl) hP hS hl.1 rfl (by exact Nat.le_of_ble_eq_true rfl) (fh_d d_Mo_inList 138 rfl) ⟨Nat.le_refl _, Nat.le_refl _⟩ (fun v9 h9 n9 H locs hq hP hS => ?_)
              obtain ⟨rfl, u63, u64⟩ := hq
              rw [u63, u64] at hP
              refine lv_goto (tgt := 435) hx hb (fh_d d_Mo_inList 139 rfl) rfl ?_
              refine lv_iconst (v := 1) hx hb (fh_d d_Mo_inList 242 rfl) (by decide) ?_
              refine fh_zret X hP hS (fh_d d_Mo_inList 243 rfl) (by decide) ⟨rfl, Or.inl ⟨_, qz, rfl, ?_⟩⟩
              unfold rz_amp
              rw [qw, nI_1 a]
              try rfl
        · have qn1 : ¬ (hre (A 0) L a = 94 ∨ hre (A 0) L a = 95) := fun z => z.elim c1 c14
          have qz : rz_in A L a N U O = some (rz_close A a N U O) := (if_neg qn1).trans (if_pos c15)
          refine lv_aload_n hx hb (fh_d d_Mo_inList 70 rfl) rfl (lv_at hl 3 rfl) ?_
          refine lv_aload_n hx hb (fh_d d_Mo_inList 71 rfl) rfl (lv_at hl 3 rfl) ?_
          refine fh_get (own := "FormulaSetterModel") (ref := "FormulaSetterModel") (C := "FormulaSetterModel") (T := T_Mo) (N := 53) (v := .ref (x + 17)) hx hb hT i_Mo hown hK hP mkM_o rfl 23 (by decide) (hT _ w883) (fun _ h9 => h9) rfl (fh_d d_Mo_inList 72 rfl) ?_
          refine lv_iload_n hx hb (fh_d d_Mo_inList 73 rfl) rfl (lv_at hl 2 rfl) ?_
          refine fn_iald (f := A 16) (k := O - 1) hx hb hK hP 0 mkM_a16 rfl (nI_m1 hO) (by omega) (by decide) (fh_d d_Mo_inList 74 rfl) ?_
          refine lv_iconst (v := 1) hx hb (fh_d d_Mo_inList 75 rfl) (by decide) ?_
          refine lv_icmp_eq (tgt := 147) hx hb (fh_d d_Mo_inList 76 rfl) rfl (fun c65 => ?_) (fun c65 => ?_)
          · refine lv_iconst (v := 0) hx hb (fh_d d_Mo_inList 81 rfl) (by decide) ?_
            have qw : A 16 (O - 1) = 1 ∨ A 16 (O - 1) = 3 := Or.inl c65
            refine fh_put (own := "FormulaSetterModel") (ref := "FormulaSetterModel") (C := "FormulaSetterModel") (T := T_Mo) (N := 53) (v := .int 0) (ty := .boolean) hx hb hT i_Mo t_Mo k_Mo n_Mo hown hK hP hS mkM_o rfl 4 (by decide) (hT _ w864) (fun _ h9 => h9) rfl (by decide +kernel) rfl rfl (Nat.le_of_ble_eq_true rfl) (fh_d d_Mo_inList 82 rfl) (fun H locs hP hS => ?_)
            replace hP := fh_P.eq (h' := mkM ct x g A th (nI L) (nI a) 0 (nI N) (nI U) (nI O) pi wi he de) hP mkM_ux
            refine lv_aload_n hx hb (fh_d d_Mo_inList 83 rfl) rfl (lv_at hl 3 rfl) ?_
            refine lv_dup hx hb (fh_d d_Mo_inList 84 rfl) rfl ?_
            refine fh_get (own := "FormulaSetterModel") (ref := "FormulaSetterModel") (C := "FormulaSetterModel") (T := T_Mo) (N := 53) (v := .int (nI a)) hx hb hT i_Mo hown hK hP mkM_o rfl 3 (by decide) (hT _ w863) (fun _ h9 => h9) rfl (fh_d d_Mo_inList 85 rfl) ?_
            refine lv_iconst (v := 1) hx hb (fh_d d_Mo_inList 86 rfl) (by decide) ?_
            refine lv_iadd hx hb (fh_d d_Mo_inList 87 rfl) ?_
            refine fh_put (own := "FormulaSetterModel") (ref := "FormulaSetterModel") (C := "FormulaSetterModel") (T := T_Mo) (N := 53) (v := .int ((nI a) + 1)) (ty := .int) hx hb hT i_Mo t_Mo k_Mo n_Mo hown hK hP hS mkM_o rfl 3 (by decide) (hT _ w863) (fun _ h9 => h9) rfl (by decide +kernel) rfl rfl (Nat.le_of_ble_eq_true rfl) (fh_d d_Mo_inList 88 rfl) (fun H locs hP hS => ?_)
            replace hP := fh_P.eq (h' := mkM ct x g A th (nI L) ((nI a) + 1) 0 (nI N) (nI U) (nI O) pi wi he de) hP mkM_ux
            refine lv_aload_n hx hb (fh_d d_Mo_inList 89 rfl) rfl (lv_at hl 3 rfl) ?_
            refine lv_dup hx hb (fh_d d_Mo_inList 90 rfl) rfl ?_
            refine fh_get (own := "FormulaSetterModel") (ref := "FormulaSetterModel") (C := "FormulaSetterModel") (T := T_Mo) (N := 53) (v := .int (nI O)) hx hb hT i_Mo hown hK hP mkM_o rfl 22 (by decide) (hT _ w882) (fun _ h9 => h9) rfl (fh_d d_Mo_inList 91 rfl) ?_
            refine lv_iconst (v := 1) hx hb (fh_d d_Mo_inList 92 rfl) (by decide) ?_
            refine lv_isub hx hb (fh_d d_Mo_inList 93 rfl) ?_
            refine fh_put (own := "FormulaSetterModel") (ref := "FormulaSetterModel") (C := "FormulaSetterModel") (T := T_Mo) (N := 53) (v := .int ((nI O) - 1)) (ty := .int) hx hb hT i_Mo t_Mo k_Mo n_Mo hown hK hP hS mkM_o rfl 22 (by decide) (hT _ w882) (fun _ h9 => h9) rfl (by decide +kernel) rfl rfl (Nat.le_of_ble_eq_true rfl) (fh_d d_Mo_inList 94 rfl) (fun H locs hP hS => ?_)
            replace hP := fh_P.eq (h' := mkM ct x g A th (nI L) ((nI a) + 1) 0 (nI N) (nI U) ((nI O) - 1) pi wi he de) hP mkM_ux
            refine lv_aload_n hx hb (fh_d d_Mo_inList 95 rfl) rfl (lv_at hl 3 rfl) ?_
            refine fh_get (own := "FormulaSetterModel") (ref := "FormulaSetterModel") (C := "FormulaSetterModel") (T := T_Mo) (N := 53) (v := .int 0) hx hb hT i_Mo hown hK hP mkM_o rfl 4 (by decide) (hT _ w864) (fun _ h9 => h9) rfl (fh_d d_Mo_inList 96 rfl) ?_
            refine lv_if_ne (tgt := 435) hx hb (fh_d d_Mo_inList 97 rfl) rfl (fun c66 => absurd c66 (by decide)) (fun c66 => ?_)
            refine lv_aload_n hx hb (fh_d d_Mo_inList 98 rfl) rfl (lv_at hl 3 rfl) ?_
            refine lv_aload_n hx hb (fh_d d_Mo_inList 99 rfl) rfl (lv_at hl 3 rfl) ?_
            refine fh_get (own := "FormulaSetterModel") (ref := "FormulaSetterModel") (C := "FormulaSetterModel") (T := T_Mo) (N := 53) (v := .ref (x + 18)) hx hb hT i_Mo hown hK hP mkM_o rfl 24 (by decide) (hT _ w884) (fun _ h9 => h9) rfl (fh_d d_Mo_inList 100 rfl) ?_
            refine lv_iload_n hx hb (fh_d d_Mo_inList 101 rfl) rfl (lv_at hl 2 rfl) ?_
            refine fn_iald (f := A 17) (k := O - 1) hx hb hK hP 0 mkM_a17 rfl (nI_m1 hO) (by omega) (by decide) (fh_d d_Mo_inList 102 rfl) ?_
            have hO1 : 1 ≤ O - 1 := by
              by_cases q9 : O = 1
              · exfalso
                subst q9
                rcases qw with qw | qw <;> (rw [show A 16 (1 - 1) = A 16 0 from rfl, h00] at qw; exact absurd qw (by decide))
              · omega
            rw [nI_m1 hO] at hP
            rw [g1]
            refine fh_callV (cc' := c_Mo_deliver) (nL' := 6) (rest := []) (a := x) (As := [.int (nI (ixI (A 17 (O - 1))))]) X hR (m_Mo_deliver l D ct b RO (r - 1) n x g A th (nI L) ((nI a) + 1) 0 (nI N) (nI U) pi wi he de (O - 1) (rz_u A O) g2 hO1 (by omega) ⟨fun j hj => hf.1 j (by omega), hf.2⟩) w1068 w1065 w1067 v38 w9 ⟨by decide, by decide, by show _ = some 1; decide +kernel⟩ (by omega) (by decide) (fh_recv hK hP mkM_o rfl) hP hS hl.1 rfl (by exact Nat.le_of_ble_eq_true rfl) (fh_d d_Mo_inList 103 rfl) ⟨Nat.le_refl _, Nat.le_refl _⟩ (fun v9 h9 n9 H locs hq hP hS => ?_)
            obtain ⟨rfl, u67, u68⟩ := hq
            rw [u67, u68] at hP
            refine lv_goto (tgt := 435) hx hb (fh_d d_Mo_inList 104 rfl) rfl ?_
            refine lv_iconst (v := 1) hx hb (fh_d d_Mo_inList 242 rfl) (by decide) ?_
            refine fh_zret X hP hS (fh_d d_Mo_inList 243 rfl) (by decide) ⟨rfl, Or.inl ⟨_, qz, rfl, ?_⟩⟩
            unfold rz_close
            rw [if_pos qw, nI_1 a]
            try rfl
          · refine lv_iload_n hx hb (fh_d d_Mo_inList 77 rfl) rfl (lv_at hl 0 rfl) ?_
            refine lv_if_ne (tgt := 147) hx hb (fh_d d_Mo_inList 78 rfl) rfl (fun c69 => ?_) (fun c69 => ?_)
            · refine lv_iconst (v := 0) hx hb (fh_d d_Mo_inList 81 rfl) (by decide) ?_
              have qw : A 16 (O - 1) = 1 ∨ A 16 (O - 1) = 3 := Or.inr (hv.elim (fun z4 => z4.2) (fun z4 => absurd z4.1 c69))
              refine fh_put (own := "FormulaSetterModel") (ref := "FormulaSetterModel") (C := "FormulaSetterModel") (T := T_Mo) (N := 53) (v := .int 0) (ty := .boolean) hx hb hT i_Mo t_Mo k_Mo n_Mo hown hK hP hS mkM_o rfl 4 (by decide) (hT _ w864) (fun _ h9 => h9) rfl (by decide +kernel) rfl rfl (Nat.le_of_ble_eq_true rfl) (fh_d d_Mo_inList 82 rfl) (fun H locs hP hS => ?_)
              replace hP := fh_P.eq (h' := mkM ct x g A th (nI L) (nI a) 0 (nI N) (nI U) (nI O) pi wi he de) hP mkM_ux
              refine lv_aload_n hx hb (fh_d d_Mo_inList 83 rfl) rfl (lv_at hl 3 rfl) ?_
              refine lv_dup hx hb (fh_d d_Mo_inList 84 rfl) rfl ?_
              refine fh_get (own := "FormulaSetterModel") (ref := "FormulaSetterModel") (C := "FormulaSetterModel") (T := T_Mo) (N := 53) (v := .int (nI a)) hx hb hT i_Mo hown hK hP mkM_o rfl 3 (by decide) (hT _ w863) (fun _ h9 => h9) rfl (fh_d d_Mo_inList 85 rfl) ?_
              refine lv_iconst (v := 1) hx hb (fh_d d_Mo_inList 86 rfl) (by decide) ?_
              refine lv_iadd hx hb (fh_d d_Mo_inList 87 rfl) ?_
              refine fh_put (own := "FormulaSetterModel") (ref := "FormulaSetterModel") (C := "FormulaSetterModel") (T := T_Mo) (N := 53) (v := .int ((nI a) + 1)) (ty := .int) hx hb hT i_Mo t_Mo k_Mo n_Mo hown hK hP hS mkM_o rfl 3 (by decide) (hT _ w863) (fun _ h9 => h9) rfl (by decide +kernel) rfl rfl (Nat.le_of_ble_eq_true rfl) (fh_d d_Mo_inList 88 rfl) (fun H locs hP hS => ?_)
              replace hP := fh_P.eq (h' := mkM ct x g A th (nI L) ((nI a) + 1) 0 (nI N) (nI U) (nI O) pi wi he de) hP mkM_ux
              refine lv_aload_n hx hb (fh_d d_Mo_inList 89 rfl) rfl (lv_at hl 3 rfl) ?_
              refine lv_dup hx hb (fh_d d_Mo_inList 90 rfl) rfl ?_
              refine fh_get (own := "FormulaSetterModel") (ref := "FormulaSetterModel") (C := "FormulaSetterModel") (T := T_Mo) (N := 53) (v := .int (nI O)) hx hb hT i_Mo hown hK hP mkM_o rfl 22 (by decide) (hT _ w882) (fun _ h9 => h9) rfl (fh_d d_Mo_inList 91 rfl) ?_
              refine lv_iconst (v := 1) hx hb (fh_d d_Mo_inList 92 rfl) (by decide) ?_
              refine lv_isub hx hb (fh_d d_Mo_inList 93 rfl) ?_
              refine fh_put (own := "FormulaSetterModel") (ref := "FormulaSetterModel") (C := "FormulaSetterModel") (T := T_Mo) (N := 53) (v := .int ((nI O) - 1)) (ty := .int) hx hb hT i_Mo t_Mo k_Mo n_Mo hown hK hP hS mkM_o rfl 22 (by decide) (hT _ w882) (fun _ h9 => h9) rfl (by decide +kernel) rfl rfl (Nat.le_of_ble_eq_true rfl) (fh_d d_Mo_inList 94 rfl) (fun H locs hP hS => ?_)
              replace hP := fh_P.eq (h' := mkM ct x g A th (nI L) ((nI a) + 1) 0 (nI N) (nI U) ((nI O) - 1) pi wi he de) hP mkM_ux
              refine lv_aload_n hx hb (fh_d d_Mo_inList 95 rfl) rfl (lv_at hl 3 rfl) ?_
              refine fh_get (own := "FormulaSetterModel") (ref := "FormulaSetterModel") (C := "FormulaSetterModel") (T := T_Mo) (N := 53) (v := .int 0) hx hb hT i_Mo hown hK hP mkM_o rfl 4 (by decide) (hT _ w864) (fun _ h9 => h9) rfl (fh_d d_Mo_inList 96 rfl) ?_
              refine lv_if_ne (tgt := 435) hx hb (fh_d d_Mo_inList 97 rfl) rfl (fun c70 => absurd c70 (by decide)) (fun c70 => ?_)
              refine lv_aload_n hx hb (fh_d d_Mo_inList 98 rfl) rfl (lv_at hl 3 rfl) ?_
              refine lv_aload_n hx hb (fh_d d_Mo_inList 99 rfl) rfl (lv_at hl 3 rfl) ?_
              refine fh_get (own := "FormulaSetterModel") (ref := "FormulaSetterModel") (C := "FormulaSetterModel") (T := T_Mo) (N := 53) (v := .ref (x + 18)) hx hb hT i_Mo hown hK hP mkM_o rfl 24 (by decide) (hT _ w884) (fun _ h9 => h9) rfl (fh_d d_Mo_inList 100 rfl) ?_
              refine lv_iload_n hx hb (fh_d d_Mo_inList 101 rfl) rfl (lv_at hl 2 rfl) ?_
              refine fn_iald (f := A 17) (k := O - 1) hx hb hK hP 0 mkM_a17 rfl (nI_m1 hO) (by omega) (by decide) (fh_d d_Mo_inList 102 rfl) ?_
              have hO1 : 1 ≤ O - 1 := by
                by_cases q9 : O = 1
                · exfalso
                  subst q9
                  rcases qw with qw | qw <;> (rw [show A 16 (1 - 1) = A 16 0 from rfl, h00] at qw; exact absurd qw (by decide))
                · omega
              rw [nI_m1 hO] at hP
              rw [g1]
              refine fh_callV (cc' := c_Mo_deliver) (nL' := 6) (rest := []) (a := x) (As := [.int (nI (ixI (A 17 (O - 1))))]) X hR (m_Mo_deliver l D ct b RO (r - 1) n x g A th (nI L) ((nI a) + 1) 0 (nI N) (nI U) pi wi he de (O - 1) (rz_u A O) g2 hO1 (by omega) ⟨fun j hj => hf.1 j (by omega), hf.2⟩) w1068 w1065 w1067 v38 w9 ⟨by decide, by decide, by show _ = some 1; decide +kernel⟩ (by omega) (by decide) (fh_recv hK hP mkM_o rfl) hP hS hl.1 rfl (by exact Nat.le_of_ble_eq_true rfl) (fh_d d_Mo_inList 103 rfl) ⟨Nat.le_refl _, Nat.le_refl _⟩ (fun v9 h9 n9 H locs hq hP hS => ?_)
              obtain ⟨rfl, u71, u72⟩ := hq
              rw [u71, u72] at hP
              refine lv_goto (tgt := 435) hx hb (fh_d d_Mo_inList 104 rfl) rfl ?_
              refine lv_iconst (v := 1) hx hb (fh_d d_Mo_inList 242 rfl) (by decide) ?_
              refine fh_zret X hP hS (fh_d d_Mo_inList 243 rfl) (by decide) ⟨rfl, Or.inl ⟨_, qz, rfl, ?_⟩⟩
              unfold rz_close
              rw [if_pos qw, nI_1 a]
              try rfl
            · refine lv_iconst (v := 1) hx hb (fh_d d_Mo_inList 79 rfl) (by decide) ?_
              refine lv_goto (tgt := 148) hx hb (fh_d d_Mo_inList 80 rfl) rfl ?_
              have qw : ¬ (A 16 (O - 1) = 1 ∨ A 16 (O - 1) = 3) := fun z => z.elim c65 (fun z3 => hv.elim (fun z4 => absurd (z4.1.symm.trans c69) (by decide)) (fun z4 => z4.2 z3))
              refine fh_put (own := "FormulaSetterModel") (ref := "FormulaSetterModel") (C := "FormulaSetterModel") (T := T_Mo) (N := 53) (v := .int 1) (ty := .boolean) hx hb hT i_Mo t_Mo k_Mo n_Mo hown hK hP hS mkM_o rfl 4 (by decide) (hT _ w864) (fun _ h9 => h9) rfl (by decide +kernel) rfl rfl (Nat.le_of_ble_eq_true rfl) (fh_d d_Mo_inList 82 rfl) (fun H locs hP hS => ?_)
              replace hP := fh_P.eq (h' := mkM ct x g A th (nI L) (nI a) 1 (nI N) (nI U) (nI O) pi wi he de) hP mkM_ux
              refine lv_aload_n hx hb (fh_d d_Mo_inList 83 rfl) rfl (lv_at hl 3 rfl) ?_
              refine lv_dup hx hb (fh_d d_Mo_inList 84 rfl) rfl ?_
              refine fh_get (own := "FormulaSetterModel") (ref := "FormulaSetterModel") (C := "FormulaSetterModel") (T := T_Mo) (N := 53) (v := .int (nI a)) hx hb hT i_Mo hown hK hP mkM_o rfl 3 (by decide) (hT _ w863) (fun _ h9 => h9) rfl (fh_d d_Mo_inList 85 rfl) ?_
              refine lv_iconst (v := 1) hx hb (fh_d d_Mo_inList 86 rfl) (by decide) ?_
              refine lv_iadd hx hb (fh_d d_Mo_inList 87 rfl) ?_
              refine fh_put (own := "FormulaSetterModel") (ref := "FormulaSetterModel") (C := "FormulaSetterModel") (T := T_Mo) (N := 53) (v := .int ((nI a) + 1)) (ty := .int) hx hb hT i_Mo t_Mo k_Mo n_Mo hown hK hP hS mkM_o rfl 3 (by decide) (hT _ w863) (fun _ h9 => h9) rfl (by decide +kernel) rfl rfl (Nat.le_of_ble_eq_true rfl) (fh_d d_Mo_inList 88 rfl) (fun H locs hP hS => ?_)
              replace hP := fh_P.eq (h' := mkM ct x g A th (nI L) ((nI a) + 1) 1 (nI N) (nI U) (nI O) pi wi he de) hP mkM_ux
              refine lv_aload_n hx hb (fh_d d_Mo_inList 89 rfl) rfl (lv_at hl 3 rfl) ?_
              refine lv_dup hx hb (fh_d d_Mo_inList 90 rfl) rfl ?_
              refine fh_get (own := "FormulaSetterModel") (ref := "FormulaSetterModel") (C := "FormulaSetterModel") (T := T_Mo) (N := 53) (v := .int (nI O)) hx hb hT i_Mo hown hK hP mkM_o rfl 22 (by decide) (hT _ w882) (fun _ h9 => h9) rfl (fh_d d_Mo_inList 91 rfl) ?_
              refine lv_iconst (v := 1) hx hb (fh_d d_Mo_inList 92 rfl) (by decide) ?_
              refine lv_isub hx hb (fh_d d_Mo_inList 93 rfl) ?_
              refine fh_put (own := "FormulaSetterModel") (ref := "FormulaSetterModel") (C := "FormulaSetterModel") (T := T_Mo) (N := 53) (v := .int ((nI O) - 1)) (ty := .int) hx hb hT i_Mo t_Mo k_Mo n_Mo hown hK hP hS mkM_o rfl 22 (by decide) (hT _ w882) (fun _ h9 => h9) rfl (by decide +kernel) rfl rfl (Nat.le_of_ble_eq_true rfl) (fh_d d_Mo_inList 94 rfl) (fun H locs hP hS => ?_)
              replace hP := fh_P.eq (h' := mkM ct x g A th (nI L) ((nI a) + 1) 1 (nI N) (nI U) ((nI O) - 1) pi wi he de) hP mkM_ux
              refine lv_aload_n hx hb (fh_d d_Mo_inList 95 rfl) rfl (lv_at hl 3 rfl) ?_
              refine fh_get (own := "FormulaSetterModel") (ref := "FormulaSetterModel") (C := "FormulaSetterModel") (T := T_Mo) (N := 53) (v := .int 1) hx hb hT i_Mo hown hK hP mkM_o rfl 4 (by decide) (hT _ w864) (fun _ h9 => h9) rfl (fh_d d_Mo_inList 96 rfl) ?_
              refine lv_if_ne (tgt := 435) hx hb (fh_d d_Mo_inList 97 rfl) rfl (fun c73 => ?_) (fun c73 => absurd c73 (by decide))
              refine lv_iconst (v := 1) hx hb (fh_d d_Mo_inList 242 rfl) (by decide) ?_
              refine fh_zret X hP hS (fh_d d_Mo_inList 243 rfl) (by decide) ⟨rfl, Or.inl ⟨_, qz, rfl, ?_⟩⟩
              unfold rz_close
              rw [if_neg qw, nI_1 a, nI_m1 hO]
              try rfl
      · have qc : hre (A 0) L a = 95 := c14
        have qz : rz_in A L a N U O = some (rz_script A a N U O (hre (A 0) L a)) := if_pos (Or.inr qc)
        refine lv_aload_n hx hb (fh_d d_Mo_inList 25 rfl) rfl (lv_at hl 3 rfl) ?_
        refine fh_get (own := "FormulaSetterModel") (ref := "FormulaSetterModel") (C := "FormulaSetterModel") (T := T_Mo) (N := 53) (v := .ref (x + 20)) hx hb hT i_Mo hown hK hP mkM_o rfl 26 (by decide) (hT _ w886) (fun _ h9 => h9) rfl (fh_d d_Mo_inList 26 rfl) ?_
        refine lv_iload_n hx hb (fh_d d_Mo_inList 27 rfl) rfl (lv_at hl 2 rfl) ?_
        refine fn_iald (f := A 19) (k := O - 1) hx hb hK hP 0 mkM_a19 rfl (nI_m1 hO) (by omega) (by decide) (fh_d d_Mo_inList 28 rfl) ?_
        refine lv_istore (lv' := [(4, .int ((A 19) (O - 1))), (3, .int v), (2, .int (hre (A 0) L a)), (1, .int ((nI O) - 1)), (0, .ref x)]) hx hb (fh_d d_Mo_inList 29 rfl) hl (by decide) rfl (fun ls hl => ?_)
        refine lv_aload_n hx hb (fh_d d_Mo_inList 30 rfl) rfl (lv_at hl 4 rfl) ?_
        refine lv_iload hx hb (fh_d d_Mo_inList 31 rfl) (lv_at hl 0 rfl) ?_
        refine lv_if_eq (tgt := 81) hx hb (fh_d d_Mo_inList 32 rfl) rfl (fun c74 => ?_) (fun c74 => ?_)
        · refine lv_iconst (v := 1) hx hb (fh_d d_Mo_inList 46 rfl) (by decide) ?_
          refine lv_goto (tgt := 86) hx hb (fh_d d_Mo_inList 47 rfl) rfl ?_
          have qi : (if hre (A 0) L a = 94 then A 12 (ixI (A 19 (O - 1))) else A 13 (ixI (A 19 (O - 1)))) = A 13 (ixI (A 19 (O - 1))) := if_neg (by rw [qc]; decide)
          have qw : rz_sw A O (hre (A 0) L a) = 1 := if_pos (Or.inl c74)
          refine fh_put (own := "FormulaSetterModel") (ref := "FormulaSetterModel") (C := "FormulaSetterModel") (T := T_Mo) (N := 53) (v := .int 1) (ty := .boolean) hx hb hT i_Mo t_Mo k_Mo n_Mo hown hK hP hS mkM_o rfl 4 (by decide) (hT _ w864) (fun _ h9 => h9) rfl (by decide +kernel) rfl rfl (Nat.le_of_ble_eq_true rfl) (fh_d d_Mo_inList 49 rfl) (fun H locs hP hS => ?_)
          replace hP := fh_P.eq (h' := mkM ct x g A th (nI L) (nI a) 1 (nI N) (nI U) (nI O) pi wi he de) hP mkM_ux
          refine lv_aload_n hx hb (fh_d d_Mo_inList 50 rfl) rfl (lv_at hl 4 rfl) ?_
          refine lv_dup hx hb (fh_d d_Mo_inList 51 rfl) rfl ?_
          refine fh_get (own := "FormulaSetterModel") (ref := "FormulaSetterModel") (C := "FormulaSetterModel") (T := T_Mo) (N := 53) (v := .int (nI a)) hx hb hT i_Mo hown hK hP mkM_o rfl 3 (by decide) (hT _ w863) (fun _ h9 => h9) rfl (fh_d d_Mo_inList 52 rfl) ?_
          refine lv_iconst (v := 1) hx hb (fh_d d_Mo_inList 53 rfl) (by decide) ?_
          refine lv_iadd hx hb (fh_d d_Mo_inList 54 rfl) ?_
          refine fh_put (own := "FormulaSetterModel") (ref := "FormulaSetterModel") (C := "FormulaSetterModel") (T := T_Mo) (N := 53) (v := .int ((nI a) + 1)) (ty := .int) hx hb hT i_Mo t_Mo k_Mo n_Mo hown hK hP hS mkM_o rfl 3 (by decide) (hT _ w863) (fun _ h9 => h9) rfl (by decide +kernel) rfl rfl (Nat.le_of_ble_eq_true rfl) (fh_d d_Mo_inList 55 rfl) (fun H locs hP hS => ?_)
          replace hP := fh_P.eq (h' := mkM ct x g A th (nI L) ((nI a) + 1) 1 (nI N) (nI U) (nI O) pi wi he de) hP mkM_ux
          refine lv_aload_n hx hb (fh_d d_Mo_inList 56 rfl) rfl (lv_at hl 4 rfl) ?_
          refine lv_iload_n hx hb (fh_d d_Mo_inList 57 rfl) rfl (lv_at hl 2 rfl) ?_
          refine lv_bipush (v := 94) hx hb (fh_d d_Mo_inList 58 rfl) (by decide) ?_
          refine lv_icmp_ne (tgt := 111) hx hb (fh_d d_Mo_inList 59 rfl) rfl (fun c75 => ?_) (fun c75 => absurd c75 (by rw [qc]; decide))
          refine lv_bipush (v := 7) hx hb (fh_d d_Mo_inList 62 rfl) (by decide) ?_
          refine lv_iload hx hb (fh_d d_Mo_inList 63 rfl) (lv_at hl 0 rfl) ?_
          refine lv_iconst (v := 0) hx hb (fh_d d_Mo_inList 64 rfl) (by decide) ?_
          refine fh_callV (cc' := c_Mo_push) (nL' := 4) (rest := []) (a := x) (As := [.int 7, .int ((A 19) (O - 1)), .int 0]) X hR (m_Mo_push l D ct b RO (r - 1) n x g A th (nI L) ((nI a) + 1) 1 (nI N) (nI U) pi wi he de 7 ((A 19) (O - 1)) 0 (O) (by omega)) w1052 w1049 w1051 v34 w9 ⟨by decide, by decide, by show _ = some 3; decide +kernel⟩ (by omega) (by decide) (fh_recv hK hP mkM_o rfl) hP hS hl.1 rfl (by exact Nat.le_of_ble_eq_true rfl) (fh_d d_Mo_inList 65 rfl) ⟨Nat.le_refl _, Nat.le_refl _⟩ (fun v9 h9 n9 H locs hq hP hS => ?_)
          obtain ⟨rfl, u76, u77⟩ := hq
          rw [u76, u77] at hP
          refine lv_goto (tgt := 435) hx hb (fh_d d_Mo_inList 66 rfl) rfl ?_
          refine lv_iconst (v := 1) hx hb (fh_d d_Mo_inList 242 rfl) (by decide) ?_
          refine fh_zret X hP hS (fh_d d_Mo_inList 243 rfl) (by decide) ⟨rfl, Or.inl ⟨_, qz, rfl, ?_⟩⟩
          unfold rz_script
          rw [qw, if_neg (show ¬ hre (A 0) L a = 94 by rw [qc]; decide), nI_1 a]
          try rfl
        · refine lv_iload_n hx hb (fh_d d_Mo_inList 33 rfl) rfl (lv_at hl 2 rfl) ?_
          refine lv_bipush (v := 94) hx hb (fh_d d_Mo_inList 34 rfl) (by decide) ?_
          refine lv_icmp_ne (tgt := 71) hx hb (fh_d d_Mo_inList 35 rfl) rfl (fun c78 => ?_) (fun c78 => absurd c78 (by rw [qc]; decide))
          refine lv_aload_n hx hb (fh_d d_Mo_inList 41 rfl) rfl (lv_at hl 4 rfl) ?_
          refine fh_get (own := "FormulaSetterModel") (ref := "FormulaSetterModel") (C := "FormulaSetterModel") (T := T_Mo) (N := 53) (v := .ref (x + 14)) hx hb hT i_Mo hown hK hP mkM_o rfl 19 (by decide) (hT _ w879) (fun _ h9 => h9) rfl (fh_d d_Mo_inList 42 rfl) ?_
          refine lv_iload hx hb (fh_d d_Mo_inList 43 rfl) (lv_at hl 0 rfl) ?_
          refine fn_iald (f := A 13) (k := ixI (A 19 (O - 1))) hx hb hK hP 0 mkM_a13 rfl (g5) (g6) (by decide) (fh_d d_Mo_inList 44 rfl) ?_
          refine lv_if_le (tgt := 85) hx hb (fh_d d_Mo_inList 45 rfl) rfl (fun c79 => ?_) (fun c79 => ?_)
          · refine lv_iconst (v := 0) hx hb (fh_d d_Mo_inList 48 rfl) (by decide) ?_
            have qi : (if hre (A 0) L a = 94 then A 12 (ixI (A 19 (O - 1))) else A 13 (ixI (A 19 (O - 1)))) = A 13 (ixI (A 19 (O - 1))) := if_neg (by rw [qc]; decide)
            have qw : rz_sw A O (hre (A 0) L a) = 0 := if_neg (fun z => z.elim c74 (fun z2 => by rw [qi] at z2; exact absurd c79 (Int32.not_le.mpr z2)))
            refine fh_put (own := "FormulaSetterModel") (ref := "FormulaSetterModel") (C := "FormulaSetterModel") (T := T_Mo) (N := 53) (v := .int 0) (ty := .boolean) hx hb hT i_Mo t_Mo k_Mo n_Mo hown hK hP hS mkM_o rfl 4 (by decide) (hT _ w864) (fun _ h9 => h9) rfl (by decide +kernel) rfl rfl (Nat.le_of_ble_eq_true rfl) (fh_d d_Mo_inList 49 rfl) (fun H locs hP hS => ?_)
            replace hP := fh_P.eq (h' := mkM ct x g A th (nI L) (nI a) 0 (nI N) (nI U) (nI O) pi wi he de) hP mkM_ux
            refine lv_aload_n hx hb (fh_d d_Mo_inList 50 rfl) rfl (lv_at hl 4 rfl) ?_
            refine lv_dup hx hb (fh_d d_Mo_inList 51 rfl) rfl ?_
            refine fh_get (own := "FormulaSetterModel") (ref := "FormulaSetterModel") (C := "FormulaSetterModel") (T := T_Mo) (N := 53) (v := .int (nI a)) hx hb hT i_Mo hown hK hP mkM_o rfl 3 (by decide) (hT _ w863) (fun _ h9 => h9) rfl (fh_d d_Mo_inList 52 rfl) ?_
            refine lv_iconst (v := 1) hx hb (fh_d d_Mo_inList 53 rfl) (by decide) ?_
            refine lv_iadd hx hb (fh_d d_Mo_inList 54 rfl) ?_
            refine fh_put (own := "FormulaSetterModel") (ref := "FormulaSetterModel") (C := "FormulaSetterModel") (T := T_Mo) (N := 53) (v := .int ((nI a) + 1)) (ty := .int) hx hb hT i_Mo t_Mo k_Mo n_Mo hown hK hP hS mkM_o rfl 3 (by decide) (hT _ w863) (fun _ h9 => h9) rfl (by decide +kernel) rfl rfl (Nat.le_of_ble_eq_true rfl) (fh_d d_Mo_inList 55 rfl) (fun H locs hP hS => ?_)
            replace hP := fh_P.eq (h' := mkM ct x g A th (nI L) ((nI a) + 1) 0 (nI N) (nI U) (nI O) pi wi he de) hP mkM_ux
            refine lv_aload_n hx hb (fh_d d_Mo_inList 56 rfl) rfl (lv_at hl 4 rfl) ?_
            refine lv_iload_n hx hb (fh_d d_Mo_inList 57 rfl) rfl (lv_at hl 2 rfl) ?_
            refine lv_bipush (v := 94) hx hb (fh_d d_Mo_inList 58 rfl) (by decide) ?_
            refine lv_icmp_ne (tgt := 111) hx hb (fh_d d_Mo_inList 59 rfl) rfl (fun c80 => ?_) (fun c80 => absurd c80 (by rw [qc]; decide))
            refine lv_bipush (v := 7) hx hb (fh_d d_Mo_inList 62 rfl) (by decide) ?_
            refine lv_iload hx hb (fh_d d_Mo_inList 63 rfl) (lv_at hl 0 rfl) ?_
            refine lv_iconst (v := 0) hx hb (fh_d d_Mo_inList 64 rfl) (by decide) ?_
            refine fh_callV (cc' := c_Mo_push) (nL' := 4) (rest := []) (a := x) (As := [.int 7, .int ((A 19) (O - 1)), .int 0]) X hR (m_Mo_push l D ct b RO (r - 1) n x g A th (nI L) ((nI a) + 1) 0 (nI N) (nI U) pi wi he de 7 ((A 19) (O - 1)) 0 (O) (by omega)) w1052 w1049 w1051 v34 w9 ⟨by decide, by decide, by show _ = some 3; decide +kernel⟩ (by omega) (by decide) (fh_recv hK hP mkM_o rfl) hP hS hl.1 rfl (by exact Nat.le_of_ble_eq_true rfl) (fh_d d_Mo_inList 65 rfl) ⟨Nat.le_refl _, Nat.le_refl _⟩ (fun v9 h9 n9 H locs hq hP hS => ?_)
            obtain ⟨rfl, u81, u82⟩ := hq
            rw [u81, u82] at hP
            refine lv_goto (tgt := 435) hx hb (fh_d d_Mo_inList 66 rfl) rfl ?_
            refine lv_iconst (v := 1) hx hb (fh_d d_Mo_inList 242 rfl) (by decide) ?_
            refine fh_zret X hP hS (fh_d d_Mo_inList 243 rfl) (by decide) ⟨rfl, Or.inl ⟨_, qz, rfl, ?_⟩⟩
            unfold rz_script
            rw [qw, if_neg (show ¬ hre (A 0) L a = 94 by rw [qc]; decide), nI_1 a]
            try rfl
          · refine lv_iconst (v := 1) hx hb (fh_d d_Mo_inList 46 rfl) (by decide) ?_
            refine lv_goto (tgt := 86) hx hb (fh_d d_Mo_inList 47 rfl) rfl ?_
            have qi : (if hre (A 0) L a = 94 then A 12 (ixI (A 19 (O - 1))) else A 13 (ixI (A 19 (O - 1)))) = A 13 (ixI (A 19 (O - 1))) := if_neg (by rw [qc]; decide)
            have qw : rz_sw A O (hre (A 0) L a) = 1 := if_pos (Or.inr (by rw [qi]; exact Int32.not_le.mp c79))
            refine fh_put (own := "FormulaSetterModel") (ref := "FormulaSetterModel") (C := "FormulaSetterModel") (T := T_Mo) (N := 53) (v := .int 1) (ty := .boolean) hx hb hT i_Mo t_Mo k_Mo n_Mo hown hK hP hS mkM_o rfl 4 (by decide) (hT _ w864) (fun _ h9 => h9) rfl (by decide +kernel) rfl rfl (Nat.le_of_ble_eq_true rfl) (fh_d d_Mo_inList 49 rfl) (fun H locs hP hS => ?_)
            replace hP := fh_P.eq (h' := mkM ct x g A th (nI L) (nI a) 1 (nI N) (nI U) (nI O) pi wi he de) hP mkM_ux
            refine lv_aload_n hx hb (fh_d d_Mo_inList 50 rfl) rfl (lv_at hl 4 rfl) ?_
            refine lv_dup hx hb (fh_d d_Mo_inList 51 rfl) rfl ?_
            refine fh_get (own := "FormulaSetterModel") (ref := "FormulaSetterModel") (C := "FormulaSetterModel") (T := T_Mo) (N := 53) (v := .int (nI a)) hx hb hT i_Mo hown hK hP mkM_o rfl 3 (by decide) (hT _ w863) (fun _ h9 => h9) rfl (fh_d d_Mo_inList 52 rfl) ?_
            refine lv_iconst (v := 1) hx hb (fh_d d_Mo_inList 53 rfl) (by decide) ?_
            refine lv_iadd hx hb (fh_d d_Mo_inList 54 rfl) ?_
            refine fh_put (own := "FormulaSetterModel") (ref := "FormulaSetterModel") (C := "FormulaSetterModel") (T := T_Mo) (N := 53) (v := .int ((nI a) + 1)) (ty := .int) hx hb hT i_Mo t_Mo k_Mo n_Mo hown hK hP hS mkM_o rfl 3 (by decide) (hT _ w863) (fun _ h9 => h9) rfl (by decide +kernel) rfl rfl (Nat.le_of_ble_eq_true rfl) (fh_d d_Mo_inList 55 rfl) (fun H locs hP hS => ?_)
            replace hP := fh_P.eq (h' := mkM ct x g A th (nI L) ((nI a) + 1) 1 (nI N) (nI U) (nI O) pi wi he de) hP mkM_ux
            refine lv_aload_n hx hb (fh_d d_Mo_inList 56 rfl) rfl (lv_at hl 4 rfl) ?_
            refine lv_iload_n hx hb (fh_d d_Mo_inList 57 rfl) rfl (lv_at hl 2 rfl) ?_
            refine lv_bipush (v := 94) hx hb (fh_d d_Mo_inList 58 rfl) (by decide) ?_
            refine lv_icmp_ne (tgt := 111) hx hb (fh_d d_Mo_inList 59 rfl) rfl (fun c83 => ?_) (fun c83 => absurd c83 (by rw [qc]; decide))
            refine lv_bipush (v := 7) hx hb (fh_d d_Mo_inList 62 rfl) (by decide) ?_
            refine lv_iload hx hb (fh_d d_Mo_inList 63 rfl) (lv_at hl 0 rfl) ?_
            refine lv_iconst (v := 0) hx hb (fh_d d_Mo_inList 64 rfl) (by decide) ?_
            refine fh_callV (cc' := c_Mo_push) (nL' := 4) (rest := []) (a := x) (As := [.int 7, .int ((A 19) (O - 1)), .int 0]) X hR (m_Mo_push l D ct b RO (r - 1) n x g A th (nI L) ((nI a) + 1) 1 (nI N) (nI U) pi wi he de 7 ((A 19) (O - 1)) 0 (O) (by omega)) w1052 w1049 w1051 v34 w9 ⟨by decide, by decide, by show _ = some 3; decide +kernel⟩ (by omega) (by decide) (fh_recv hK hP mkM_o rfl) hP hS hl.1 rfl (by exact Nat.le_of_ble_eq_true rfl) (fh_d d_Mo_inList 65 rfl) ⟨Nat.le_refl _, Nat.le_refl _⟩ (fun v9 h9 n9 H locs hq hP hS => ?_)
            obtain ⟨rfl, u84, u85⟩ := hq
            rw [u84, u85] at hP
            refine lv_goto (tgt := 435) hx hb (fh_d d_Mo_inList 66 rfl) rfl ?_
            refine lv_iconst (v := 1) hx hb (fh_d d_Mo_inList 242 rfl) (by decide) ?_
            refine fh_zret X hP hS (fh_d d_Mo_inList 243 rfl) (by decide) ⟨rfl, Or.inl ⟨_, qz, rfl, ?_⟩⟩
            unfold rz_script
            rw [qw, if_neg (show ¬ hre (A 0) L a = 94 by rw [qc]; decide), nI_1 a]
            try rfl
  refine lv_aload_n hx hb (fh_d d_Mo_inList 0 rfl) rfl (lv_at hl 0 rfl) ?_
  refine fh_get (own := "FormulaSetterModel") (ref := "FormulaSetterModel") (C := "FormulaSetterModel") (T := T_Mo) (N := 53) (v := .int (nI O)) hx hb hT i_Mo hown hK hP mkM_o rfl 22 (by decide) (hT _ w882) (fun _ h9 => h9) rfl (fh_d d_Mo_inList 1 rfl) ?_
  refine lv_iconst (v := 1) hx hb (fh_d d_Mo_inList 2 rfl) (by decide) ?_
  refine lv_isub hx hb (fh_d d_Mo_inList 3 rfl) ?_
  refine lv_istore_n (lv' := [(1, .int ((nI O) - 1)), (0, .ref x)]) hx hb (fh_d d_Mo_inList 4 rfl) rfl hl (by decide) rfl (fun ls hl => ?_)
  refine lv_aload_n hx hb (fh_d d_Mo_inList 5 rfl) rfl (lv_at hl 1 rfl) ?_
  refine lv_iconst (v := 0) hx hb (fh_d d_Mo_inList 6 rfl) (by decide) ?_
  refine fh_callV (cc' := c_Mo_here) (nL' := 2) (rest := []) (a := x) (As := [.int 0]) X hR (m_Mo_here l D ct b RO (r - 1) n x g A th wr (nI N) (nI U) (nI O) pi wi he de L a  (0) hL (by omega)) w1060 w1057 w1059 v36 w9 ⟨by decide, by decide, by show _ = some 1; decide +kernel⟩ (by omega) (by decide) (fh_recv hK hP mkM_o rfl) hP hS hl.1 rfl (by exact Nat.le_of_ble_eq_true rfl) (fh_d d_Mo_inList 7 rfl) ⟨Nat.le_refl _, Nat.le_refl _⟩ (fun v9 h9 n9 H locs hq hP hS => ?_)
  obtain ⟨rfl, u86, u87⟩ := hq
  rw [u86, u87] at hP
  have hq0 : (if a + 0 < L then A 0 (a + 0) else 0) = hre (A 0) L a := rfl
  rw [hq0]
  refine lv_istore_n (lv' := [(2, .int (hre (A 0) L a)), (1, .int ((nI O) - 1)), (0, .ref x)]) hx hb (fh_d d_Mo_inList 8 rfl) rfl hl (by decide) rfl (fun ls hl => ?_)
  refine lv_aload_n hx hb (fh_d d_Mo_inList 9 rfl) rfl (lv_at hl 2 rfl) ?_
  refine fh_get (own := "FormulaSetterModel") (ref := "FormulaSetterModel") (C := "FormulaSetterModel") (T := T_Mo) (N := 53) (v := .ref (x + 17)) hx hb hT i_Mo hown hK hP mkM_o rfl 23 (by decide) (hT _ w883) (fun _ h9 => h9) rfl (fh_d d_Mo_inList 10 rfl) ?_
  refine lv_iload_n hx hb (fh_d d_Mo_inList 11 rfl) rfl (lv_at hl 1 rfl) ?_
  refine fn_iald (f := A 16) (k := O - 1) hx hb hK hP 0 mkM_a16 rfl (nI_m1 hO) (by omega) (by decide) (fh_d d_Mo_inList 12 rfl) ?_
  refine lv_iconst (v := 3) hx hb (fh_d d_Mo_inList 13 rfl) (by decide) ?_
  refine lv_icmp_ne (tgt := 27) hx hb (fh_d d_Mo_inList 14 rfl) rfl (fun c88 => ?_) (fun c88 => ?_)
  · refine lv_iconst (v := 0) hx hb (fh_d d_Mo_inList 17 rfl) (by decide) ?_
    refine lv_istore_n (lv' := [(3, .int 0), (2, .int (hre (A 0) L a)), (1, .int ((nI O) - 1)), (0, .ref x)]) hx hb (fh_d d_Mo_inList 18 rfl) rfl hl (by decide) rfl (fun ls hl => ?_)
    exact J 0 (Or.inr ⟨rfl, c88⟩) H _ _ hP hS hl
  · refine lv_iconst (v := 1) hx hb (fh_d d_Mo_inList 15 rfl) (by decide) ?_
    refine lv_goto (tgt := 28) hx hb (fh_d d_Mo_inList 16 rfl) rfl ?_
    refine lv_istore_n (lv' := [(3, .int 1), (2, .int (hre (A 0) L a)), (1, .int ((nI O) - 1)), (0, .ref x)]) hx hb (fh_d d_Mo_inList 18 rfl) rfl hl (by decide) rfl (fun ls hl => ?_)
    exact J 1 (Or.inl ⟨rfl, c88⟩) H _ _ hP hS hl
