/-! Box.measure on nuclei and lines. Printed by wip/whole/gen/p60.py -/
set_option maxHeartbeats 4000000 in
set_option maxRecDepth 100000 in
theorem m_Bo_measureNu (l : Launch) (D : va_G) (ct : Nat → ClassId) (b : Nat) (RO : State → Prop) (r : Nat) (n x : Nat) (kA aA : Nat → Nat) (g : fh_H) (cnt : Int32) (F W0 H0 D0 : Nat → Int32) (rows cols : Int32) (nc lc : Int32) (tx : Value) (len at_ : Int32) (C : Nat → Nat → Int32) (R : Nat → Nat → Option Nat) (CL : Nat → Nat → Int32) (RL : Nat → Nat → Option Nat) (i : Nat) (hi : i < 60) (bw bh bd : Int32) : fh_C l D fh_cl (fh_tys ct) b RO y_Bo_measure (Cond.code y_Bo_measure c_Bo_measure 4 (Option.none : Option FieldType) :: fh_T) (fh_rm r 0 0) [.ref (x + 4 + i), .int bw, .int bh, .int bd] (mkR x kA aA (mkG ct x g cnt F W0 H0 D0 rows cols) nc lc tx len at_ C R CL RL) n (fun v h' n' => v = none ∧ h' = mkR x kA aA (mkG ct x g cnt F W0 H0 D0 rows cols) nc lc tx len at_ (sT (sT (sT C i 0 bw) i 1 bh) i 2 bd) R CL RL ∧ n' = n) 0 0 := by
  refine fh_enter (by decide) (Nat.le_of_ble_eq_true rfl) [(0, .ref (x + 4 + i)), (1, .int bw), (2, .int bh), (3, .int bd)] rfl ?_
  intro p e s m args below meth c H ls X hP hS hl
  have hx := X.1
  have hb := X.2.1
  have hml := X.2.2.1
  have hown : s.vm.findClass "FormulaSetter$Box" = some m.cls := X.2.2.2.1
  have hT := X.2.2.2.2.1
  have hK := X.2.2.2.2.2.1
  have hRO := X.2.2.2.2.2.2.1
  have hnm : meth.name = "measure" := X.2.2.2.2.2.2.2.2.2.2
  refine lv_aload_n hx hb (fh_d d_Bo_measure 0 rfl) rfl (lv_at hl 0 rfl) ?_
  refine lv_iload_n hx hb (fh_d d_Bo_measure 1 rfl) rfl (lv_at hl 1 rfl) ?_
  refine fh_put (own := "FormulaSetter$Box") (ref := "FormulaSetter$Box") (C := "FormulaSetter$Nucleus") (T := T_Nu) (N := 15) (v := .int bw) (ty := .int) hx hb hT i_Nu t_Nu k_Nu n_Nu hown hK hP hS (mkR_nu (hi)) rfl 0 (by decide) (hT _ w83) (fun _ h9 => h9) rfl (by decide +kernel) rfl rfl (Nat.le_of_ble_eq_true rfl) (fh_d d_Bo_measure 2 rfl) (fun H locs hP hS => ?_)
  replace hP := fh_P.eq (h' := mkR x kA aA (mkG ct x g cnt F W0 H0 D0 rows cols) nc lc tx len at_ (sT C i 0 bw) R CL RL) hP (mkR_nu0 (v := bw) (hi))
  have f1 : (sT C i 0 bw) i 0 = bw := sT_same
  refine lv_aload_n hx hb (fh_d d_Bo_measure 3 rfl) rfl (lv_at hl 0 rfl) ?_
  refine lv_iload_n hx hb (fh_d d_Bo_measure 4 rfl) rfl (lv_at hl 2 rfl) ?_
  refine fh_put (own := "FormulaSetter$Box") (ref := "FormulaSetter$Box") (C := "FormulaSetter$Nucleus") (T := T_Nu) (N := 15) (v := .int bh) (ty := .int) hx hb hT i_Nu t_Nu k_Nu n_Nu hown hK hP hS (mkR_nu (hi)) rfl 1 (by decide) (hT _ w90) (fun _ h9 => h9) rfl (by decide +kernel) rfl rfl (Nat.le_of_ble_eq_true rfl) (fh_d d_Bo_measure 5 rfl) (fun H locs hP hS => ?_)
  replace hP := fh_P.eq (h' := mkR x kA aA (mkG ct x g cnt F W0 H0 D0 rows cols) nc lc tx len at_ (sT (sT C i 0 bw) i 1 bh) R CL RL) hP (mkR_nu1 (v := bh) (hi))
  have f2 : (sT (sT C i 0 bw) i 1 bh) i 0 = bw := (sT_ne (by omega)).trans f1
  have f3 : (sT (sT C i 0 bw) i 1 bh) i 1 = bh := sT_same
  refine lv_aload_n hx hb (fh_d d_Bo_measure 6 rfl) rfl (lv_at hl 0 rfl) ?_
  refine lv_iload_n hx hb (fh_d d_Bo_measure 7 rfl) rfl (lv_at hl 3 rfl) ?_
  refine fh_put (own := "FormulaSetter$Box") (ref := "FormulaSetter$Box") (C := "FormulaSetter$Nucleus") (T := T_Nu) (N := 15) (v := .int bd) (ty := .int) hx hb hT i_Nu t_Nu k_Nu n_Nu hown hK hP hS (mkR_nu (hi)) rfl 2 (by decide) (hT _ w97) (fun _ h9 => h9) rfl (by decide +kernel) rfl rfl (Nat.le_of_ble_eq_true rfl) (fh_d d_Bo_measure 8 rfl) (fun H locs hP hS => ?_)
  replace hP := fh_P.eq (h' := mkR x kA aA (mkG ct x g cnt F W0 H0 D0 rows cols) nc lc tx len at_ (sT (sT (sT C i 0 bw) i 1 bh) i 2 bd) R CL RL) hP (mkR_nu2 (v := bd) (hi))
  have f4 : (sT (sT (sT C i 0 bw) i 1 bh) i 2 bd) i 0 = bw := (sT_ne (by omega)).trans f2
  have f5 : (sT (sT (sT C i 0 bw) i 1 bh) i 2 bd) i 1 = bh := (sT_ne (by omega)).trans f3
  have f6 : (sT (sT (sT C i 0 bw) i 1 bh) i 2 bd) i 2 = bd := sT_same
  exact fh_vret X hP hS (fh_d d_Bo_measure 9 rfl) ⟨rfl, rfl, rfl⟩

set_option maxHeartbeats 4000000 in
set_option maxRecDepth 100000 in
theorem m_Bo_measureLi (l : Launch) (D : va_G) (ct : Nat → ClassId) (b : Nat) (RO : State → Prop) (r : Nat) (n x : Nat) (kA aA : Nat → Nat) (g : fh_H) (cnt : Int32) (F W0 H0 D0 : Nat → Int32) (rows cols : Int32) (nc lc : Int32) (tx : Value) (len at_ : Int32) (C : Nat → Nat → Int32) (R : Nat → Nat → Option Nat) (CL : Nat → Nat → Int32) (RL : Nat → Nat → Option Nat) (i : Nat) (hi : i < 161) (bw bh bd : Int32) : fh_C l D fh_cl (fh_tys ct) b RO y_Bo_measure (Cond.code y_Bo_measure c_Bo_measure 4 (Option.none : Option FieldType) :: fh_T) (fh_rm r 0 0) [.ref (x + 65 + i), .int bw, .int bh, .int bd] (mkR x kA aA (mkG ct x g cnt F W0 H0 D0 rows cols) nc lc tx len at_ C R CL RL) n (fun v h' n' => v = none ∧ h' = mkR x kA aA (mkG ct x g cnt F W0 H0 D0 rows cols) nc lc tx len at_ C R (sT (sT (sT CL i 0 bw) i 1 bh) i 2 bd) RL ∧ n' = n) 0 0 := by
  refine fh_enter (by decide) (Nat.le_of_ble_eq_true rfl) [(0, .ref (x + 65 + i)), (1, .int bw), (2, .int bh), (3, .int bd)] rfl ?_
  intro p e s m args below meth c H ls X hP hS hl
  have hx := X.1
  have hb := X.2.1
  have hml := X.2.2.1
  have hown : s.vm.findClass "FormulaSetter$Box" = some m.cls := X.2.2.2.1
  have hT := X.2.2.2.2.1
  have hK := X.2.2.2.2.2.1
  have hRO := X.2.2.2.2.2.2.1
  have hnm : meth.name = "measure" := X.2.2.2.2.2.2.2.2.2.2
  refine lv_aload_n hx hb (fh_d d_Bo_measure 0 rfl) rfl (lv_at hl 0 rfl) ?_
  refine lv_iload_n hx hb (fh_d d_Bo_measure 1 rfl) rfl (lv_at hl 1 rfl) ?_
  refine fh_put (own := "FormulaSetter$Box") (ref := "FormulaSetter$Box") (C := "FormulaSetter$Line") (T := T_Li) (N := 9) (v := .int bw) (ty := .int) hx hb hT i_Li t_Li k_Li n_Li hown hK hP hS (mkR_li (hi)) rfl 0 (by decide) (hT _ w83) (fun _ h9 => h9) rfl (by decide +kernel) rfl rfl (Nat.le_of_ble_eq_true rfl) (fh_d d_Bo_measure 2 rfl) (fun H locs hP hS => ?_)
  replace hP := fh_P.eq (h' := mkR x kA aA (mkG ct x g cnt F W0 H0 D0 rows cols) nc lc tx len at_ C R (sT CL i 0 bw) RL) hP (mkR_li0 (v := bw) (hi))
  have f1 : (sT CL i 0 bw) i 0 = bw := sT_same
  refine lv_aload_n hx hb (fh_d d_Bo_measure 3 rfl) rfl (lv_at hl 0 rfl) ?_
  refine lv_iload_n hx hb (fh_d d_Bo_measure 4 rfl) rfl (lv_at hl 2 rfl) ?_
  refine fh_put (own := "FormulaSetter$Box") (ref := "FormulaSetter$Box") (C := "FormulaSetter$Line") (T := T_Li) (N := 9) (v := .int bh) (ty := .int) hx hb hT i_Li t_Li k_Li n_Li hown hK hP hS (mkR_li (hi)) rfl 1 (by decide) (hT _ w90) (fun _ h9 => h9) rfl (by decide +kernel) rfl rfl (Nat.le_of_ble_eq_true rfl) (fh_d d_Bo_measure 5 rfl) (fun H locs hP hS => ?_)
  replace hP := fh_P.eq (h' := mkR x kA aA (mkG ct x g cnt F W0 H0 D0 rows cols) nc lc tx len at_ C R (sT (sT CL i 0 bw) i 1 bh) RL) hP (mkR_li1 (v := bh) (hi))
  have f2 : (sT (sT CL i 0 bw) i 1 bh) i 0 = bw := (sT_ne (by omega)).trans f1
  have f3 : (sT (sT CL i 0 bw) i 1 bh) i 1 = bh := sT_same
  refine lv_aload_n hx hb (fh_d d_Bo_measure 6 rfl) rfl (lv_at hl 0 rfl) ?_
  refine lv_iload_n hx hb (fh_d d_Bo_measure 7 rfl) rfl (lv_at hl 3 rfl) ?_
  refine fh_put (own := "FormulaSetter$Box") (ref := "FormulaSetter$Box") (C := "FormulaSetter$Line") (T := T_Li) (N := 9) (v := .int bd) (ty := .int) hx hb hT i_Li t_Li k_Li n_Li hown hK hP hS (mkR_li (hi)) rfl 2 (by decide) (hT _ w97) (fun _ h9 => h9) rfl (by decide +kernel) rfl rfl (Nat.le_of_ble_eq_true rfl) (fh_d d_Bo_measure 8 rfl) (fun H locs hP hS => ?_)
  replace hP := fh_P.eq (h' := mkR x kA aA (mkG ct x g cnt F W0 H0 D0 rows cols) nc lc tx len at_ C R (sT (sT (sT CL i 0 bw) i 1 bh) i 2 bd) RL) hP (mkR_li2 (v := bd) (hi))
  have f4 : (sT (sT (sT CL i 0 bw) i 1 bh) i 2 bd) i 0 = bw := (sT_ne (by omega)).trans f2
  have f5 : (sT (sT (sT CL i 0 bw) i 1 bh) i 2 bd) i 1 = bh := (sT_ne (by omega)).trans f3
  have f6 : (sT (sT (sT CL i 0 bw) i 1 bh) i 2 bd) i 2 = bd := sT_same
  exact fh_vret X hP hS (fh_d d_Bo_measure 9 rfl) ⟨rfl, rfl, rfl⟩
