/-! Setting the empty text. Printed by wip/whole/gen/p70.py -/
set_option maxHeartbeats 4000000 in
set_option maxRecDepth 100000 in
theorem m_Ty_setLine0 (l : Launch) (D : va_G) (ct : Nat → ClassId) (b : Nat) (RO : State → Prop) (hR : fh_R b RO) (r : Nat) (hr : 2 ≤ r) (n x : Nat) (kA aA : Nat → Nat) (g : fh_H) (cnt : Int32) (F W0 H0 D0 : Nat → Int32) (rows cols : Int32) (nc lc : Int32) (tx : Value) (len at_ : Int32) (C : Nat → Nat → Int32) (R : Nat → Nat → Option Nat) (CL : Nat → Nat → Int32) (RL : Nat → Nat → Option Nat) (j sty : Nat) (hj : j < 161) (cr : Int32) (hn0 : RL j 5 = none) : fh_C l D fh_cl (fh_tys ct) b RO y_Ty_setLine (Cond.code y_Ty_setLine c_Ty_setLine 8 (Option.none : Option FieldType) :: fh_T) (fh_rm r 0 0) [.ref (x + 226), .ref (x + 65 + j), .ref sty, .int cr] (mkR x kA aA (mkG ct x g cnt F W0 H0 D0 rows cols) nc lc tx len at_ C R CL RL) n (fun v h' n' => v = none ∧ h' = mkR x kA aA (mkG ct x g cnt F W0 H0 D0 rows cols) nc lc tx len at_ C R (sT (sT (sT (sT (sT CL j 3 cnt) j 0 0) j 1 0) j 2 0) j 4 cnt) RL ∧ n' = n) 0 0 := by
  refine fh_enter (by decide) (Nat.le_of_ble_eq_true rfl) [(0, .ref (x + 226)), (1, .ref (x + 65 + j)), (2, .ref sty), (3, .int cr)] rfl ?_
  intro p e s m args below meth c H ls X hP hS hl
  have hx := X.1
  have hb := X.2.1
  have hml := X.2.2.1
  have hown : s.vm.findClass "FormulaSetter$Typesetter" = some m.cls := X.2.2.2.1
  have hT := X.2.2.2.2.1
  have hK := X.2.2.2.2.2.1
  have hRO := X.2.2.2.2.2.2.1
  have hnm : meth.name = "setLine" := X.2.2.2.2.2.2.2.2.2.2
  refine lv_aload_n hx hb (fh_d d_Ty_setLine 0 rfl) rfl (lv_at hl 1 rfl) ?_
  refine lv_aload_n hx hb (fh_d d_Ty_setLine 1 rfl) rfl (lv_at hl 0 rfl) ?_
  refine fh_get (own := "FormulaSetter$Typesetter") (ref := "FormulaSetter$Typesetter") (C := "FormulaSetter$Typesetter") (T := T_Ty) (N := 2) (v := .ref (x + 227)) hx hb hT i_Ty hown hK hP ((mkR_g (by omega) (by omega) (by omega)).trans mkG_ts) rfl 0 (by decide) (hT _ w247) (fun _ h9 => h9) rfl (fh_d d_Ty_setLine 2 rfl) ?_
  refine fh_get (own := "FormulaSetter$Typesetter") (ref := "FormulaSetter$Sheet") (C := "FormulaSetter$Sheet") (T := T_Sh) (N := 2) (v := .int cnt) hx hb hT i_Sh hown hK hP ((mkR_g (by omega) (by omega) (by omega)).trans mkG_sh) rfl 1 (by decide) (hT _ w217) (fun _ h9 => h9) rfl (fh_d d_Ty_setLine 3 rfl) ?_
  refine fh_put (own := "FormulaSetter$Typesetter") (ref := "FormulaSetter$Line") (C := "FormulaSetter$Line") (T := T_Li) (N := 9) (v := .int cnt) (ty := .int) hx hb hT i_Li t_Li k_Li n_Li hown hK hP hS (mkR_li (hj)) rfl 3 (by decide) (hT _ w104) (fun x9 h9 => u_same (hT _ w105) x9 h9) rfl (by decide +kernel) rfl rfl (Nat.le_of_ble_eq_true rfl) (fh_d d_Ty_setLine 4 rfl) (fun H locs hP hS => ?_)
  replace hP := fh_P.eq (h' := mkR x kA aA (mkG ct x g cnt F W0 H0 D0 rows cols) nc lc tx len at_ C R (sT CL j 3 cnt) RL) hP (mkR_li3 (v := cnt) (hj))
  have f1 : (sT CL j 3 cnt) j 3 = cnt := sT_same
  refine lv_aload_n hx hb (fh_d d_Ty_setLine 5 rfl) rfl (lv_at hl 1 rfl) ?_
  refine lv_iconst (v := 0) hx hb (fh_d d_Ty_setLine 6 rfl) (by decide) ?_
  refine lv_iconst (v := 0) hx hb (fh_d d_Ty_setLine 7 rfl) (by decide) ?_
  refine lv_iconst (v := 0) hx hb (fh_d d_Ty_setLine 8 rfl) (by decide) ?_
  refine fh_callU (cc' := c_Bo_measure) (nL' := 4) (rest := []) (a := x + 65 + j) (As := [.int 0, .int 0, .int 0]) (Ck := "FormulaSetter$Line") (owner := "FormulaSetter$Box") (x' := ⟨"FormulaSetter$Line", "measure", "(III)V"⟩) X hR (m_Bo_measureLi l D ct b RO (r - 1) n x kA aA g cnt F W0 H0 D0 rows cols nc lc tx len at_ C R (sT CL j 3 cnt) RL j (hj) 0 0 0) w655 w650 w651 rfl w654 w653 w3 ⟨by decide, by decide, by show _ = some 3; decide +kernel⟩ (by omega) (by decide) (fh_recv hK hP (mkR_li (hj)) rfl) hP hS hl.1 rfl (by exact Nat.le_of_ble_eq_true rfl) (fh_d d_Ty_setLine 9 rfl) ⟨Nat.le_refl _, Nat.le_refl _⟩ (fun v9 h9 n9 H locs hq hP hS => ?_)
  obtain ⟨rfl, q2a, q2b⟩ := hq
  rw [q2a, q2b] at hP
  refine W.eq (g2 := F0 m 18 ls []) rfl ?_
  have f3 : (sT (sT (sT (sT CL j 3 cnt) j 0 0) j 1 0) j 2 0) j 3 = cnt := (sT_ne (by omega)).trans ((sT_ne (by omega)).trans ((sT_ne (by omega)).trans f1))
  have f4 : (sT (sT (sT (sT CL j 3 cnt) j 0 0) j 1 0) j 2 0) j 0 = 0 := (sT_ne (by omega)).trans ((sT_ne (by omega)).trans sT_same)
  have f5 : (sT (sT (sT (sT CL j 3 cnt) j 0 0) j 1 0) j 2 0) j 1 = 0 := (sT_ne (by omega)).trans sT_same
  have f6 : (sT (sT (sT (sT CL j 3 cnt) j 0 0) j 1 0) j 2 0) j 2 = 0 := sT_same
  refine lv_null hx hb (fh_d d_Ty_setLine 10 rfl) ?_
  refine lv_astoreN (lv' := [(4, .null), (0, .ref (x + 226)), (1, .ref (x + 65 + j)), (2, .ref sty), (3, .int cr)]) hx hb (fh_d d_Ty_setLine 11 rfl) hl (by decide) rfl (fun ls hl => ?_)
  refine lv_aload_n hx hb (fh_d d_Ty_setLine 12 rfl) rfl (lv_at hl 2 rfl) ?_
  refine fh_get (own := "FormulaSetter$Typesetter") (ref := "FormulaSetter$Line") (C := "FormulaSetter$Line") (T := T_Li) (N := 9) (v := .null) hx hb hT i_Li hown hK hP (mkR_li (hj)) rfl 5 (by decide) (hT _ w154) (fun _ h9 => h9) (by show some (va_rf ((RL j 5).map (fun z => x + 4 + z))) = _; rw [hn0]; rfl) (fh_d d_Ty_setLine 13 rfl) ?_
  refine lv_astoreN (lv' := [(5, .null), (4, .null), (0, .ref (x + 226)), (1, .ref (x + 65 + j)), (2, .ref sty), (3, .int cr)]) hx hb (fh_d d_Ty_setLine 14 rfl) hl (by decide) rfl (fun ls hl => ?_)
  refine lv_aloadN hx hb (fh_d d_Ty_setLine 15 rfl) (lv_at hl 0 rfl) ?_
  refine lv_ifnullN (tgt := 136) hx hb (fh_d d_Ty_setLine 16 rfl) rfl ?_
  refine lv_aload_n hx hb (fh_d d_Ty_setLine 66 rfl) rfl (lv_at hl 3 rfl) ?_
  refine lv_aload_n hx hb (fh_d d_Ty_setLine 67 rfl) rfl (lv_at hl 2 rfl) ?_
  refine fh_get (own := "FormulaSetter$Typesetter") (ref := "FormulaSetter$Typesetter") (C := "FormulaSetter$Typesetter") (T := T_Ty) (N := 2) (v := .ref (x + 227)) hx hb hT i_Ty hown hK hP ((mkR_g (by omega) (by omega) (by omega)).trans mkG_ts) rfl 0 (by decide) (hT _ w247) (fun _ h9 => h9) rfl (fh_d d_Ty_setLine 68 rfl) ?_
  refine fh_get (own := "FormulaSetter$Typesetter") (ref := "FormulaSetter$Sheet") (C := "FormulaSetter$Sheet") (T := T_Sh) (N := 2) (v := .int cnt) hx hb hT i_Sh hown hK hP ((mkR_g (by omega) (by omega) (by omega)).trans mkG_sh) rfl 1 (by decide) (hT _ w217) (fun _ h9 => h9) rfl (fh_d d_Ty_setLine 69 rfl) ?_
  refine fh_put (own := "FormulaSetter$Typesetter") (ref := "FormulaSetter$Line") (C := "FormulaSetter$Line") (T := T_Li) (N := 9) (v := .int cnt) (ty := .int) hx hb hT i_Li t_Li k_Li n_Li hown hK hP hS (mkR_li (hj)) rfl 4 (by decide) (hT _ w109) (fun x9 h9 => u_same (hT _ w110) x9 h9) rfl (by decide +kernel) rfl rfl (Nat.le_of_ble_eq_true rfl) (fh_d d_Ty_setLine 70 rfl) (fun H locs hP hS => ?_)
  replace hP := fh_P.eq (h' := mkR x kA aA (mkG ct x g cnt F W0 H0 D0 rows cols) nc lc tx len at_ C R (sT (sT (sT (sT (sT CL j 3 cnt) j 0 0) j 1 0) j 2 0) j 4 cnt) RL) hP (mkR_li4 (v := cnt) (hj))
  have f8 : (sT (sT (sT (sT (sT CL j 3 cnt) j 0 0) j 1 0) j 2 0) j 4 cnt) j 3 = cnt := (sT_ne (by omega)).trans f3
  have f9 : (sT (sT (sT (sT (sT CL j 3 cnt) j 0 0) j 1 0) j 2 0) j 4 cnt) j 0 = 0 := (sT_ne (by omega)).trans f4
  have f10 : (sT (sT (sT (sT (sT CL j 3 cnt) j 0 0) j 1 0) j 2 0) j 4 cnt) j 1 = 0 := (sT_ne (by omega)).trans f5
  have f11 : (sT (sT (sT (sT (sT CL j 3 cnt) j 0 0) j 1 0) j 2 0) j 4 cnt) j 2 = 0 := (sT_ne (by omega)).trans f6
  have f12 : (sT (sT (sT (sT (sT CL j 3 cnt) j 0 0) j 1 0) j 2 0) j 4 cnt) j 4 = cnt := sT_same
  exact fh_vret X hP hS (fh_d d_Ty_setLine 71 rfl) ⟨rfl, rfl, rfl⟩

set_option maxHeartbeats 4000000 in
set_option maxRecDepth 100000 in
theorem m_Ty_setAll0 (l : Launch) (D : va_G) (ct : Nat → ClassId) (b : Nat) (RO : State → Prop) (hR : fh_R b RO) (r : Nat) (hr : 3 ≤ r) (n x : Nat) (kA aA : Nat → Nat) (g : fh_H) (cnt : Int32) (F W0 H0 D0 : Nat → Int32) (rows cols : Int32) (nc lc : Int32) (tx : Value) (len at_ : Int32) (C : Nat → Nat → Int32) (R : Nat → Nat → Option Nat) (CL : Nat → Nat → Int32) (RL : Nat → Nat → Option Nat) (j sty : Nat) (hj : j < 161) (hn0 : RL j 5 = none) : fh_C l D fh_cl (fh_tys ct) b RO y_Ty_setAll (Cond.code y_Ty_setAll c_Ty_setAll 3 (Option.none : Option FieldType) :: fh_T) (fh_rm r 0 0) [.ref (x + 226), .ref (x + 65 + j), .ref sty] (mkR x kA aA (mkG ct x g cnt F W0 H0 D0 rows cols) nc lc tx len at_ C R CL RL) n (fun v h' n' => v = none ∧ h' = mkR x kA aA (mkG ct x g 0 F W0 H0 D0 rows cols) nc lc tx len at_ C R (sT (sT (sT (sT (sT CL j 3 0) j 0 0) j 1 0) j 2 0) j 4 0) RL ∧ n' = n) 0 0 := by
  refine fh_enter (by decide) (Nat.le_of_ble_eq_true rfl) [(0, .ref (x + 226)), (1, .ref (x + 65 + j)), (2, .ref sty)] rfl ?_
  intro p e s m args below meth c H ls X hP hS hl
  have hx := X.1
  have hb := X.2.1
  have hml := X.2.2.1
  have hown : s.vm.findClass "FormulaSetter$Typesetter" = some m.cls := X.2.2.2.1
  have hT := X.2.2.2.2.1
  have hK := X.2.2.2.2.2.1
  have hRO := X.2.2.2.2.2.2.1
  have hnm : meth.name = "setAll" := X.2.2.2.2.2.2.2.2.2.2
  refine lv_aload_n hx hb (fh_d d_Ty_setAll 0 rfl) rfl (lv_at hl 0 rfl) ?_
  refine fh_get (own := "FormulaSetter$Typesetter") (ref := "FormulaSetter$Typesetter") (C := "FormulaSetter$Typesetter") (T := T_Ty) (N := 2) (v := .ref (x + 227)) hx hb hT i_Ty hown hK hP ((mkR_g (by omega) (by omega) (by omega)).trans mkG_ts) rfl 0 (by decide) (hT _ w247) (fun _ h9 => h9) rfl (fh_d d_Ty_setAll 1 rfl) ?_
  refine fh_callV (cc' := c_Sh_clear) (nL' := 1) (rest := []) (a := x + 227) (As := []) X hR (m_Sh_clear l D ct b RO (r - 1) n x kA aA g cnt F W0 H0 D0 rows cols nc lc tx len at_ C R CL RL) w645 w642 w643 w644 w7 ⟨by decide, by decide, by show _ = some 0; decide +kernel⟩ (by omega) (by decide) (fh_recv hK hP ((mkR_g (by omega) (by omega) (by omega)).trans mkG_sh) rfl) hP hS hl.1 rfl (by exact Nat.le_of_ble_eq_true rfl) (fh_d d_Ty_setAll 2 rfl) ⟨Nat.le_refl _, Nat.le_refl _⟩ (fun v9 h9 n9 H locs hq hP hS => ?_)
  obtain ⟨rfl, qa, qb⟩ := hq
  rw [qa, qb] at hP
  refine W.eq (g2 := F0 m 7 ls []) rfl ?_
  refine lv_aload_n hx hb (fh_d d_Ty_setAll 3 rfl) rfl (lv_at hl 0 rfl) ?_
  refine lv_aload_n hx hb (fh_d d_Ty_setAll 4 rfl) rfl (lv_at hl 1 rfl) ?_
  refine lv_aload_n hx hb (fh_d d_Ty_setAll 5 rfl) rfl (lv_at hl 2 rfl) ?_
  refine lv_iconst (v := 0) hx hb (fh_d d_Ty_setAll 6 rfl) (by decide) ?_
  refine fh_callV (cc' := c_Ty_setLine) (nL' := 8) (rest := []) (a := x + 226) (As := [.ref (x + 65 + j), .ref sty, .int 0]) X hR (m_Ty_setLine0 l D ct b RO hR (r - 1) (by omega) n x kA aA g 0 F W0 H0 D0 rows cols nc lc tx len at_ C R CL RL j sty hj 0 hn0) w649 w646 w648 v17 w6 ⟨by decide, by decide, by show _ = some 3; decide +kernel⟩ (by omega) (by decide) (fh_recv hK hP ((mkR_g (by omega) (by omega) (by omega)).trans mkG_ts) rfl) hP hS hl.1 rfl (by exact Nat.le_of_ble_eq_true rfl) (fh_d d_Ty_setAll 7 rfl) ⟨Nat.le_refl _, Nat.le_refl _⟩ (fun v9 h9 n9 H locs hq hP hS => ?_)
  obtain ⟨rfl, qc, qd⟩ := hq
  rw [qc, qd] at hP
  refine W.eq (g2 := F0 m 14 ls []) rfl ?_
  exact fh_vret X hP hS (fh_d d_Ty_setAll 8 rfl) ⟨rfl, rfl, rfl⟩
