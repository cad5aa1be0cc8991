/-! Grid: wholeWidth, wholeHeight, xOf, baseOf. Printed by wip/whole/gen/p63.py -/
set_option maxHeartbeats 4000000 in
set_option maxRecDepth 100000 in
theorem m_Gr_wholeWidth (l : Launch) (D : va_G) (ct : Nat → ClassId) (b : Nat) (RO : State → Prop) (hR : fh_R b RO) (r : Nat) (hr : 1 ≤ r) (n x : Nat) (kA aA : Nat → Nat) (g : fh_H) (cnt : Int32) (F W0 H0 D0 : Nat → Int32) (rows : Int32) (c0 : Nat) (hc0 : c0 ≤ 8) (nc lc : Int32) (tx : Value) (len at_ : Int32) (C : Nat → Nat → Int32) (R : Nat → Nat → Option Nat) (CL : Nat → Nat → Int32) (RL : Nat → Nat → Option Nat) (sz : Int32) : fh_C l D fh_cl (fh_tys ct) b RO y_Gr_wholeWidth (Cond.code y_Gr_wholeWidth c_Gr_wholeWidth 2 (Option.some FieldType.int) :: fh_T) (fh_rm r 0 0) [.ref (x + 229), .int sz] (mkR x kA aA (mkG ct x g cnt F W0 H0 D0 rows (nI c0)) nc lc tx len at_ C R CL RL) n (fun v h' n' => v = some (.int (lfO W0 sz c0 - 4 * sz)) ∧ h' = mkR x kA aA (mkG ct x g cnt F W0 H0 D0 rows (nI c0)) nc lc tx len at_ C R CL RL ∧ n' = n) 0 0 := by
  refine fh_enter (by decide) (Nat.le_of_ble_eq_true rfl) [(0, .ref (x + 229)), (1, .int sz)] rfl ?_
  intro p e s m args below meth c H ls X hP hS hl
  have hx := X.1
  have hb := X.2.1
  have hml := X.2.2.1
  have hown : s.vm.findClass "FormulaSetter$Grid" = some m.cls := X.2.2.2.1
  have hT := X.2.2.2.2.1
  have hK := X.2.2.2.2.2.1
  have hRO := X.2.2.2.2.2.2.1
  have hnm : meth.name = "wholeWidth" := X.2.2.2.2.2.2.2.2.2.2
  refine lv_aload_n hx hb (fh_d d_Gr_wholeWidth 0 rfl) rfl (lv_at hl 0 rfl) ?_
  refine lv_aload_n hx hb (fh_d d_Gr_wholeWidth 1 rfl) rfl (lv_at hl 0 rfl) ?_
  refine fh_get (own := "FormulaSetter$Grid") (ref := "FormulaSetter$Grid") (C := "FormulaSetter$Grid") (T := T_Gr) (N := 5) (v := .int (nI c0)) hx hb hT i_Gr hown hK hP ((mkR_g (by omega) (by omega) (by omega)).trans mkG_gr) rfl 4 (by decide) (hT _ w235) (fun _ h9 => h9) rfl (fh_d d_Gr_wholeWidth 2 rfl) ?_
  refine lv_iload_n hx hb (fh_d d_Gr_wholeWidth 3 rfl) rfl (lv_at hl 1 rfl) ?_
  refine fh_callV (cc' := c_Gr_leftOf) (nL' := 5) (rest := []) (a := x + 229) (As := [.int (nI c0), .int sz]) X hR (m_Gr_leftOf l D ct b RO (r - 1) n x kA aA g cnt F W0 H0 D0 rows (nI c0) nc lc tx len at_ C R CL RL c0 hc0 sz) w784 w781 w782 w783 w8 ⟨by decide, by decide, by show _ = some 2; decide +kernel⟩ (by omega) (by decide) (fh_recv hK hP ((mkR_g (by omega) (by omega) (by omega)).trans mkG_gr) rfl) hP hS hl.1 rfl (by exact Nat.le_of_ble_eq_true rfl) (fh_d d_Gr_wholeWidth 4 rfl) ⟨Nat.le_refl _, Nat.le_refl _⟩ (fun v9 h9 n9 H locs hq hP hS => ?_)
  obtain ⟨rfl, u1, u2⟩ := hq
  rw [u1, u2] at hP
  refine lv_iconst (v := 4) hx hb (fh_d d_Gr_wholeWidth 5 rfl) (by decide) ?_
  refine lv_iload_n hx hb (fh_d d_Gr_wholeWidth 6 rfl) rfl (lv_at hl 1 rfl) ?_
  refine lv_imul hx hb (fh_d d_Gr_wholeWidth 7 rfl) ?_
  refine lv_isub hx hb (fh_d d_Gr_wholeWidth 8 rfl) ?_
  exact fh_iret X hP hS (fh_d d_Gr_wholeWidth 9 rfl) ⟨rfl, rfl, rfl⟩

set_option maxHeartbeats 4000000 in
set_option maxRecDepth 100000 in
theorem m_Gr_wholeHeight (l : Launch) (D : va_G) (ct : Nat → ClassId) (b : Nat) (RO : State → Prop) (hR : fh_R b RO) (r : Nat) (hr : 1 ≤ r) (n x : Nat) (kA aA : Nat → Nat) (g : fh_H) (cnt : Int32) (F W0 H0 D0 : Nat → Int32) (cols : Int32) (c0 : Nat) (hc0 : c0 ≤ 8) (nc lc : Int32) (tx : Value) (len at_ : Int32) (C : Nat → Nat → Int32) (R : Nat → Nat → Option Nat) (CL : Nat → Nat → Int32) (RL : Nat → Nat → Option Nat) (sz : Int32) : fh_C l D fh_cl (fh_tys ct) b RO y_Gr_wholeHeight (Cond.code y_Gr_wholeHeight c_Gr_wholeHeight 2 (Option.some FieldType.int) :: fh_T) (fh_rm r 0 0) [.ref (x + 229), .int sz] (mkR x kA aA (mkG ct x g cnt F W0 H0 D0 (nI c0) cols) nc lc tx len at_ C R CL RL) n (fun v h' n' => v = some (.int (tpO H0 D0 sz c0 - sz)) ∧ h' = mkR x kA aA (mkG ct x g cnt F W0 H0 D0 (nI c0) cols) nc lc tx len at_ C R CL RL ∧ n' = n) 0 0 := by
  refine fh_enter (by decide) (Nat.le_of_ble_eq_true rfl) [(0, .ref (x + 229)), (1, .int sz)] rfl ?_
  intro p e s m args below meth c H ls X hP hS hl
  have hx := X.1
  have hb := X.2.1
  have hml := X.2.2.1
  have hown : s.vm.findClass "FormulaSetter$Grid" = some m.cls := X.2.2.2.1
  have hT := X.2.2.2.2.1
  have hK := X.2.2.2.2.2.1
  have hRO := X.2.2.2.2.2.2.1
  have hnm : meth.name = "wholeHeight" := X.2.2.2.2.2.2.2.2.2.2
  refine lv_aload_n hx hb (fh_d d_Gr_wholeHeight 0 rfl) rfl (lv_at hl 0 rfl) ?_
  refine lv_aload_n hx hb (fh_d d_Gr_wholeHeight 1 rfl) rfl (lv_at hl 0 rfl) ?_
  refine fh_get (own := "FormulaSetter$Grid") (ref := "FormulaSetter$Grid") (C := "FormulaSetter$Grid") (T := T_Gr) (N := 5) (v := .int (nI c0)) hx hb hT i_Gr hown hK hP ((mkR_g (by omega) (by omega) (by omega)).trans mkG_gr) rfl 3 (by decide) (hT _ w234) (fun _ h9 => h9) rfl (fh_d d_Gr_wholeHeight 2 rfl) ?_
  refine lv_iload_n hx hb (fh_d d_Gr_wholeHeight 3 rfl) rfl (lv_at hl 1 rfl) ?_
  refine fh_callV (cc' := c_Gr_topOf) (nL' := 5) (rest := []) (a := x + 229) (As := [.int (nI c0), .int sz]) X hR (m_Gr_topOf l D ct b RO (r - 1) n x kA aA g cnt F W0 H0 D0 (nI c0) cols nc lc tx len at_ C R CL RL c0 hc0 sz) w776 w773 w774 w775 w8 ⟨by decide, by decide, by show _ = some 2; decide +kernel⟩ (by omega) (by decide) (fh_recv hK hP ((mkR_g (by omega) (by omega) (by omega)).trans mkG_gr) rfl) hP hS hl.1 rfl (by exact Nat.le_of_ble_eq_true rfl) (fh_d d_Gr_wholeHeight 4 rfl) ⟨Nat.le_refl _, Nat.le_refl _⟩ (fun v9 h9 n9 H locs hq hP hS => ?_)
  obtain ⟨rfl, u1, u2⟩ := hq
  rw [u1, u2] at hP
  refine lv_iload_n hx hb (fh_d d_Gr_wholeHeight 5 rfl) rfl (lv_at hl 1 rfl) ?_
  refine lv_isub hx hb (fh_d d_Gr_wholeHeight 6 rfl) ?_
  exact fh_iret X hP hS (fh_d d_Gr_wholeHeight 7 rfl) ⟨rfl, rfl, rfl⟩

set_option maxHeartbeats 4000000 in
set_option maxRecDepth 100000 in
theorem m_Gr_xOf (l : Launch) (D : va_G) (ct : Nat → ClassId) (b : Nat) (RO : State → Prop) (hR : fh_R b RO) (r : Nat) (hr : 2 ≤ r) (n x : Nat) (kA aA : Nat → Nat) (g : fh_H) (cnt : Int32) (F W0 H0 D0 : Nat → Int32) (rows cols : Int32) (nc lc : Int32) (tx : Value) (len at_ : Int32) (C : Nat → Nat → Int32) (R : Nat → Nat → Option Nat) (CL : Nat → Nat → Int32) (RL : Nat → Nat → Option Nat) (i : Nat) (hi : i < 161) (w0 : Nat) (hw0 : w0 < 8) (hcw : CL i 7 = nI w0) (sz : Int32) : fh_C l D fh_cl (fh_tys ct) b RO y_Gr_xOf (Cond.code y_Gr_xOf c_Gr_xOf 4 (Option.some FieldType.int) :: fh_T) (fh_rm r 0 0) [.ref (x + 229), .ref (x + 65 + i), .int sz] (mkR x kA aA (mkG ct x g cnt F W0 H0 D0 rows cols) nc lc tx len at_ C R CL RL) n (fun v h' n' => v = some (.int (lfO W0 sz w0 + (W0 w0 - CL i 0) / 2)) ∧ h' = mkR x kA aA (mkG ct x g cnt F W0 H0 D0 rows cols) nc lc tx len at_ C R CL RL ∧ n' = n) 0 0 := by
  refine fh_enter (by decide) (Nat.le_of_ble_eq_true rfl) [(0, .ref (x + 229)), (1, .ref (x + 65 + i)), (2, .int sz)] rfl ?_
  intro p e s m args below meth c H ls X hP hS hl
  have hx := X.1
  have hb := X.2.1
  have hml := X.2.2.1
  have hown : s.vm.findClass "FormulaSetter$Grid" = some m.cls := X.2.2.2.1
  have hT := X.2.2.2.2.1
  have hK := X.2.2.2.2.2.1
  have hRO := X.2.2.2.2.2.2.1
  have hnm : meth.name = "xOf" := X.2.2.2.2.2.2.2.2.2.2
  refine lv_aload_n hx hb (fh_d d_Gr_xOf 0 rfl) rfl (lv_at hl 1 rfl) ?_
  refine fh_callS (cc' := c_Gr_columnOf) (nL' := 1) (rest := []) (av := [.ref (x + 65 + i)]) X hR (m_Gr_columnOf l D ct b RO (r - 1) (by omega) n x kA aA g cnt F W0 H0 D0 rows cols nc lc tx len at_ C R CL RL i hi w0 hw0 hcw) w768 w766 w767 w8 ⟨by decide, by decide, by show _ = some 1; decide +kernel⟩ (by omega) (by decide) hP hS hl.1 rfl (by exact Nat.le_of_ble_eq_true rfl) (fh_d d_Gr_xOf 1 rfl) ⟨Nat.le_refl _, Nat.le_refl _⟩ (fun v9 h9 n9 H locs hq hP hS => ?_)
  obtain ⟨rfl, u1, u2⟩ := hq
  rw [u1, u2] at hP
  refine lv_istore_n (lv' := [(3, .int (nI w0)), (0, .ref (x + 229)), (1, .ref (x + 65 + i)), (2, .int sz)]) hx hb (fh_d d_Gr_xOf 2 rfl) rfl hl (by decide) rfl (fun ls hl => ?_)
  refine lv_aload_n hx hb (fh_d d_Gr_xOf 3 rfl) rfl (lv_at hl 1 rfl) ?_
  refine lv_iload_n hx hb (fh_d d_Gr_xOf 4 rfl) rfl (lv_at hl 0 rfl) ?_
  refine lv_iload_n hx hb (fh_d d_Gr_xOf 5 rfl) rfl (lv_at hl 3 rfl) ?_
  refine fh_callV (cc' := c_Gr_leftOf) (nL' := 5) (rest := []) (a := x + 229) (As := [.int (nI w0), .int sz]) X hR (m_Gr_leftOf l D ct b RO (r - 1) n x kA aA g cnt F W0 H0 D0 rows cols nc lc tx len at_ C R CL RL w0 (by omega) sz) w784 w781 w782 w783 w8 ⟨by decide, by decide, by show _ = some 2; decide +kernel⟩ (by omega) (by decide) (fh_recv hK hP ((mkR_g (by omega) (by omega) (by omega)).trans mkG_gr) rfl) hP hS hl.1 rfl (by exact Nat.le_of_ble_eq_true rfl) (fh_d d_Gr_xOf 6 rfl) ⟨Nat.le_refl _, Nat.le_refl _⟩ (fun v9 h9 n9 H locs hq hP hS => ?_)
  obtain ⟨rfl, u3, u4⟩ := hq
  rw [u3, u4] at hP
  refine lv_aload_n hx hb (fh_d d_Gr_xOf 7 rfl) rfl (lv_at hl 1 rfl) ?_
  refine fh_get (own := "FormulaSetter$Grid") (ref := "FormulaSetter$Grid") (C := "FormulaSetter$Grid") (T := T_Gr) (N := 5) (v := .ref (x + 230)) hx hb hT i_Gr hown hK hP ((mkR_g (by omega) (by omega) (by omega)).trans mkG_gr) rfl 0 (by decide) (hT _ w231) (fun _ h9 => h9) rfl (fh_d d_Gr_xOf 8 rfl) ?_
  refine lv_iload_n hx hb (fh_d d_Gr_xOf 9 rfl) rfl (lv_at hl 0 rfl) ?_
  refine fn_iald (f := W0) (k := w0) hx hb hK hP 0 ((mkR_g (by omega) (by omega) (by omega)).trans mkG_gw) rfl (rfl) (by omega) (by decide) (fh_d d_Gr_xOf 10 rfl) ?_
  refine lv_aload_n hx hb (fh_d d_Gr_xOf 11 rfl) rfl (lv_at hl 2 rfl) ?_
  refine fh_get (own := "FormulaSetter$Grid") (ref := "FormulaSetter$Line") (C := "FormulaSetter$Line") (T := T_Li) (N := 9) (v := .int ((CL i) 0)) hx hb hT i_Li hown hK hP (mkR_li (hi)) rfl 0 (by decide) (hT _ w84) (fun x9 h9 => u_same (hT _ w85) x9 h9) (rfl) (fh_d d_Gr_xOf 12 rfl) ?_
  refine lv_isub hx hb (fh_d d_Gr_xOf 13 rfl) ?_
  refine lv_iconst (v := 2) hx hb (fh_d d_Gr_xOf 14 rfl) (by decide) ?_
  refine lv_idiv hx hb (fh_d d_Gr_xOf 15 rfl) (by decide) ?_
  refine lv_iadd hx hb (fh_d d_Gr_xOf 16 rfl) ?_
  exact fh_iret X hP hS (fh_d d_Gr_xOf 17 rfl) ⟨rfl, rfl, rfl⟩

set_option maxHeartbeats 4000000 in
set_option maxRecDepth 100000 in
theorem m_Gr_baseOf (l : Launch) (D : va_G) (ct : Nat → ClassId) (b : Nat) (RO : State → Prop) (hR : fh_R b RO) (r : Nat) (hr : 2 ≤ r) (n x : Nat) (kA aA : Nat → Nat) (g : fh_H) (cnt : Int32) (F W0 H0 D0 : Nat → Int32) (rows cols : Int32) (nc lc : Int32) (tx : Value) (len at_ : Int32) (C : Nat → Nat → Int32) (R : Nat → Nat → Option Nat) (CL : Nat → Nat → Int32) (RL : Nat → Nat → Option Nat) (i : Nat) (hi : i < 161) (w0 : Nat) (hw0 : w0 < 8) (hcw : CL i 6 = nI w0) (sz : Int32) : fh_C l D fh_cl (fh_tys ct) b RO y_Gr_baseOf (Cond.code y_Gr_baseOf c_Gr_baseOf 4 (Option.some FieldType.int) :: fh_T) (fh_rm r 0 0) [.ref (x + 229), .ref (x + 65 + i), .int sz] (mkR x kA aA (mkG ct x g cnt F W0 H0 D0 rows cols) nc lc tx len at_ C R CL RL) n (fun v h' n' => v = some (.int (tpO H0 D0 sz w0 + H0 w0)) ∧ h' = mkR x kA aA (mkG ct x g cnt F W0 H0 D0 rows cols) nc lc tx len at_ C R CL RL ∧ n' = n) 0 0 := by
  refine fh_enter (by decide) (Nat.le_of_ble_eq_true rfl) [(0, .ref (x + 229)), (1, .ref (x + 65 + i)), (2, .int sz)] rfl ?_
  intro p e s m args below meth c H ls X hP hS hl
  have hx := X.1
  have hb := X.2.1
  have hml := X.2.2.1
  have hown : s.vm.findClass "FormulaSetter$Grid" = some m.cls := X.2.2.2.1
  have hT := X.2.2.2.2.1
  have hK := X.2.2.2.2.2.1
  have hRO := X.2.2.2.2.2.2.1
  have hnm : meth.name = "baseOf" := X.2.2.2.2.2.2.2.2.2.2
  refine lv_aload_n hx hb (fh_d d_Gr_baseOf 0 rfl) rfl (lv_at hl 1 rfl) ?_
  refine fh_callS (cc' := c_Gr_rowOf) (nL' := 1) (rest := []) (av := [.ref (x + 65 + i)]) X hR (m_Gr_rowOf l D ct b RO (r - 1) (by omega) n x kA aA g cnt F W0 H0 D0 rows cols nc lc tx len at_ C R CL RL i hi w0 hw0 hcw) w763 w761 w762 w8 ⟨by decide, by decide, by show _ = some 1; decide +kernel⟩ (by omega) (by decide) hP hS hl.1 rfl (by exact Nat.le_of_ble_eq_true rfl) (fh_d d_Gr_baseOf 1 rfl) ⟨Nat.le_refl _, Nat.le_refl _⟩ (fun v9 h9 n9 H locs hq hP hS => ?_)
  obtain ⟨rfl, u1, u2⟩ := hq
  rw [u1, u2] at hP
  refine lv_istore_n (lv' := [(3, .int (nI w0)), (0, .ref (x + 229)), (1, .ref (x + 65 + i)), (2, .int sz)]) hx hb (fh_d d_Gr_baseOf 2 rfl) rfl hl (by decide) rfl (fun ls hl => ?_)
  refine lv_aload_n hx hb (fh_d d_Gr_baseOf 3 rfl) rfl (lv_at hl 1 rfl) ?_
  refine lv_iload_n hx hb (fh_d d_Gr_baseOf 4 rfl) rfl (lv_at hl 0 rfl) ?_
  refine lv_iload_n hx hb (fh_d d_Gr_baseOf 5 rfl) rfl (lv_at hl 3 rfl) ?_
  refine fh_callV (cc' := c_Gr_topOf) (nL' := 5) (rest := []) (a := x + 229) (As := [.int (nI w0), .int sz]) X hR (m_Gr_topOf l D ct b RO (r - 1) n x kA aA g cnt F W0 H0 D0 rows cols nc lc tx len at_ C R CL RL w0 (by omega) sz) w776 w773 w774 w775 w8 ⟨by decide, by decide, by show _ = some 2; decide +kernel⟩ (by omega) (by decide) (fh_recv hK hP ((mkR_g (by omega) (by omega) (by omega)).trans mkG_gr) rfl) hP hS hl.1 rfl (by exact Nat.le_of_ble_eq_true rfl) (fh_d d_Gr_baseOf 6 rfl) ⟨Nat.le_refl _, Nat.le_refl _⟩ (fun v9 h9 n9 H locs hq hP hS => ?_)
  obtain ⟨rfl, u3, u4⟩ := hq
  rw [u3, u4] at hP
  refine lv_aload_n hx hb (fh_d d_Gr_baseOf 7 rfl) rfl (lv_at hl 1 rfl) ?_
  refine fh_get (own := "FormulaSetter$Grid") (ref := "FormulaSetter$Grid") (C := "FormulaSetter$Grid") (T := T_Gr) (N := 5) (v := .ref (x + 231)) hx hb hT i_Gr hown hK hP ((mkR_g (by omega) (by omega) (by omega)).trans mkG_gr) rfl 1 (by decide) (hT _ w232) (fun _ h9 => h9) rfl (fh_d d_Gr_baseOf 8 rfl) ?_
  refine lv_iload_n hx hb (fh_d d_Gr_baseOf 9 rfl) rfl (lv_at hl 0 rfl) ?_
  refine fn_iald (f := H0) (k := w0) hx hb hK hP 0 ((mkR_g (by omega) (by omega) (by omega)).trans mkG_gh) rfl (rfl) (by omega) (by decide) (fh_d d_Gr_baseOf 10 rfl) ?_
  refine lv_iadd hx hb (fh_d d_Gr_baseOf 11 rfl) ?_
  exact fh_iret X hP hS (fh_d d_Gr_baseOf 12 rfl) ⟨rfl, rfl, rfl⟩
