/-! Grid: rowOf, columnOf, leftOf, topOf. Printed by wip/whole/gen/p62.py -/
def lfO (W : Nat → Int32) (sz : Int32) : Nat → Int32
  | 0 => 0
  | k + 1 => lfO W sz k + (W k + 4 * sz)
def tpO (H D : Nat → Int32) (sz : Int32) : Nat → Int32
  | 0 => 0
  | k + 1 => tpO H D sz k + ((H k + D k) + sz)
theorem min7 {w : Nat} (h : w < 8) : (if (7 : Int32) < nI w then (7 : Int32) else nI w) = nI w := if_neg (fun z => absurd ((nI_ltI (a := 7) (b := w) (by decide) (by omega)).mp z) (by omega))
theorem max0 {w : Nat} (h : w < 8) : (if (0 : Int32) < nI w then nI w else (0 : Int32)) = nI w := by
  by_cases q : w = 0
  · subst q; rfl
  · exact if_pos ((nI_ltI (a := 0) (b := w) (by decide) (by omega)).mpr (by omega))
set_option maxHeartbeats 4000000 in
set_option maxRecDepth 100000 in
theorem m_Gr_rowOf (l : Launch) (D : va_G) (ct : Nat → ClassId) (b : Nat) (RO : State → Prop) (r : Nat) (hr : 1 ≤ r) (n x : Nat) (kA aA : Nat → Nat) (g : fh_H) (cnt : Int32) (F W0 H0 D0 : Nat → Int32) (rows cols : Int32) (nc lc : Int32) (tx : Value) (len at_ : Int32) (C : Nat → Nat → Int32) (R : Nat → Nat → Option Nat) (CL : Nat → Nat → Int32) (RL : Nat → Nat → Option Nat) (i : Nat) (hi : i < 161) (w0 : Nat) (hw0 : w0 < 8) (hcw : CL i 6 = nI w0) : fh_C l D fh_cl (fh_tys ct) b RO y_Gr_rowOf (Cond.code y_Gr_rowOf c_Gr_rowOf 1 (Option.some FieldType.int) :: fh_T) (fh_rm r 0 0) [.ref (x + 65 + i)] (mkR x kA aA (mkG ct x g cnt F W0 H0 D0 rows cols) nc lc tx len at_ C R CL RL) n (fun v h' n' => v = some (.int (nI w0)) ∧ h' = mkR x kA aA (mkG ct x g cnt F W0 H0 D0 rows cols) nc lc tx len at_ C R CL RL ∧ n' = n) 0 0 := by
  refine fh_enter (by decide) (Nat.le_of_ble_eq_true rfl) [(0, .ref (x + 65 + i))] rfl ?_
  intro p e s m args below meth c H ls X hP hS hl
  have hx := X.1
  have hb := X.2.1
  have hml := X.2.2.1
  have hown : s.vm.findClass "FormulaSetter$Grid" = some m.cls := X.2.2.2.1
  have hT := X.2.2.2.2.1
  have hK := X.2.2.2.2.2.1
  have hRO := X.2.2.2.2.2.2.1
  have hnm : meth.name = "rowOf" := X.2.2.2.2.2.2.2.2.2.2
  refine lv_iconst (v := 0) hx hb (fh_d d_Gr_rowOf 0 rfl) (by decide) ?_
  refine lv_aload_n hx hb (fh_d d_Gr_rowOf 1 rfl) rfl (lv_at hl 0 rfl) ?_
  refine fh_get (own := "FormulaSetter$Grid") (ref := "FormulaSetter$Line") (C := "FormulaSetter$Line") (T := T_Li) (N := 9) (v := .int (nI w0)) hx hb hT i_Li hown hK hP (mkR_li (hi)) rfl 6 (by decide) (hT _ w157) (fun _ h9 => h9) (by show some (Value.int (CL i 6)) = _; rw [hcw]) (fh_d d_Gr_rowOf 2 rfl) ?_
  refine lv_bipush (v := 7) hx hb (fh_d d_Gr_rowOf 3 rfl) (by decide) ?_
  refine va_mmin hx hb (hml.trans hl.1.symm) hown (hT _ w764) (hT _ w298) (hT _ w14) (hT _ w299) (by show 1 ≤ r; omega) (by show _ ≤ 60 * r; simp [Value.category]; omega) (Nat.le_refl _) (Nat.le_refl _) (fh_d d_Gr_rowOf 4 rfl) ?_
  rw [min7 hw0]
  refine va_mmax hx hb (hml.trans hl.1.symm) hown (hT _ w765) (hT _ w431) (hT _ w14) (hT _ w432) (by show 1 ≤ r; omega) (by show _ ≤ 60 * r; simp [Value.category]; omega) (Nat.le_refl _) (Nat.le_refl _) (fh_d d_Gr_rowOf 5 rfl) ?_
  rw [max0 hw0]
  exact fh_iret X hP hS (fh_d d_Gr_rowOf 6 rfl) ⟨rfl, rfl, rfl⟩

set_option maxHeartbeats 4000000 in
set_option maxRecDepth 100000 in
theorem m_Gr_columnOf (l : Launch) (D : va_G) (ct : Nat → ClassId) (b : Nat) (RO : State → Prop) (r : Nat) (hr : 1 ≤ r) (n x : Nat) (kA aA : Nat → Nat) (g : fh_H) (cnt : Int32) (F W0 H0 D0 : Nat → Int32) (rows cols : Int32) (nc lc : Int32) (tx : Value) (len at_ : Int32) (C : Nat → Nat → Int32) (R : Nat → Nat → Option Nat) (CL : Nat → Nat → Int32) (RL : Nat → Nat → Option Nat) (i : Nat) (hi : i < 161) (w0 : Nat) (hw0 : w0 < 8) (hcw : CL i 7 = nI w0) : fh_C l D fh_cl (fh_tys ct) b RO y_Gr_columnOf (Cond.code y_Gr_columnOf c_Gr_columnOf 1 (Option.some FieldType.int) :: fh_T) (fh_rm r 0 0) [.ref (x + 65 + i)] (mkR x kA aA (mkG ct x g cnt F W0 H0 D0 rows cols) nc lc tx len at_ C R CL RL) n (fun v h' n' => v = some (.int (nI w0)) ∧ h' = mkR x kA aA (mkG ct x g cnt F W0 H0 D0 rows cols) nc lc tx len at_ C R CL RL ∧ n' = n) 0 0 := by
  refine fh_enter (by decide) (Nat.le_of_ble_eq_true rfl) [(0, .ref (x + 65 + i))] rfl ?_
  intro p e s m args below meth c H ls X hP hS hl
  have hx := X.1
  have hb := X.2.1
  have hml := X.2.2.1
  have hown : s.vm.findClass "FormulaSetter$Grid" = some m.cls := X.2.2.2.1
  have hT := X.2.2.2.2.1
  have hK := X.2.2.2.2.2.1
  have hRO := X.2.2.2.2.2.2.1
  have hnm : meth.name = "columnOf" := X.2.2.2.2.2.2.2.2.2.2
  refine lv_iconst (v := 0) hx hb (fh_d d_Gr_columnOf 0 rfl) (by decide) ?_
  refine lv_aload_n hx hb (fh_d d_Gr_columnOf 1 rfl) rfl (lv_at hl 0 rfl) ?_
  refine fh_get (own := "FormulaSetter$Grid") (ref := "FormulaSetter$Line") (C := "FormulaSetter$Line") (T := T_Li) (N := 9) (v := .int (nI w0)) hx hb hT i_Li hown hK hP (mkR_li (hi)) rfl 7 (by decide) (hT _ w160) (fun _ h9 => h9) (by show some (Value.int (CL i 7)) = _; rw [hcw]) (fh_d d_Gr_columnOf 2 rfl) ?_
  refine lv_bipush (v := 7) hx hb (fh_d d_Gr_columnOf 3 rfl) (by decide) ?_
  refine va_mmin hx hb (hml.trans hl.1.symm) hown (hT _ w764) (hT _ w298) (hT _ w14) (hT _ w299) (by show 1 ≤ r; omega) (by show _ ≤ 60 * r; simp [Value.category]; omega) (Nat.le_refl _) (Nat.le_refl _) (fh_d d_Gr_columnOf 4 rfl) ?_
  rw [min7 hw0]
  refine va_mmax hx hb (hml.trans hl.1.symm) hown (hT _ w765) (hT _ w431) (hT _ w14) (hT _ w432) (by show 1 ≤ r; omega) (by show _ ≤ 60 * r; simp [Value.category]; omega) (Nat.le_refl _) (Nat.le_refl _) (fh_d d_Gr_columnOf 5 rfl) ?_
  rw [max0 hw0]
  exact fh_iret X hP hS (fh_d d_Gr_columnOf 6 rfl) ⟨rfl, rfl, rfl⟩

set_option maxHeartbeats 4000000 in
set_option maxRecDepth 100000 in
theorem m_Gr_leftOf (l : Launch) (D : va_G) (ct : Nat → ClassId) (b : Nat) (RO : State → Prop) (r : Nat) (n x : Nat) (kA aA : Nat → Nat) (g : fh_H) (cnt : Int32) (F W0 H0 D0 : Nat → Int32) (rows cols : Int32) (nc lc : Int32) (tx : Value) (len at_ : Int32) (C : Nat → Nat → Int32) (R : Nat → Nat → Option Nat) (CL : Nat → Nat → Int32) (RL : Nat → Nat → Option Nat) (c0 : Nat) (hc0 : c0 ≤ 8) (sz : Int32) : fh_C l D fh_cl (fh_tys ct) b RO y_Gr_leftOf (Cond.code y_Gr_leftOf c_Gr_leftOf 5 (Option.some FieldType.int) :: fh_T) (fh_rm r 0 0) [.ref (x + 229), .int (nI c0), .int sz] (mkR x kA aA (mkG ct x g cnt F W0 H0 D0 rows cols) nc lc tx len at_ C R CL RL) n (fun v h' n' => v = some (.int (lfO W0 sz c0)) ∧ h' = mkR x kA aA (mkG ct x g cnt F W0 H0 D0 rows cols) nc lc tx len at_ C R CL RL ∧ n' = n) 0 0 := by
  refine fh_enter (by decide) (Nat.le_of_ble_eq_true rfl) [(0, .ref (x + 229)), (1, .int (nI c0)), (2, .int sz)] rfl ?_
  intro p e s m args below meth c H ls X hP hS hl
  have hx := X.1
  have hb := X.2.1
  have hml := X.2.2.1
  have hown : s.vm.findClass "FormulaSetter$Grid" = some m.cls := X.2.2.2.1
  have hT := X.2.2.2.2.1
  have hK := X.2.2.2.2.2.1
  have hRO := X.2.2.2.2.2.2.1
  have hnm : meth.name = "leftOf" := X.2.2.2.2.2.2.2.2.2.2
  have loop : ∀ (t k : Nat), c0 - k = t → k ≤ c0 → ∀ (H : Heap) (locs : List Loc) (ls : Array Slot), fh_P D fh_cl b (mkR x kA aA (mkG ct x g cnt F W0 H0 D0 rows cols) nc lc tx len at_ C R CL RL) n H → va_S (fh_A b) s.heap H locs → lv_has ls 5 [(4, .int (nI k)), (3, .int (lfO W0 sz k)), (0, .ref (x + 229)), (1, .int (nI c0)), (2, .int sz)] → W p l e (fh_rm r 0 0) s m args below meth c H locs 0 0 (MQ below (fh_Post D fh_cl b (fun v h' n' => v = some (.int (lfO W0 sz c0)) ∧ h' = mkR x kA aA (mkG ct x g cnt F W0 H0 D0 rows cols) nc lc tx len at_ C R CL RL ∧ n' = n)) args s 0 0 (fh_A b)) (F0 m 5 ls []) := by
    intro t
    induction t with
    | zero =>
      intro k hkt hkc H locs ls hP hS hl
      refine lv_iload hx hb (fh_d d_Gr_leftOf 4 rfl) (lv_at hl 0 rfl) ?_
      refine lv_iload_n hx hb (fh_d d_Gr_leftOf 5 rfl) rfl (lv_at hl 3 rfl) ?_
      refine lv_icmp_ge (tgt := 38) hx hb (fh_d d_Gr_leftOf 6 rfl) rfl (fun c1 => ?_) (fun c1 => absurd c1 (fun c9 => c1 ((nI_leI (a := c0) (b := k) (by omega) (by omega)).mpr (by omega))))
      refine lv_iload_n hx hb (fh_d d_Gr_leftOf 23 rfl) rfl (lv_at hl 1 rfl) ?_
      exact fh_iret X hP hS (fh_d d_Gr_leftOf 24 rfl) ⟨by rw [show k = c0 by omega], rfl, rfl⟩
    | succ t ih =>
      intro k hkt hkc H locs ls hP hS hl
      refine lv_iload hx hb (fh_d d_Gr_leftOf 4 rfl) (lv_at hl 0 rfl) ?_
      refine lv_iload_n hx hb (fh_d d_Gr_leftOf 5 rfl) rfl (lv_at hl 3 rfl) ?_
      refine lv_icmp_ge (tgt := 38) hx hb (fh_d d_Gr_leftOf 6 rfl) rfl (fun c2 => absurd c2 (fun c9 => absurd ((nI_leI (a := c0) (b := k) (by omega) (by omega)).mp c9) (by omega))) (fun c2 => ?_)
      refine lv_iload hx hb (fh_d d_Gr_leftOf 7 rfl) (lv_at hl 0 rfl) ?_
      refine lv_bipush (v := 8) hx hb (fh_d d_Gr_leftOf 8 rfl) (by decide) ?_
      refine lv_icmp_ge (tgt := 38) hx hb (fh_d d_Gr_leftOf 9 rfl) rfl (fun c3 => absurd c3 (fun c9 => absurd ((nI_leI (a := 8) (b := k) (by decide) (by omega)).mp c9) (by omega))) (fun c3 => ?_)
      refine lv_iload_n hx hb (fh_d d_Gr_leftOf 10 rfl) rfl (lv_at hl 1 rfl) ?_
      refine lv_aload_n hx hb (fh_d d_Gr_leftOf 11 rfl) rfl (lv_at hl 2 rfl) ?_
      refine fh_get (own := "FormulaSetter$Grid") (ref := "FormulaSetter$Grid") (C := "FormulaSetter$Grid") (T := T_Gr) (N := 5) (v := .ref (x + 230)) hx hb hT i_Gr hown hK hP ((mkR_g (by omega) (by omega) (by omega)).trans mkG_gr) rfl 0 (by decide) (hT _ w231) (fun _ h9 => h9) rfl (fh_d d_Gr_leftOf 12 rfl) ?_
      refine lv_iload hx hb (fh_d d_Gr_leftOf 13 rfl) (lv_at hl 0 rfl) ?_
      refine fn_iald (f := W0) (k := k) hx hb hK hP 0 ((mkR_g (by omega) (by omega) (by omega)).trans mkG_gw) rfl (rfl) (by omega) (by decide) (fh_d d_Gr_leftOf 14 rfl) ?_
      refine lv_iconst (v := 4) hx hb (fh_d d_Gr_leftOf 15 rfl) (by decide) ?_
      refine lv_iload_n hx hb (fh_d d_Gr_leftOf 16 rfl) rfl (lv_at hl 4 rfl) ?_
      refine lv_imul hx hb (fh_d d_Gr_leftOf 17 rfl) ?_
      refine lv_iadd hx hb (fh_d d_Gr_leftOf 18 rfl) ?_
      refine lv_iadd hx hb (fh_d d_Gr_leftOf 19 rfl) ?_
      refine lv_istore_n (lv' := [(3, .int ((lfO W0 sz k) + ((W0 k) + (4 * sz)))), (4, .int (nI k)), (0, .ref (x + 229)), (1, .int (nI c0)), (2, .int sz)]) hx hb (fh_d d_Gr_leftOf 20 rfl) rfl hl (by decide) rfl (fun ls hl => ?_)
      refine lv_iinc (k := 1) (v := (nI k) + 1) (lv' := [(4, .int ((nI k) + 1)), (3, .int ((lfO W0 sz k) + ((W0 k) + (4 * sz)))), (0, .ref (x + 229)), (1, .int (nI c0)), (2, .int sz)]) hx hb (fh_d d_Gr_leftOf 21 rfl) hl rfl (by rfl) (by decide) rfl (fun ls hl => ?_)
      refine lv_goto (tgt := 5) hx hb (fh_d d_Gr_leftOf 22 rfl) rfl ?_
      rw [nI_1] at hl
      exact ih (k + 1) (by omega) (by omega) H _ _ hP hS hl
  refine lv_iconst (v := 0) hx hb (fh_d d_Gr_leftOf 0 rfl) (by decide) ?_
  refine lv_istore_n (lv' := [(3, .int 0), (0, .ref (x + 229)), (1, .int (nI c0)), (2, .int sz)]) hx hb (fh_d d_Gr_leftOf 1 rfl) rfl hl (by decide) rfl (fun ls hl => ?_)
  refine lv_iconst (v := 0) hx hb (fh_d d_Gr_leftOf 2 rfl) (by decide) ?_
  refine lv_istore (lv' := [(4, .int 0), (3, .int 0), (0, .ref (x + 229)), (1, .int (nI c0)), (2, .int sz)]) hx hb (fh_d d_Gr_leftOf 3 rfl) hl (by decide) rfl (fun ls hl => ?_)
  exact loop _ 0 rfl (Nat.zero_le _) H _ _ hP hS hl

set_option maxHeartbeats 4000000 in
set_option maxRecDepth 100000 in
theorem m_Gr_topOf (l : Launch) (D : va_G) (ct : Nat → ClassId) (b : Nat) (RO : State → Prop) (r : Nat) (n x : Nat) (kA aA : Nat → Nat) (g : fh_H) (cnt : Int32) (F W0 H0 D0 : Nat → Int32) (rows cols : Int32) (nc lc : Int32) (tx : Value) (len at_ : Int32) (C : Nat → Nat → Int32) (R : Nat → Nat → Option Nat) (CL : Nat → Nat → Int32) (RL : Nat → Nat → Option Nat) (c0 : Nat) (hc0 : c0 ≤ 8) (sz : Int32) : fh_C l D fh_cl (fh_tys ct) b RO y_Gr_topOf (Cond.code y_Gr_topOf c_Gr_topOf 5 (Option.some FieldType.int) :: fh_T) (fh_rm r 0 0) [.ref (x + 229), .int (nI c0), .int sz] (mkR x kA aA (mkG ct x g cnt F W0 H0 D0 rows cols) nc lc tx len at_ C R CL RL) n (fun v h' n' => v = some (.int (tpO H0 D0 sz c0)) ∧ h' = mkR x kA aA (mkG ct x g cnt F W0 H0 D0 rows cols) nc lc tx len at_ C R CL RL ∧ n' = n) 0 0 := by
  refine fh_enter (by decide) (Nat.le_of_ble_eq_true rfl) [(0, .ref (x + 229)), (1, .int (nI c0)), (2, .int sz)] rfl ?_
  intro p e s m args below meth c H ls X hP hS hl
  have hx := X.1
  have hb := X.2.1
  have hml := X.2.2.1
  have hown : s.vm.findClass "FormulaSetter$Grid" = some m.cls := X.2.2.2.1
  have hT := X.2.2.2.2.1
  have hK := X.2.2.2.2.2.1
  have hRO := X.2.2.2.2.2.2.1
  have hnm : meth.name = "topOf" := X.2.2.2.2.2.2.2.2.2.2
  have loop : ∀ (t k : Nat), c0 - k = t → k ≤ c0 → ∀ (H : Heap) (locs : List Loc) (ls : Array Slot), fh_P D fh_cl b (mkR x kA aA (mkG ct x g cnt F W0 H0 D0 rows cols) nc lc tx len at_ C R CL RL) n H → va_S (fh_A b) s.heap H locs → lv_has ls 5 [(4, .int (nI k)), (3, .int (tpO H0 D0 sz k)), (0, .ref (x + 229)), (1, .int (nI c0)), (2, .int sz)] → W p l e (fh_rm r 0 0) s m args below meth c H locs 0 0 (MQ below (fh_Post D fh_cl b (fun v h' n' => v = some (.int (tpO H0 D0 sz c0)) ∧ h' = mkR x kA aA (mkG ct x g cnt F W0 H0 D0 rows cols) nc lc tx len at_ C R CL RL ∧ n' = n)) args s 0 0 (fh_A b)) (F0 m 5 ls []) := by
    intro t
    induction t with
    | zero =>
      intro k hkt hkc H locs ls hP hS hl
      refine lv_iload hx hb (fh_d d_Gr_topOf 4 rfl) (lv_at hl 0 rfl) ?_
      refine lv_iload_n hx hb (fh_d d_Gr_topOf 5 rfl) rfl (lv_at hl 3 rfl) ?_
      refine lv_icmp_ge (tgt := 44) hx hb (fh_d d_Gr_topOf 6 rfl) rfl (fun c1 => ?_) (fun c1 => absurd c1 (fun c9 => c1 ((nI_leI (a := c0) (b := k) (by omega) (by omega)).mpr (by omega))))
      refine lv_iload_n hx hb (fh_d d_Gr_topOf 26 rfl) rfl (lv_at hl 1 rfl) ?_
      exact fh_iret X hP hS (fh_d d_Gr_topOf 27 rfl) ⟨by rw [show k = c0 by omega], rfl, rfl⟩
    | succ t ih =>
      intro k hkt hkc H locs ls hP hS hl
      refine lv_iload hx hb (fh_d d_Gr_topOf 4 rfl) (lv_at hl 0 rfl) ?_
      refine lv_iload_n hx hb (fh_d d_Gr_topOf 5 rfl) rfl (lv_at hl 3 rfl) ?_
      refine lv_icmp_ge (tgt := 44) hx hb (fh_d d_Gr_topOf 6 rfl) rfl (fun c2 => absurd c2 (fun c9 => absurd ((nI_leI (a := c0) (b := k) (by omega) (by omega)).mp c9) (by omega))) (fun c2 => ?_)
      refine lv_iload hx hb (fh_d d_Gr_topOf 7 rfl) (lv_at hl 0 rfl) ?_
      refine lv_bipush (v := 8) hx hb (fh_d d_Gr_topOf 8 rfl) (by decide) ?_
      refine lv_icmp_ge (tgt := 44) hx hb (fh_d d_Gr_topOf 9 rfl) rfl (fun c3 => absurd c3 (fun c9 => absurd ((nI_leI (a := 8) (b := k) (by decide) (by omega)).mp c9) (by omega))) (fun c3 => ?_)
      refine lv_iload_n hx hb (fh_d d_Gr_topOf 10 rfl) rfl (lv_at hl 1 rfl) ?_
      refine lv_aload_n hx hb (fh_d d_Gr_topOf 11 rfl) rfl (lv_at hl 2 rfl) ?_
      refine fh_get (own := "FormulaSetter$Grid") (ref := "FormulaSetter$Grid") (C := "FormulaSetter$Grid") (T := T_Gr) (N := 5) (v := .ref (x + 231)) hx hb hT i_Gr hown hK hP ((mkR_g (by omega) (by omega) (by omega)).trans mkG_gr) rfl 1 (by decide) (hT _ w232) (fun _ h9 => h9) rfl (fh_d d_Gr_topOf 12 rfl) ?_
      refine lv_iload hx hb (fh_d d_Gr_topOf 13 rfl) (lv_at hl 0 rfl) ?_
      refine fn_iald (f := H0) (k := k) hx hb hK hP 0 ((mkR_g (by omega) (by omega) (by omega)).trans mkG_gh) rfl (rfl) (by omega) (by decide) (fh_d d_Gr_topOf 14 rfl) ?_
      refine lv_aload_n hx hb (fh_d d_Gr_topOf 15 rfl) rfl (lv_at hl 2 rfl) ?_
      refine fh_get (own := "FormulaSetter$Grid") (ref := "FormulaSetter$Grid") (C := "FormulaSetter$Grid") (T := T_Gr) (N := 5) (v := .ref (x + 232)) hx hb hT i_Gr hown hK hP ((mkR_g (by omega) (by omega) (by omega)).trans mkG_gr) rfl 2 (by decide) (hT _ w233) (fun _ h9 => h9) rfl (fh_d d_Gr_topOf 16 rfl) ?_
      refine lv_iload hx hb (fh_d d_Gr_topOf 17 rfl) (lv_at hl 0 rfl) ?_
      refine fn_iald (f := D0) (k := k) hx hb hK hP 0 ((mkR_g (by omega) (by omega) (by omega)).trans mkG_gd) rfl (rfl) (by omega) (by decide) (fh_d d_Gr_topOf 18 rfl) ?_
      refine lv_iadd hx hb (fh_d d_Gr_topOf 19 rfl) ?_
      refine lv_iload_n hx hb (fh_d d_Gr_topOf 20 rfl) rfl (lv_at hl 4 rfl) ?_
      refine lv_iadd hx hb (fh_d d_Gr_topOf 21 rfl) ?_
      refine lv_iadd hx hb (fh_d d_Gr_topOf 22 rfl) ?_
      refine lv_istore_n (lv' := [(3, .int ((tpO H0 D0 sz k) + (((H0 k) + (D0 k)) + sz))), (4, .int (nI k)), (0, .ref (x + 229)), (1, .int (nI c0)), (2, .int sz)]) hx hb (fh_d d_Gr_topOf 23 rfl) rfl hl (by decide) rfl (fun ls hl => ?_)
      refine lv_iinc (k := 1) (v := (nI k) + 1) (lv' := [(4, .int ((nI k) + 1)), (3, .int ((tpO H0 D0 sz k) + (((H0 k) + (D0 k)) + sz))), (0, .ref (x + 229)), (1, .int (nI c0)), (2, .int sz)]) hx hb (fh_d d_Gr_topOf 24 rfl) hl rfl (by rfl) (by decide) rfl (fun ls hl => ?_)
      refine lv_goto (tgt := 5) hx hb (fh_d d_Gr_topOf 25 rfl) rfl ?_
      rw [nI_1] at hl
      exact ih (k + 1) (by omega) (by omega) H _ _ hP hS hl
  refine lv_iconst (v := 0) hx hb (fh_d d_Gr_topOf 0 rfl) (by decide) ?_
  refine lv_istore_n (lv' := [(3, .int 0), (0, .ref (x + 229)), (1, .int (nI c0)), (2, .int sz)]) hx hb (fh_d d_Gr_topOf 1 rfl) rfl hl (by decide) rfl (fun ls hl => ?_)
  refine lv_iconst (v := 0) hx hb (fh_d d_Gr_topOf 2 rfl) (by decide) ?_
  refine lv_istore (lv' := [(4, .int 0), (3, .int 0), (0, .ref (x + 229)), (1, .int (nI c0)), (2, .int sz)]) hx hb (fh_d d_Gr_topOf 3 rfl) hl (by decide) rfl (fun ls hl => ?_)
  exact loop _ 0 rfl (Nat.zero_le _) H _ _ hP hS hl
