/-! The two methods of the law that catch. Printed by wip/whole/gen/p74.py -/
set_option maxHeartbeats 4000000 in
set_option maxRecDepth 100000 in
theorem m_La_setOk (l : Launch) (D : va_G) (ct : Nat → ClassId) (b : Nat) (RO : State → Prop) (hR : fh_R b RO) (r n x o : Nat) (hr : 1 ≤ r) (p1 : Int32) (len w hh d : Int32) (h : fh_H) (ho : h x = some (fs_o x len w hh d)) (v0 : Int32) (Qp : fh_H → Nat → Prop) (fo : fh_H → Nat → Int64) (hQ : ∀ h' n', Qp h' n' → h' o = some (.inl (ct 2, 1, .inr (.inl (fo h'))))) (hC : fh_C l D fh_cl (fh_tys ct) b RO y_FS_set (Cond.code y_FS_set c_FS_set 3 (Option.some FieldType.int) :: fh_T) (fh_rm (r - 1) 0 0) [.ref x, .int p1] h n (fun v h' n' => v = some (.int v0) ∧ Qp h' n') 0 0) : fh_C l D fh_cl (fh_tys ct) b RO y_La_set (Cond.codeWith y_La_set c_La_set 4 (Option.some FieldType.int) [(0, 9, 12, 13)] :: fh_T) (fh_rm r 0 0) [.ref x, .int p1, .ref o] h n (fun v h' n' => v = some (.int 0) ∧ ∃ h1, Qp h1 n' ∧ h' = fh_up h1 o (.inl (ct 2, 1, .inr (.inl (vp_updL (fo h1) 0 v0.toInt64))))) 0 0 := by
  refine fh_enterW (by decide) (Nat.le_of_ble_eq_true rfl) [(0, .ref x), (1, .int p1), (2, .ref o)] rfl ?_
  intro p e s m args below meth c H ls htab X hP hS hl
  have hx := X.1
  have hb := X.2.1
  have hml := X.2.2.1
  have hown : s.vm.findClass "FormulaSetterLaw" = some m.cls := X.2.2.2.1
  have hT := X.2.2.2.2.1
  have hK := X.2.2.2.2.2.1
  have hRO := X.2.2.2.2.2.2.1
  have hnm : meth.name = "set" := X.2.2.2.2.2.2.2.2.2.2
  refine lv_aload_n hx hb (fh_d d_La_set 0 rfl) rfl (lv_at hl 2 rfl) ?_
  refine lv_iconst (v := 0) hx hb (fh_d d_La_set 1 rfl) (by decide) ?_
  refine lv_aload_n hx hb (fh_d d_La_set 2 rfl) rfl (lv_at hl 0 rfl) ?_
  refine lv_iload_n hx hb (fh_d d_La_set 3 rfl) rfl (lv_at hl 1 rfl) ?_
  refine fh_callV (cc' := c_FS_set) (nL' := 3) (rest := [.int 0, .ref o]) (a := x) (As := [.int p1]) X hR (hC) w568 w565 w566 w567 w1 ⟨by decide, by decide, by show _ = some 1; decide +kernel⟩ (by omega) (by decide) (fh_recv hK hP ho rfl) hP hS hl.1 rfl (by exact Nat.le_of_ble_eq_true rfl) (fh_d d_La_set 4 rfl) ⟨Nat.le_refl _, Nat.le_refl _⟩ (fun v9 h9 n9 H locs hq hP hS => ?_)
  obtain ⟨rfl, hq⟩ := hq
  have ko := hQ _ _ hq
  refine W.eq (g2 := F0 m 7 ls [.int v0, .int 0, .ref o]) rfl ?_
  refine lv_i2l hx hb (fh_d d_La_set 5 rfl) rfl ?_
  refine fh_last hx hb hK hP hS 2 ko rfl (show ¬ ((0 : Int32) < 0 ∨ 1 ≤ Int32.toNatClampNeg 0) by decide) (fh_d d_La_set 6 rfl) (fun H locs hP hS => ?_)
  obtain ⟨h1, eh1⟩ : ∃ z : fh_H, z = fh_up h9 o (.inl (ct 2, 1, .inr (.inl (vp_updL (fo h9) 0 v0.toInt64)))) := ⟨_, rfl⟩
  replace hP : fh_P D fh_cl b h1 n9 H := by rw [eh1]; exact hP
  have k2 : h1 o = some (.inl (ct 2, 1, .inr (.inl (vp_updL (fo h9) 0 v0.toInt64)))) := by rw [eh1]; exact fh_up_same
  refine lv_goto (tgt := 15) hx hb (fh_d d_La_set 7 rfl) rfl ?_
  refine lv_iconst (v := 0) hx hb (fh_d d_La_set 11 rfl) (by decide) ?_
  exact fh_iret X hP hS (fh_d d_La_set 12 rfl) ⟨rfl, h9, hq, by rw [eh1]⟩

set_option maxHeartbeats 4000000 in
set_option maxRecDepth 100000 in
theorem m_La_setT (l : Launch) (D : va_G) (ct : Nat → ClassId) (b : Nat) (RO : State → Prop) (hR : fh_R b RO) (r n x o : Nat) (hr : 1 ≤ r) (p1 : Int32) (len w hh d : Int32) (h : fh_H) (ho : h x = some (fs_o x len w hh d)) (hRX : ∀ U, RO U → ro_X b U) (Qp : fh_H → Nat → Prop) (hC : fh_CT l D fh_cl (fh_tys ct) b RO y_FS_set (Cond.code y_FS_set c_FS_set 3 (Option.some FieldType.int) :: fh_T) (fh_rm (r - 1) 1 6) [.ref x, .int p1] h n xI Qp 1 6) : fh_C l D fh_cl (fh_tys ct) b RO y_La_set (Cond.codeWith y_La_set c_La_set 4 (Option.some FieldType.int) [(0, 9, 12, 13)] :: fh_T) (fh_rm r 1 6) [.ref x, .int p1, .ref o] h n (fun v h' n' => v = some (.int 1) ∧ Qp h' n') 1 6 := by
  refine fh_enterW (by decide) (Nat.le_of_ble_eq_true rfl) [(0, .ref x), (1, .int p1), (2, .ref o)] rfl ?_
  intro p e s m args below meth c H ls htab X hP hS hl
  have hx := X.1
  have hb := X.2.1
  have hml := X.2.2.1
  have hown : s.vm.findClass "FormulaSetterLaw" = some m.cls := X.2.2.2.1
  have hT := X.2.2.2.2.1
  have hK := X.2.2.2.2.2.1
  have hRO := X.2.2.2.2.2.2.1
  have hnm : meth.name = "set" := X.2.2.2.2.2.2.2.2.2.2
  refine lv_aload_n hx hb (fh_d d_La_set 0 rfl) rfl (lv_at hl 2 rfl) ?_
  refine lv_iconst (v := 0) hx hb (fh_d d_La_set 1 rfl) (by decide) ?_
  refine lv_aload_n hx hb (fh_d d_La_set 2 rfl) rfl (lv_at hl 0 rfl) ?_
  refine lv_iload_n hx hb (fh_d d_La_set 3 rfl) rfl (lv_at hl 1 rfl) ?_
  refine fh_callVT (cc' := c_FS_set) (nL' := 3) (rest := [.int 0, .ref o]) (a := x) (As := [.int p1]) (x := ⟨0, 9, 12, 13⟩) (ik := 636) X hR hRX hC w568 w565 w566 w567 w1 ⟨by decide, by decide, by show _ = some 1; decide +kernel⟩ (by omega) (by decide) (fh_recv hK hP ho rfl) hP hS hl.1 rfl (by exact Nat.le_of_ble_eq_true rfl) (fh_d d_La_set 4 rfl) ⟨Nat.le_refl _, Nat.le_refl _⟩ htab (by decide) (by decide) w564 (by decide +kernel) (fun xa h9 n9 H locs hq hP hS => ?_)
  refine W.eq (g2 := F0 m 12 ls [.ref xa]) rfl ?_
  refine lv_astore_n (lv' := [(3, .ref xa), (0, .ref x), (1, .int p1), (2, .ref o)]) hx hb (fh_d d_La_set 8 rfl) rfl hl (by decide) rfl (fun ls hl => ?_)
  refine lv_iconst (v := 1) hx hb (fh_d d_La_set 9 rfl) (by decide) ?_
  exact fh_iret X hP hS (fh_d d_La_set 10 rfl) ⟨rfl, hq⟩

set_option maxHeartbeats 4000000 in
set_option maxRecDepth 100000 in
theorem m_La_pieceOk (l : Launch) (D : va_G) (ct : Nat → ClassId) (b : Nat) (RO : State → Prop) (hR : fh_R b RO) (r n x o : Nat) (hr : 1 ≤ r) (p1 p2 : Int32) (len w hh d : Int32) (h : fh_H) (ho : h x = some (fs_o x len w hh d)) (v0 : Int32) (Qp : fh_H → Nat → Prop) (fo : fh_H → Nat → Int64) (hQ : ∀ h' n', Qp h' n' → h' o = some (.inl (ct 2, 1, .inr (.inl (fo h'))))) (hC : fh_C l D fh_cl (fh_tys ct) b RO y_FS_piece (Cond.code y_FS_piece c_FS_piece 4 (Option.some FieldType.int) :: fh_T) (fh_rm (r - 1) 0 0) [.ref x, .int p1, .int p2] h n (fun v h' n' => v = some (.int v0) ∧ Qp h' n') 0 0) : fh_C l D fh_cl (fh_tys ct) b RO y_La_piece (Cond.codeWith y_La_piece c_La_piece 5 (Option.some FieldType.int) [(0, 10, 13, 19)] :: fh_T) (fh_rm r 0 0) [.ref x, .int p1, .int p2, .ref o] h n (fun v h' n' => v = some (.int 0) ∧ ∃ h1, Qp h1 n' ∧ h' = fh_up h1 o (.inl (ct 2, 1, .inr (.inl (vp_updL (fo h1) 0 v0.toInt64))))) 0 0 := by
  refine fh_enterW (by decide) (Nat.le_of_ble_eq_true rfl) [(0, .ref x), (1, .int p1), (2, .int p2), (3, .ref o)] rfl ?_
  intro p e s m args below meth c H ls htab X hP hS hl
  have hx := X.1
  have hb := X.2.1
  have hml := X.2.2.1
  have hown : s.vm.findClass "FormulaSetterLaw" = some m.cls := X.2.2.2.1
  have hT := X.2.2.2.2.1
  have hK := X.2.2.2.2.2.1
  have hRO := X.2.2.2.2.2.2.1
  have hnm : meth.name = "piece" := X.2.2.2.2.2.2.2.2.2.2
  refine lv_aload_n hx hb (fh_d d_La_piece 0 rfl) rfl (lv_at hl 3 rfl) ?_
  refine lv_iconst (v := 0) hx hb (fh_d d_La_piece 1 rfl) (by decide) ?_
  refine lv_aload_n hx hb (fh_d d_La_piece 2 rfl) rfl (lv_at hl 0 rfl) ?_
  refine lv_iload_n hx hb (fh_d d_La_piece 3 rfl) rfl (lv_at hl 1 rfl) ?_
  refine lv_iload_n hx hb (fh_d d_La_piece 4 rfl) rfl (lv_at hl 2 rfl) ?_
  refine fh_callV (cc' := c_FS_piece) (nL' := 4) (rest := [.int 0, .ref o]) (a := x) (As := [.int p1, .int p2]) X hR (hC) w837 w834 w835 w836 w1 ⟨by decide, by decide, by show _ = some 2; decide +kernel⟩ (by omega) (by decide) (fh_recv hK hP ho rfl) hP hS hl.1 rfl (by exact Nat.le_of_ble_eq_true rfl) (fh_d d_La_piece 5 rfl) ⟨Nat.le_refl _, Nat.le_refl _⟩ (fun v9 h9 n9 H locs hq hP hS => ?_)
  obtain ⟨rfl, hq⟩ := hq
  have ko := hQ _ _ hq
  refine W.eq (g2 := F0 m 8 ls [.int v0, .int 0, .ref o]) rfl ?_
  refine lv_i2l hx hb (fh_d d_La_piece 6 rfl) rfl ?_
  refine fh_last hx hb hK hP hS 2 ko rfl (show ¬ ((0 : Int32) < 0 ∨ 1 ≤ Int32.toNatClampNeg 0) by decide) (fh_d d_La_piece 7 rfl) (fun H locs hP hS => ?_)
  obtain ⟨h1, eh1⟩ : ∃ z : fh_H, z = fh_up h9 o (.inl (ct 2, 1, .inr (.inl (vp_updL (fo h9) 0 v0.toInt64)))) := ⟨_, rfl⟩
  replace hP : fh_P D fh_cl b h1 n9 H := by rw [eh1]; exact hP
  have k2 : h1 o = some (.inl (ct 2, 1, .inr (.inl (vp_updL (fo h9) 0 v0.toInt64)))) := by rw [eh1]; exact fh_up_same
  refine lv_goto (tgt := 17) hx hb (fh_d d_La_piece 8 rfl) rfl ?_
  refine lv_iconst (v := 0) hx hb (fh_d d_La_piece 12 rfl) (by decide) ?_
  exact fh_iret X hP hS (fh_d d_La_piece 13 rfl) ⟨rfl, h9, hq, by rw [eh1]⟩

set_option maxHeartbeats 4000000 in
set_option maxRecDepth 100000 in
theorem m_La_pieceT (l : Launch) (D : va_G) (ct : Nat → ClassId) (b : Nat) (RO : State → Prop) (hR : fh_R b RO) (r n x o : Nat) (hr : 1 ≤ r) (p1 p2 : Int32) (len w hh d : Int32) (h : fh_H) (ho : h x = some (fs_o x len w hh d)) (hRX : ∀ U, RO U → ro_X b U) (Qp : fh_H → Nat → Prop) (hC : fh_CT l D fh_cl (fh_tys ct) b RO y_FS_piece (Cond.code y_FS_piece c_FS_piece 4 (Option.some FieldType.int) :: fh_T) (fh_rm (r - 1) 1 6) [.ref x, .int p1, .int p2] h n xO Qp 1 6) : fh_C l D fh_cl (fh_tys ct) b RO y_La_piece (Cond.codeWith y_La_piece c_La_piece 5 (Option.some FieldType.int) [(0, 10, 13, 19)] :: fh_T) (fh_rm r 1 6) [.ref x, .int p1, .int p2, .ref o] h n (fun v h' n' => v = some (.int 1) ∧ Qp h' n') 1 6 := by
  refine fh_enterW (by decide) (Nat.le_of_ble_eq_true rfl) [(0, .ref x), (1, .int p1), (2, .int p2), (3, .ref o)] rfl ?_
  intro p e s m args below meth c H ls htab X hP hS hl
  have hx := X.1
  have hb := X.2.1
  have hml := X.2.2.1
  have hown : s.vm.findClass "FormulaSetterLaw" = some m.cls := X.2.2.2.1
  have hT := X.2.2.2.2.1
  have hK := X.2.2.2.2.2.1
  have hRO := X.2.2.2.2.2.2.1
  have hnm : meth.name = "piece" := X.2.2.2.2.2.2.2.2.2.2
  refine lv_aload_n hx hb (fh_d d_La_piece 0 rfl) rfl (lv_at hl 3 rfl) ?_
  refine lv_iconst (v := 0) hx hb (fh_d d_La_piece 1 rfl) (by decide) ?_
  refine lv_aload_n hx hb (fh_d d_La_piece 2 rfl) rfl (lv_at hl 0 rfl) ?_
  refine lv_iload_n hx hb (fh_d d_La_piece 3 rfl) rfl (lv_at hl 1 rfl) ?_
  refine lv_iload_n hx hb (fh_d d_La_piece 4 rfl) rfl (lv_at hl 2 rfl) ?_
  refine fh_callVT (cc' := c_FS_piece) (nL' := 4) (rest := [.int 0, .ref o]) (a := x) (As := [.int p1, .int p2]) (x := ⟨0, 10, 13, 19⟩) (ik := 903) X hR hRX hC w837 w834 w835 w836 w1 ⟨by decide, by decide, by show _ = some 2; decide +kernel⟩ (by omega) (by decide) (fh_recv hK hP ho rfl) hP hS hl.1 rfl (by exact Nat.le_of_ble_eq_true rfl) (fh_d d_La_piece 5 rfl) ⟨Nat.le_refl _, Nat.le_refl _⟩ htab (by decide) (by decide) w833 (by decide +kernel) (fun xa h9 n9 H locs hq hP hS => ?_)
  refine W.eq (g2 := F0 m 13 ls [.ref xa]) rfl ?_
  refine lv_astore (lv' := [(4, .ref xa), (0, .ref x), (1, .int p1), (2, .int p2), (3, .ref o)]) hx hb (fh_d d_La_piece 9 rfl) hl (by decide) rfl (fun ls hl => ?_)
  refine lv_iconst (v := 1) hx hb (fh_d d_La_piece 10 rfl) (by decide) ?_
  exact fh_iret X hP hS (fh_d d_La_piece 11 rfl) ⟨rfl, hq⟩
