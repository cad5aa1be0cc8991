/-! The simple methods of both sides. Printed by wip/whole/gen/p15.py -/
theorem fh_up_up {h : fh_H} {a : Nat} {e e' : va_E} : fh_up (fh_up h a e) a e' = fh_up h a e' := by
  funext q
  by_cases h1 : q = a
  · subst h1; rw [fh_up_same, fh_up_same]
  · rw [fh_up_ne h1, fh_up_ne h1, fh_up_ne h1]
theorem fh_up_id {h : fh_H} {a : Nat} {e : va_E} (ha : h a = some e) : fh_up h a e = h := by
  funext q
  by_cases h1 : q = a
  · subst h1; rw [fh_up_same, ha]
  · rw [fh_up_ne h1]
/-- the reference's object at x -/
abbrev mo_s (x : Nat) (th co at_ wr no nu op pi wi he de : Int32) : va_E := .inr (7, (.int th :: .int co :: .ref (x + 1) :: .int at_ :: .int wr :: .int no :: .int nu :: .ref (x + 2) :: .ref (x + 3) :: .ref (x + 4) :: .ref (x + 5) :: .ref (x + 6) :: .ref (x + 7) :: .ref (x + 8) :: .ref (x + 9) :: .ref (x + 10) :: .ref (x + 11) :: .ref (x + 12) :: .ref (x + 13) :: .ref (x + 14) :: .ref (x + 15) :: .ref (x + 16) :: .int op :: .ref (x + 17) :: .ref (x + 18) :: .ref (x + 19) :: .ref (x + 20) :: .ref (x + 21) :: .ref (x + 22) :: .ref (x + 23) :: .ref (x + 24) :: .ref (x + 25) :: .ref (x + 26) :: .ref (x + 27) :: .ref (x + 28) :: .ref (x + 29) :: .ref (x + 30) :: .ref (x + 31) :: .ref (x + 32) :: .ref (x + 33) :: .ref (x + 34) :: .ref (x + 35) :: .ref (x + 36) :: .ref (x + 37) :: .ref (x + 38) :: .ref (x + 39) :: .ref (x + 40) :: .ref (x + 41) :: .int pi :: .ref (x + 42) :: .int wi :: .int he :: .int de :: []))
theorem mo_o_s (x : Nat) : mo_o x = mo_s x 0 0 0 0 0 0 0 0 0 0 0 := rfl
set_option maxHeartbeats 4000000 in
set_option maxRecDepth 100000 in
theorem m_FS_width (l : Launch) (D : va_G) (ct : Nat → ClassId) (b : Nat) (RO : State → Prop) (r n x : Nat) (len w hh d : Int32) (h : fh_H) (ho : h x = some (fs_o x len w hh d)) : fh_C l D fh_cl (fh_tys ct) b RO y_FS_width (Cond.code y_FS_width c_FS_width 1 (Option.some FieldType.int) :: fh_T) (fh_rm r 0 0) [.ref x] h n (fun v h' n' => v = some (.int w) ∧ h' = h ∧ n' = n) 0 0 := by
  refine fh_enter (by decide) (Nat.le_of_ble_eq_true rfl) [(0, .ref x)] rfl ?_
  intro p e s m args below meth c H ls X hP hS hl
  have hx := X.1
  have hb := X.2.1
  have hml := X.2.2.1
  have hown : s.vm.findClass "FormulaSetter" = some m.cls := X.2.2.2.1
  have hT := X.2.2.2.2.1
  have hK := X.2.2.2.2.2.1
  have hRO := X.2.2.2.2.2.2.1
  have hnm : meth.name = "width" := X.2.2.2.2.2.2.2.2.2.2
  refine lv_aload_n hx hb (fh_d d_FS_width 0 rfl) rfl (lv_at hl 0 rfl) ?_
  refine fh_get (own := "FormulaSetter") (ref := "FormulaSetter") (C := "FormulaSetter") (T := T_FS) (N := 7) (v := .int w) hx hb hT i_FS hown hK hP ho rfl 4 (by decide) (hT _ w259) (fun _ h9 => h9) rfl (fh_d d_FS_width 1 rfl) ?_
  exact fh_iret X hP hS (fh_d d_FS_width 2 rfl) ⟨rfl, rfl, rfl⟩

set_option maxHeartbeats 4000000 in
set_option maxRecDepth 100000 in
theorem m_FS_height (l : Launch) (D : va_G) (ct : Nat → ClassId) (b : Nat) (RO : State → Prop) (r n x : Nat) (len w hh d : Int32) (h : fh_H) (ho : h x = some (fs_o x len w hh d)) : fh_C l D fh_cl (fh_tys ct) b RO y_FS_height (Cond.code y_FS_height c_FS_height 1 (Option.some FieldType.int) :: fh_T) (fh_rm r 0 0) [.ref x] h n (fun v h' n' => v = some (.int hh) ∧ h' = h ∧ n' = n) 0 0 := by
  refine fh_enter (by decide) (Nat.le_of_ble_eq_true rfl) [(0, .ref x)] rfl ?_
  intro p e s m args below meth c H ls X hP hS hl
  have hx := X.1
  have hb := X.2.1
  have hml := X.2.2.1
  have hown : s.vm.findClass "FormulaSetter" = some m.cls := X.2.2.2.1
  have hT := X.2.2.2.2.1
  have hK := X.2.2.2.2.2.1
  have hRO := X.2.2.2.2.2.2.1
  have hnm : meth.name = "height" := X.2.2.2.2.2.2.2.2.2.2
  refine lv_aload_n hx hb (fh_d d_FS_height 0 rfl) rfl (lv_at hl 0 rfl) ?_
  refine fh_get (own := "FormulaSetter") (ref := "FormulaSetter") (C := "FormulaSetter") (T := T_FS) (N := 7) (v := .int hh) hx hb hT i_FS hown hK hP ho rfl 5 (by decide) (hT _ w260) (fun _ h9 => h9) rfl (fh_d d_FS_height 1 rfl) ?_
  exact fh_iret X hP hS (fh_d d_FS_height 2 rfl) ⟨rfl, rfl, rfl⟩

set_option maxHeartbeats 4000000 in
set_option maxRecDepth 100000 in
theorem m_FS_depth (l : Launch) (D : va_G) (ct : Nat → ClassId) (b : Nat) (RO : State → Prop) (r n x : Nat) (len w hh d : Int32) (h : fh_H) (ho : h x = some (fs_o x len w hh d)) : fh_C l D fh_cl (fh_tys ct) b RO y_FS_depth (Cond.code y_FS_depth c_FS_depth 1 (Option.some FieldType.int) :: fh_T) (fh_rm r 0 0) [.ref x] h n (fun v h' n' => v = some (.int d) ∧ h' = h ∧ n' = n) 0 0 := by
  refine fh_enter (by decide) (Nat.le_of_ble_eq_true rfl) [(0, .ref x)] rfl ?_
  intro p e s m args below meth c H ls X hP hS hl
  have hx := X.1
  have hb := X.2.1
  have hml := X.2.2.1
  have hown : s.vm.findClass "FormulaSetter" = some m.cls := X.2.2.2.1
  have hT := X.2.2.2.2.1
  have hK := X.2.2.2.2.2.1
  have hRO := X.2.2.2.2.2.2.1
  have hnm : meth.name = "depth" := X.2.2.2.2.2.2.2.2.2.2
  refine lv_aload_n hx hb (fh_d d_FS_depth 0 rfl) rfl (lv_at hl 0 rfl) ?_
  refine fh_get (own := "FormulaSetter") (ref := "FormulaSetter") (C := "FormulaSetter") (T := T_FS) (N := 7) (v := .int d) hx hb hT i_FS hown hK hP ho rfl 6 (by decide) (hT _ w261) (fun _ h9 => h9) rfl (fh_d d_FS_depth 1 rfl) ?_
  exact fh_iret X hP hS (fh_d d_FS_depth 2 rfl) ⟨rfl, rfl, rfl⟩

set_option maxHeartbeats 4000000 in
set_option maxRecDepth 100000 in
theorem m_FS_wipe (l : Launch) (D : va_G) (ct : Nat → ClassId) (b : Nat) (RO : State → Prop) (r n x : Nat) (len w hh d : Int32) (h : fh_H) (ho : h x = some (fs_o x len w hh d)) : fh_C l D fh_cl (fh_tys ct) b RO y_FS_wipe (Cond.code y_FS_wipe c_FS_wipe 2 (Option.some FieldType.int) :: fh_T) (fh_rm r 0 0) [.ref x] h n (fun v h' n' => v = some (.int len) ∧ h' = fh_up h x (fs_o x 0 w hh d) ∧ n' = n) 0 0 := by
  refine fh_enter (by decide) (Nat.le_of_ble_eq_true rfl) [(0, .ref x)] rfl ?_
  intro p e s m args below meth c H ls X hP hS hl
  have hx := X.1
  have hb := X.2.1
  have hml := X.2.2.1
  have hown : s.vm.findClass "FormulaSetter" = some m.cls := X.2.2.2.1
  have hT := X.2.2.2.2.1
  have hK := X.2.2.2.2.2.1
  have hRO := X.2.2.2.2.2.2.1
  have hnm : meth.name = "wipe" := X.2.2.2.2.2.2.2.2.2.2
  refine lv_aload_n hx hb (fh_d d_FS_wipe 0 rfl) rfl (lv_at hl 0 rfl) ?_
  refine fh_get (own := "FormulaSetter") (ref := "FormulaSetter") (C := "FormulaSetter") (T := T_FS) (N := 7) (v := .int len) hx hb hT i_FS hown hK hP ho rfl 3 (by decide) (hT _ w258) (fun _ h9 => h9) rfl (fh_d d_FS_wipe 1 rfl) ?_
  refine lv_istore_n (lv' := [(1, .int len), (0, .ref x)]) hx hb (fh_d d_FS_wipe 2 rfl) rfl hl (by decide) rfl (fun ls hl => ?_)
  refine lv_aload_n hx hb (fh_d d_FS_wipe 3 rfl) rfl (lv_at hl 1 rfl) ?_
  refine lv_iconst (v := 0) hx hb (fh_d d_FS_wipe 4 rfl) (by decide) ?_
  refine fh_put (own := "FormulaSetter") (ref := "FormulaSetter") (C := "FormulaSetter") (T := T_FS) (N := 7) (v := .int 0) (ty := .int) hx hb hT i_FS t_FS k_FS n_FS hown hK hP hS ho rfl 3 (by decide) (hT _ w258) (fun _ h9 => h9) rfl (by decide +kernel) rfl rfl (by simp) (fh_d d_FS_wipe 5 rfl) (fun H locs hP hS => ?_)
  obtain ⟨h1, eh1⟩ : ∃ z : fh_H, z = fh_up h x (fs_o x 0 w hh d) := ⟨_, rfl⟩
  replace hP : fh_P D fh_cl b h1 n H := by rw [eh1]; exact hP
  have k2 : h1 x = some (fs_o x 0 w hh d) := by rw [eh1]; exact fh_up_same
  refine lv_iload_n hx hb (fh_d d_FS_wipe 6 rfl) rfl (lv_at hl 0 rfl) ?_
  exact fh_iret X hP hS (fh_d d_FS_wipe 7 rfl) ⟨rfl, by rw [eh1], rfl⟩

set_option maxHeartbeats 4000000 in
set_option maxRecDepth 100000 in
theorem m_FS_pieces (l : Launch) (D : va_G) (ct : Nat → ClassId) (b : Nat) (RO : State → Prop) (r n x : Nat) (len w hh d cnt : Int32) (h : fh_H) (ho : h x = some (fs_o x len w hh d)) (ht : h (x + 226) = some (.inr (4, [.ref (x + 227), .ref (x + 229)]))) (hs : h (x + 227) = some (.inr (5, [.ref (x + 228), .int cnt]))) : fh_C l D fh_cl (fh_tys ct) b RO y_FS_pieces (Cond.code y_FS_pieces c_FS_pieces 1 (Option.some FieldType.int) :: fh_T) (fh_rm r 0 0) [.ref x] h n (fun v h' n' => v = some (.int cnt) ∧ h' = h ∧ n' = n) 0 0 := by
  refine fh_enter (by decide) (Nat.le_of_ble_eq_true rfl) [(0, .ref x)] rfl ?_
  intro p e s m args below meth c H ls X hP hS hl
  have hx := X.1
  have hb := X.2.1
  have hml := X.2.2.1
  have hown : s.vm.findClass "FormulaSetter" = some m.cls := X.2.2.2.1
  have hT := X.2.2.2.2.1
  have hK := X.2.2.2.2.2.1
  have hRO := X.2.2.2.2.2.2.1
  have hnm : meth.name = "pieces" := X.2.2.2.2.2.2.2.2.2.2
  refine lv_aload_n hx hb (fh_d d_FS_pieces 0 rfl) rfl (lv_at hl 0 rfl) ?_
  refine fh_get (own := "FormulaSetter") (ref := "FormulaSetter") (C := "FormulaSetter") (T := T_FS) (N := 7) (v := .ref (x + 226)) hx hb hT i_FS hown hK hP ho rfl 2 (by decide) (hT _ w257) (fun _ h9 => h9) rfl (fh_d d_FS_pieces 1 rfl) ?_
  refine fh_get (own := "FormulaSetter") (ref := "FormulaSetter$Typesetter") (C := "FormulaSetter$Typesetter") (T := T_Ty) (N := 2) (v := .ref (x + 227)) hx hb hT i_Ty hown hK hP ht rfl 0 (by decide) (hT _ w248) (fun _ h9 => h9) rfl (fh_d d_FS_pieces 2 rfl) ?_
  refine fh_get (own := "FormulaSetter") (ref := "FormulaSetter$Sheet") (C := "FormulaSetter$Sheet") (T := T_Sh) (N := 2) (v := .int cnt) hx hb hT i_Sh hown hK hP hs rfl 1 (by decide) (hT _ w218) (fun _ h9 => h9) rfl (fh_d d_FS_pieces 3 rfl) ?_
  exact fh_iret X hP hS (fh_d d_FS_pieces 4 rfl) ⟨rfl, rfl, rfl⟩

set_option maxHeartbeats 4000000 in
set_option maxRecDepth 100000 in
theorem m_Mo_thrown (l : Launch) (D : va_G) (ct : Nat → ClassId) (b : Nat) (RO : State → Prop) (r n x : Nat) (th co at_ wr no nu op pi wi he de : Int32) (h : fh_H) (hm : h x = some (mo_s x th co at_ wr no nu op pi wi he de)) : fh_C l D fh_cl (fh_tys ct) b RO y_Mo_thrown (Cond.code y_Mo_thrown c_Mo_thrown 1 (Option.some FieldType.int) :: fh_T) (fh_rm r 0 0) [.ref x] h n (fun v h' n' => v = some (.int th) ∧ h' = h ∧ n' = n) 0 0 := by
  refine fh_enter (by decide) (Nat.le_of_ble_eq_true rfl) [(0, .ref x)] rfl ?_
  intro p e s m args below meth c H ls X hP hS hl
  have hx := X.1
  have hb := X.2.1
  have hml := X.2.2.1
  have hown : s.vm.findClass "FormulaSetterModel" = some m.cls := X.2.2.2.1
  have hT := X.2.2.2.2.1
  have hK := X.2.2.2.2.2.1
  have hRO := X.2.2.2.2.2.2.1
  have hnm : meth.name = "thrown" := X.2.2.2.2.2.2.2.2.2.2
  refine lv_aload_n hx hb (fh_d d_Mo_thrown 0 rfl) rfl (lv_at hl 0 rfl) ?_
  refine fh_get (own := "FormulaSetterModel") (ref := "FormulaSetterModel") (C := "FormulaSetterModel") (T := T_Mo) (N := 53) (v := .int th) hx hb hT i_Mo hown hK hP hm rfl 0 (by decide) (hT _ w860) (fun _ h9 => h9) rfl (fh_d d_Mo_thrown 1 rfl) ?_
  exact fh_iret X hP hS (fh_d d_Mo_thrown 2 rfl) ⟨rfl, rfl, rfl⟩

set_option maxHeartbeats 4000000 in
set_option maxRecDepth 100000 in
theorem m_Mo_width (l : Launch) (D : va_G) (ct : Nat → ClassId) (b : Nat) (RO : State → Prop) (r n x : Nat) (th co at_ wr no nu op pi wi he de : Int32) (h : fh_H) (hm : h x = some (mo_s x th co at_ wr no nu op pi wi he de)) : fh_C l D fh_cl (fh_tys ct) b RO y_Mo_width (Cond.code y_Mo_width c_Mo_width 1 (Option.some FieldType.int) :: fh_T) (fh_rm r 0 0) [.ref x] h n (fun v h' n' => v = some (.int wi) ∧ h' = fh_up h x (mo_s x 0 co at_ wr no nu op pi wi he de) ∧ n' = n) 0 0 := by
  refine fh_enter (by decide) (Nat.le_of_ble_eq_true rfl) [(0, .ref x)] rfl ?_
  intro p e s m args below meth c H ls X hP hS hl
  have hx := X.1
  have hb := X.2.1
  have hml := X.2.2.1
  have hown : s.vm.findClass "FormulaSetterModel" = some m.cls := X.2.2.2.1
  have hT := X.2.2.2.2.1
  have hK := X.2.2.2.2.2.1
  have hRO := X.2.2.2.2.2.2.1
  have hnm : meth.name = "width" := X.2.2.2.2.2.2.2.2.2.2
  refine lv_aload_n hx hb (fh_d d_Mo_width 0 rfl) rfl (lv_at hl 0 rfl) ?_
  refine lv_iconst (v := 0) hx hb (fh_d d_Mo_width 1 rfl) (by decide) ?_
  refine fh_put (own := "FormulaSetterModel") (ref := "FormulaSetterModel") (C := "FormulaSetterModel") (T := T_Mo) (N := 53) (v := .int 0) (ty := .int) hx hb hT i_Mo t_Mo k_Mo n_Mo hown hK hP hS hm rfl 0 (by decide) (hT _ w860) (fun _ h9 => h9) rfl (by decide +kernel) rfl rfl (by simp) (fh_d d_Mo_width 2 rfl) (fun H locs hP hS => ?_)
  obtain ⟨h1, eh1⟩ : ∃ z : fh_H, z = fh_up h x (mo_s x 0 co at_ wr no nu op pi wi he de) := ⟨_, rfl⟩
  replace hP : fh_P D fh_cl b h1 n H := by rw [eh1]; exact hP
  have k2 : h1 x = some (mo_s x 0 co at_ wr no nu op pi wi he de) := by rw [eh1]; exact fh_up_same
  refine lv_aload_n hx hb (fh_d d_Mo_width 3 rfl) rfl (lv_at hl 0 rfl) ?_
  refine fh_get (own := "FormulaSetterModel") (ref := "FormulaSetterModel") (C := "FormulaSetterModel") (T := T_Mo) (N := 53) (v := .int wi) hx hb hT i_Mo hown hK hP k2 rfl 50 (by decide) (hT _ w910) (fun _ h9 => h9) rfl (fh_d d_Mo_width 4 rfl) ?_
  exact fh_iret X hP hS (fh_d d_Mo_width 5 rfl) ⟨rfl, by rw [eh1], rfl⟩

set_option maxHeartbeats 4000000 in
set_option maxRecDepth 100000 in
theorem m_Mo_height (l : Launch) (D : va_G) (ct : Nat → ClassId) (b : Nat) (RO : State → Prop) (r n x : Nat) (th co at_ wr no nu op pi wi he de : Int32) (h : fh_H) (hm : h x = some (mo_s x th co at_ wr no nu op pi wi he de)) : fh_C l D fh_cl (fh_tys ct) b RO y_Mo_height (Cond.code y_Mo_height c_Mo_height 1 (Option.some FieldType.int) :: fh_T) (fh_rm r 0 0) [.ref x] h n (fun v h' n' => v = some (.int he) ∧ h' = fh_up h x (mo_s x 0 co at_ wr no nu op pi wi he de) ∧ n' = n) 0 0 := by
  refine fh_enter (by decide) (Nat.le_of_ble_eq_true rfl) [(0, .ref x)] rfl ?_
  intro p e s m args below meth c H ls X hP hS hl
  have hx := X.1
  have hb := X.2.1
  have hml := X.2.2.1
  have hown : s.vm.findClass "FormulaSetterModel" = some m.cls := X.2.2.2.1
  have hT := X.2.2.2.2.1
  have hK := X.2.2.2.2.2.1
  have hRO := X.2.2.2.2.2.2.1
  have hnm : meth.name = "height" := X.2.2.2.2.2.2.2.2.2.2
  refine lv_aload_n hx hb (fh_d d_Mo_height 0 rfl) rfl (lv_at hl 0 rfl) ?_
  refine lv_iconst (v := 0) hx hb (fh_d d_Mo_height 1 rfl) (by decide) ?_
  refine fh_put (own := "FormulaSetterModel") (ref := "FormulaSetterModel") (C := "FormulaSetterModel") (T := T_Mo) (N := 53) (v := .int 0) (ty := .int) hx hb hT i_Mo t_Mo k_Mo n_Mo hown hK hP hS hm rfl 0 (by decide) (hT _ w860) (fun _ h9 => h9) rfl (by decide +kernel) rfl rfl (by simp) (fh_d d_Mo_height 2 rfl) (fun H locs hP hS => ?_)
  obtain ⟨h1, eh1⟩ : ∃ z : fh_H, z = fh_up h x (mo_s x 0 co at_ wr no nu op pi wi he de) := ⟨_, rfl⟩
  replace hP : fh_P D fh_cl b h1 n H := by rw [eh1]; exact hP
  have k2 : h1 x = some (mo_s x 0 co at_ wr no nu op pi wi he de) := by rw [eh1]; exact fh_up_same
  refine lv_aload_n hx hb (fh_d d_Mo_height 3 rfl) rfl (lv_at hl 0 rfl) ?_
  refine fh_get (own := "FormulaSetterModel") (ref := "FormulaSetterModel") (C := "FormulaSetterModel") (T := T_Mo) (N := 53) (v := .int he) hx hb hT i_Mo hown hK hP k2 rfl 51 (by decide) (hT _ w911) (fun _ h9 => h9) rfl (fh_d d_Mo_height 4 rfl) ?_
  exact fh_iret X hP hS (fh_d d_Mo_height 5 rfl) ⟨rfl, by rw [eh1], rfl⟩

set_option maxHeartbeats 4000000 in
set_option maxRecDepth 100000 in
theorem m_Mo_depth (l : Launch) (D : va_G) (ct : Nat → ClassId) (b : Nat) (RO : State → Prop) (r n x : Nat) (th co at_ wr no nu op pi wi he de : Int32) (h : fh_H) (hm : h x = some (mo_s x th co at_ wr no nu op pi wi he de)) : fh_C l D fh_cl (fh_tys ct) b RO y_Mo_depth (Cond.code y_Mo_depth c_Mo_depth 1 (Option.some FieldType.int) :: fh_T) (fh_rm r 0 0) [.ref x] h n (fun v h' n' => v = some (.int de) ∧ h' = fh_up h x (mo_s x 0 co at_ wr no nu op pi wi he de) ∧ n' = n) 0 0 := by
  refine fh_enter (by decide) (Nat.le_of_ble_eq_true rfl) [(0, .ref x)] rfl ?_
  intro p e s m args below meth c H ls X hP hS hl
  have hx := X.1
  have hb := X.2.1
  have hml := X.2.2.1
  have hown : s.vm.findClass "FormulaSetterModel" = some m.cls := X.2.2.2.1
  have hT := X.2.2.2.2.1
  have hK := X.2.2.2.2.2.1
  have hRO := X.2.2.2.2.2.2.1
  have hnm : meth.name = "depth" := X.2.2.2.2.2.2.2.2.2.2
  refine lv_aload_n hx hb (fh_d d_Mo_depth 0 rfl) rfl (lv_at hl 0 rfl) ?_
  refine lv_iconst (v := 0) hx hb (fh_d d_Mo_depth 1 rfl) (by decide) ?_
  refine fh_put (own := "FormulaSetterModel") (ref := "FormulaSetterModel") (C := "FormulaSetterModel") (T := T_Mo) (N := 53) (v := .int 0) (ty := .int) hx hb hT i_Mo t_Mo k_Mo n_Mo hown hK hP hS hm rfl 0 (by decide) (hT _ w860) (fun _ h9 => h9) rfl (by decide +kernel) rfl rfl (by simp) (fh_d d_Mo_depth 2 rfl) (fun H locs hP hS => ?_)
  obtain ⟨h1, eh1⟩ : ∃ z : fh_H, z = fh_up h x (mo_s x 0 co at_ wr no nu op pi wi he de) := ⟨_, rfl⟩
  replace hP : fh_P D fh_cl b h1 n H := by rw [eh1]; exact hP
  have k2 : h1 x = some (mo_s x 0 co at_ wr no nu op pi wi he de) := by rw [eh1]; exact fh_up_same
  refine lv_aload_n hx hb (fh_d d_Mo_depth 3 rfl) rfl (lv_at hl 0 rfl) ?_
  refine fh_get (own := "FormulaSetterModel") (ref := "FormulaSetterModel") (C := "FormulaSetterModel") (T := T_Mo) (N := 53) (v := .int de) hx hb hT i_Mo hown hK hP k2 rfl 52 (by decide) (hT _ w912) (fun _ h9 => h9) rfl (fh_d d_Mo_depth 4 rfl) ?_
  exact fh_iret X hP hS (fh_d d_Mo_depth 5 rfl) ⟨rfl, by rw [eh1], rfl⟩

set_option maxHeartbeats 4000000 in
set_option maxRecDepth 100000 in
theorem m_Mo_pieces (l : Launch) (D : va_G) (ct : Nat → ClassId) (b : Nat) (RO : State → Prop) (r n x : Nat) (th co at_ wr no nu op pi wi he de : Int32) (h : fh_H) (hm : h x = some (mo_s x th co at_ wr no nu op pi wi he de)) : fh_C l D fh_cl (fh_tys ct) b RO y_Mo_pieces (Cond.code y_Mo_pieces c_Mo_pieces 1 (Option.some FieldType.int) :: fh_T) (fh_rm r 0 0) [.ref x] h n (fun v h' n' => v = some (.int pi) ∧ h' = fh_up h x (mo_s x 0 co at_ wr no nu op pi wi he de) ∧ n' = n) 0 0 := by
  refine fh_enter (by decide) (Nat.le_of_ble_eq_true rfl) [(0, .ref x)] rfl ?_
  intro p e s m args below meth c H ls X hP hS hl
  have hx := X.1
  have hb := X.2.1
  have hml := X.2.2.1
  have hown : s.vm.findClass "FormulaSetterModel" = some m.cls := X.2.2.2.1
  have hT := X.2.2.2.2.1
  have hK := X.2.2.2.2.2.1
  have hRO := X.2.2.2.2.2.2.1
  have hnm : meth.name = "pieces" := X.2.2.2.2.2.2.2.2.2.2
  refine lv_aload_n hx hb (fh_d d_Mo_pieces 0 rfl) rfl (lv_at hl 0 rfl) ?_
  refine lv_iconst (v := 0) hx hb (fh_d d_Mo_pieces 1 rfl) (by decide) ?_
  refine fh_put (own := "FormulaSetterModel") (ref := "FormulaSetterModel") (C := "FormulaSetterModel") (T := T_Mo) (N := 53) (v := .int 0) (ty := .int) hx hb hT i_Mo t_Mo k_Mo n_Mo hown hK hP hS hm rfl 0 (by decide) (hT _ w860) (fun _ h9 => h9) rfl (by decide +kernel) rfl rfl (by simp) (fh_d d_Mo_pieces 2 rfl) (fun H locs hP hS => ?_)
  obtain ⟨h1, eh1⟩ : ∃ z : fh_H, z = fh_up h x (mo_s x 0 co at_ wr no nu op pi wi he de) := ⟨_, rfl⟩
  replace hP : fh_P D fh_cl b h1 n H := by rw [eh1]; exact hP
  have k2 : h1 x = some (mo_s x 0 co at_ wr no nu op pi wi he de) := by rw [eh1]; exact fh_up_same
  refine lv_aload_n hx hb (fh_d d_Mo_pieces 3 rfl) rfl (lv_at hl 0 rfl) ?_
  refine fh_get (own := "FormulaSetterModel") (ref := "FormulaSetterModel") (C := "FormulaSetterModel") (T := T_Mo) (N := 53) (v := .int pi) hx hb hT i_Mo hown hK hP k2 rfl 48 (by decide) (hT _ w908) (fun _ h9 => h9) rfl (fh_d d_Mo_pieces 4 rfl) ?_
  exact fh_iret X hP hS (fh_d d_Mo_pieces 5 rfl) ⟨rfl, by rw [eh1], rfl⟩

set_option maxHeartbeats 4000000 in
set_option maxRecDepth 100000 in
theorem m_Mo_wipe (l : Launch) (D : va_G) (ct : Nat → ClassId) (b : Nat) (RO : State → Prop) (r n x : Nat) (th co at_ wr no nu op pi wi he de : Int32) (h : fh_H) (hm : h x = some (mo_s x th co at_ wr no nu op pi wi he de)) : fh_C l D fh_cl (fh_tys ct) b RO y_Mo_wipe (Cond.code y_Mo_wipe c_Mo_wipe 2 (Option.some FieldType.int) :: fh_T) (fh_rm r 0 0) [.ref x] h n (fun v h' n' => v = some (.int co) ∧ h' = fh_up h x (mo_s x 0 0 at_ wr no nu op pi wi he de) ∧ n' = n) 0 0 := by
  refine fh_enter (by decide) (Nat.le_of_ble_eq_true rfl) [(0, .ref x)] rfl ?_
  intro p e s m args below meth c H ls X hP hS hl
  have hx := X.1
  have hb := X.2.1
  have hml := X.2.2.1
  have hown : s.vm.findClass "FormulaSetterModel" = some m.cls := X.2.2.2.1
  have hT := X.2.2.2.2.1
  have hK := X.2.2.2.2.2.1
  have hRO := X.2.2.2.2.2.2.1
  have hnm : meth.name = "wipe" := X.2.2.2.2.2.2.2.2.2.2
  refine lv_aload_n hx hb (fh_d d_Mo_wipe 0 rfl) rfl (lv_at hl 0 rfl) ?_
  refine lv_iconst (v := 0) hx hb (fh_d d_Mo_wipe 1 rfl) (by decide) ?_
  refine fh_put (own := "FormulaSetterModel") (ref := "FormulaSetterModel") (C := "FormulaSetterModel") (T := T_Mo) (N := 53) (v := .int 0) (ty := .int) hx hb hT i_Mo t_Mo k_Mo n_Mo hown hK hP hS hm rfl 0 (by decide) (hT _ w860) (fun _ h9 => h9) rfl (by decide +kernel) rfl rfl (by simp) (fh_d d_Mo_wipe 2 rfl) (fun H locs hP hS => ?_)
  obtain ⟨h1, eh1⟩ : ∃ z : fh_H, z = fh_up h x (mo_s x 0 co at_ wr no nu op pi wi he de) := ⟨_, rfl⟩
  replace hP : fh_P D fh_cl b h1 n H := by rw [eh1]; exact hP
  have k2 : h1 x = some (mo_s x 0 co at_ wr no nu op pi wi he de) := by rw [eh1]; exact fh_up_same
  refine lv_aload_n hx hb (fh_d d_Mo_wipe 3 rfl) rfl (lv_at hl 0 rfl) ?_
  refine fh_get (own := "FormulaSetterModel") (ref := "FormulaSetterModel") (C := "FormulaSetterModel") (T := T_Mo) (N := 53) (v := .int co) hx hb hT i_Mo hown hK hP k2 rfl 1 (by decide) (hT _ w861) (fun _ h9 => h9) rfl (fh_d d_Mo_wipe 4 rfl) ?_
  refine lv_istore_n (lv' := [(1, .int co), (0, .ref x)]) hx hb (fh_d d_Mo_wipe 5 rfl) rfl hl (by decide) rfl (fun ls hl => ?_)
  refine lv_aload_n hx hb (fh_d d_Mo_wipe 6 rfl) rfl (lv_at hl 1 rfl) ?_
  refine lv_iconst (v := 0) hx hb (fh_d d_Mo_wipe 7 rfl) (by decide) ?_
  refine fh_put (own := "FormulaSetterModel") (ref := "FormulaSetterModel") (C := "FormulaSetterModel") (T := T_Mo) (N := 53) (v := .int 0) (ty := .int) hx hb hT i_Mo t_Mo k_Mo n_Mo hown hK hP hS k2 rfl 1 (by decide) (hT _ w861) (fun _ h9 => h9) rfl (by decide +kernel) rfl rfl (by simp) (fh_d d_Mo_wipe 8 rfl) (fun H locs hP hS => ?_)
  obtain ⟨h3, eh3⟩ : ∃ z : fh_H, z = fh_up h1 x (mo_s x 0 0 at_ wr no nu op pi wi he de) := ⟨_, rfl⟩
  replace hP : fh_P D fh_cl b h3 n H := by rw [eh3]; exact hP
  have k4 : h3 x = some (mo_s x 0 0 at_ wr no nu op pi wi he de) := by rw [eh3]; exact fh_up_same
  refine lv_iload_n hx hb (fh_d d_Mo_wipe 9 rfl) rfl (lv_at hl 0 rfl) ?_
  exact fh_iret X hP hS (fh_d d_Mo_wipe 10 rfl) ⟨rfl, by rw [eh3, eh1]; exact fh_up_up, rfl⟩
