/-! The reference: set where the style is none, where the text is no formula, on the empty text. Printed by wip/whole/gen/p72.py -/
/-- the size of a style -/
def rz_z (s : Nat) : Int32 := if s < 2 then 10 else if s = 2 then 7 else 5
set_option maxHeartbeats 4000000 in
set_option maxRecDepth 100000 in
theorem m_Mo_zOf (l : Launch) (D : va_G) (ct : Nat → ClassId) (b : Nat) (RO : State → Prop) (r n s0 : Nat) (hs0 : s0 < 4) (h : fh_H) : fh_C l D fh_cl (fh_tys ct) b RO y_Mo_zOf (Cond.code y_Mo_zOf c_Mo_zOf 1 (Option.some FieldType.int) :: fh_T) (fh_rm r 0 0) [.int (nI s0)] h n (fun v h' n' => v = some (.int (rz_z s0)) ∧ h' = h ∧ n' = n) 0 0 := by
  refine fh_enter (by decide) (Nat.le_of_ble_eq_true rfl) [(0, .int (nI s0))] rfl ?_
  intro p e s m args below meth c H ls X hP hS hl
  have hx := X.1
  have hb := X.2.1
  have hml := X.2.2.1
  have hown : s.vm.findClass "FormulaSetterModel" = some m.cls := X.2.2.2.1
  have hT := X.2.2.2.2.1
  have hK := X.2.2.2.2.2.1
  have hRO := X.2.2.2.2.2.2.1
  have hnm : meth.name = "zOf" := X.2.2.2.2.2.2.2.2.2.2
  refine lv_iload_n hx hb (fh_d d_Mo_zOf 0 rfl) rfl (lv_at hl 0 rfl) ?_
  refine lv_iconst (v := 2) hx hb (fh_d d_Mo_zOf 1 rfl) (by decide) ?_
  refine lv_icmp_ge (tgt := 10) hx hb (fh_d d_Mo_zOf 2 rfl) rfl (fun c1 => ?_) (fun c1 => ?_)
  · refine lv_iload_n hx hb (fh_d d_Mo_zOf 5 rfl) rfl (lv_at hl 0 rfl) ?_
    refine lv_iconst (v := 2) hx hb (fh_d d_Mo_zOf 6 rfl) (by decide) ?_
    refine lv_icmp_ne (tgt := 20) hx hb (fh_d d_Mo_zOf 7 rfl) rfl (fun c2 => ?_) (fun c2 => ?_)
    · refine lv_iconst (v := 5) hx hb (fh_d d_Mo_zOf 10 rfl) (by decide) ?_
      refine fh_iret X hP hS (fh_d d_Mo_zOf 11 rfl) ⟨?_, rfl, rfl⟩
      have q1 : ¬ s0 < 2 := fun z => absurd ((nI_ltI (a := s0) (b := 2) (by omega) (by decide)).mpr z) (Int32.not_lt.mpr c1)
      unfold rz_z; rw [if_neg q1, if_neg (fun z => c2 (congrArg nI z))]
    · refine lv_bipush (v := 7) hx hb (fh_d d_Mo_zOf 8 rfl) (by decide) ?_
      refine lv_goto (tgt := 21) hx hb (fh_d d_Mo_zOf 9 rfl) rfl ?_
      refine fh_iret X hP hS (fh_d d_Mo_zOf 11 rfl) ⟨?_, rfl, rfl⟩
      have q1 : ¬ s0 < 2 := fun z => absurd ((nI_ltI (a := s0) (b := 2) (by omega) (by decide)).mpr z) (Int32.not_lt.mpr c1)
      unfold rz_z; rw [if_neg q1, if_pos ((nI_eq (a := s0) (b := 2) (by omega) (by decide)).mp (c2))]
  · refine lv_bipush (v := 10) hx hb (fh_d d_Mo_zOf 3 rfl) (by decide) ?_
    refine lv_goto (tgt := 21) hx hb (fh_d d_Mo_zOf 4 rfl) rfl ?_
    refine fh_iret X hP hS (fh_d d_Mo_zOf 11 rfl) ⟨?_, rfl, rfl⟩
    unfold rz_z; rw [if_pos ((nI_ltI (a := s0) (b := 2) (by omega) (by decide)).mp (Int32.not_le.mp c1))]

/-- a frame of walking -/
def rf_ent (A : Nat → Nat → Int32) (O : Nat) (nn : Int32) : Nat → Nat → Int32 := up2 (up2 (up2 A 17 (upd (A 17) O nn)) 39 (upd (A 39) O 0)) 40 (upd (A 40) O 0)
set_option maxHeartbeats 4000000 in
set_option maxRecDepth 100000 in
theorem m_Mo_enter (l : Launch) (D : va_G) (ct : Nat → ClassId) (b : Nat) (RO : State → Prop) (r : Nat) (n x : Nat) (g : fh_H) (A : Nat → Nat → Int32) (th co at_ wr no nu pi wi he de nn : Int32) (O : Nat) (hO : O < 40) : fh_C l D fh_cl (fh_tys ct) b RO y_Mo_enter (Cond.code y_Mo_enter c_Mo_enter 2 (Option.none : Option FieldType) :: fh_T) (fh_rm r 0 0) [.ref x, .int nn] (mkM ct x g A th co at_ wr no nu (nI O) pi wi he de) n (fun v h' n' => v = none ∧ h' = mkM ct x g (rf_ent A O nn) th co at_ wr no nu (nI (O + 1)) pi wi he de ∧ n' = n) 0 0 := by
  refine fh_enter (by decide) (Nat.le_of_ble_eq_true rfl) [(0, .ref x), (1, .int nn)] rfl ?_
  intro p e s m args below meth c H ls X hP hS hl
  have hx := X.1
  have hb := X.2.1
  have hml := X.2.2.1
  have hown : s.vm.findClass "FormulaSetterModel" = some m.cls := X.2.2.2.1
  have hT := X.2.2.2.2.1
  have hK := X.2.2.2.2.2.1
  have hRO := X.2.2.2.2.2.2.1
  have hnm : meth.name = "enter" := X.2.2.2.2.2.2.2.2.2.2
  refine lv_aload_n hx hb (fh_d d_Mo_enter 0 rfl) rfl (lv_at hl 0 rfl) ?_
  refine fh_get (own := "FormulaSetterModel") (ref := "FormulaSetterModel") (C := "FormulaSetterModel") (T := T_Mo) (N := 53) (v := .ref (x + 18)) hx hb hT i_Mo hown hK hP mkM_o rfl 24 (by decide) (hT _ w884) (fun _ h9 => h9) rfl (fh_d d_Mo_enter 1 rfl) ?_
  refine lv_aload_n hx hb (fh_d d_Mo_enter 2 rfl) rfl (lv_at hl 0 rfl) ?_
  refine fh_get (own := "FormulaSetterModel") (ref := "FormulaSetterModel") (C := "FormulaSetterModel") (T := T_Mo) (N := 53) (v := .int (nI O)) hx hb hT i_Mo hown hK hP mkM_o rfl 22 (by decide) (hT _ w882) (fun _ h9 => h9) rfl (fh_d d_Mo_enter 3 rfl) ?_
  refine lv_iload_n hx hb (fh_d d_Mo_enter 4 rfl) rfl (lv_at hl 1 rfl) ?_
  refine fn_iast (f := A 17) (k := O) hx hb hK hP hS 0 mkM_a17 rfl (rfl) (by omega) (by decide) (fh_d d_Mo_enter 5 rfl) (fun H locs hP hS => ?_)
  replace hP := fh_P.eq (h' := mkM ct x g (up2 A 17 (upd (A 17) O nn)) th co at_ wr no nu (nI O) pi wi he de) hP mkM_u17
  refine lv_aload_n hx hb (fh_d d_Mo_enter 6 rfl) rfl (lv_at hl 0 rfl) ?_
  refine fh_get (own := "FormulaSetterModel") (ref := "FormulaSetterModel") (C := "FormulaSetterModel") (T := T_Mo) (N := 53) (v := .ref (x + 40)) hx hb hT i_Mo hown hK hP mkM_o rfl 46 (by decide) (hT _ w906) (fun _ h9 => h9) rfl (fh_d d_Mo_enter 7 rfl) ?_
  refine lv_aload_n hx hb (fh_d d_Mo_enter 8 rfl) rfl (lv_at hl 0 rfl) ?_
  refine fh_get (own := "FormulaSetterModel") (ref := "FormulaSetterModel") (C := "FormulaSetterModel") (T := T_Mo) (N := 53) (v := .int (nI O)) hx hb hT i_Mo hown hK hP mkM_o rfl 22 (by decide) (hT _ w882) (fun _ h9 => h9) rfl (fh_d d_Mo_enter 9 rfl) ?_
  refine lv_iconst (v := 0) hx hb (fh_d d_Mo_enter 10 rfl) (by decide) ?_
  refine fn_iast (f := A 39) (k := O) hx hb hK hP hS 0 mkM_a39 rfl (rfl) (by omega) (by decide) (fh_d d_Mo_enter 11 rfl) (fun H locs hP hS => ?_)
  replace hP := fh_P.eq (h' := mkM ct x g (up2 (up2 A 17 (upd (A 17) O nn)) 39 (upd (A 39) O 0)) th co at_ wr no nu (nI O) pi wi he de) hP mkM_u39
  refine lv_aload_n hx hb (fh_d d_Mo_enter 12 rfl) rfl (lv_at hl 0 rfl) ?_
  refine fh_get (own := "FormulaSetterModel") (ref := "FormulaSetterModel") (C := "FormulaSetterModel") (T := T_Mo) (N := 53) (v := .ref (x + 41)) hx hb hT i_Mo hown hK hP mkM_o rfl 47 (by decide) (hT _ w907) (fun _ h9 => h9) rfl (fh_d d_Mo_enter 13 rfl) ?_
  refine lv_aload_n hx hb (fh_d d_Mo_enter 14 rfl) rfl (lv_at hl 0 rfl) ?_
  refine fh_get (own := "FormulaSetterModel") (ref := "FormulaSetterModel") (C := "FormulaSetterModel") (T := T_Mo) (N := 53) (v := .int (nI O)) hx hb hT i_Mo hown hK hP mkM_o rfl 22 (by decide) (hT _ w882) (fun _ h9 => h9) rfl (fh_d d_Mo_enter 15 rfl) ?_
  refine lv_iconst (v := 0) hx hb (fh_d d_Mo_enter 16 rfl) (by decide) ?_
  refine fn_iast (f := A 40) (k := O) hx hb hK hP hS 0 mkM_a40 rfl (rfl) (by omega) (by decide) (fh_d d_Mo_enter 17 rfl) (fun H locs hP hS => ?_)
  replace hP := fh_P.eq (h' := mkM ct x g (up2 (up2 (up2 A 17 (upd (A 17) O nn)) 39 (upd (A 39) O 0)) 40 (upd (A 40) O 0)) th co at_ wr no nu (nI O) pi wi he de) hP mkM_u40
  refine lv_aload_n hx hb (fh_d d_Mo_enter 18 rfl) rfl (lv_at hl 0 rfl) ?_
  refine lv_dup hx hb (fh_d d_Mo_enter 19 rfl) rfl ?_
  refine fh_get (own := "FormulaSetterModel") (ref := "FormulaSetterModel") (C := "FormulaSetterModel") (T := T_Mo) (N := 53) (v := .int (nI O)) hx hb hT i_Mo hown hK hP mkM_o rfl 22 (by decide) (hT _ w882) (fun _ h9 => h9) rfl (fh_d d_Mo_enter 20 rfl) ?_
  refine lv_iconst (v := 1) hx hb (fh_d d_Mo_enter 21 rfl) (by decide) ?_
  refine lv_iadd hx hb (fh_d d_Mo_enter 22 rfl) ?_
  refine fh_put (own := "FormulaSetterModel") (ref := "FormulaSetterModel") (C := "FormulaSetterModel") (T := T_Mo) (N := 53) (v := .int ((nI O) + 1)) (ty := .int) hx hb hT i_Mo t_Mo k_Mo n_Mo hown hK hP hS mkM_o rfl 22 (by decide) (hT _ w882) (fun _ h9 => h9) rfl (by decide +kernel) rfl rfl (Nat.le_of_ble_eq_true rfl) (fh_d d_Mo_enter 23 rfl) (fun H locs hP hS => ?_)
  replace hP := fh_P.eq (h' := mkM ct x g (up2 (up2 (up2 A 17 (upd (A 17) O nn)) 39 (upd (A 39) O 0)) 40 (upd (A 40) O 0)) th co at_ wr no nu ((nI O) + 1) pi wi he de) hP mkM_ux
  rw [nI_1] at hP
  exact fh_vret X hP hS (fh_d d_Mo_enter 24 rfl) ⟨rfl, rfl, rfl⟩

set_option maxHeartbeats 4000000 in
set_option maxRecDepth 100000 in
theorem m_Mo_handDownE (l : Launch) (D : va_G) (ct : Nat → ClassId) (b : Nat) (RO : State → Prop) (r : Nat) (n x : Nat) (g : fh_H) (A : Nat → Nat → Int32) (th co at_ wr no nu op pi wi he de : Int32) (h1 : A 1 0 = 0) (h6 : A 6 0 = 0) : fh_C l D fh_cl (fh_tys ct) b RO y_Mo_handDown (Cond.code y_Mo_handDown c_Mo_handDown 6 (Option.none : Option FieldType) :: fh_T) (fh_rm r 0 0) [.ref x, .int 0] (mkM ct x g A th co at_ wr no nu op pi wi he de) n (fun v h' n' => v = none ∧ h' = mkM ct x g A th co at_ wr no nu op pi wi he de ∧ n' = n) 0 0 := by
  refine fh_enter (by decide) (Nat.le_of_ble_eq_true rfl) [(0, .ref x), (1, .int 0)] rfl ?_
  intro p e s m args below meth c H ls X hP hS hl
  have hx := X.1
  have hb := X.2.1
  have hml := X.2.2.1
  have hown : s.vm.findClass "FormulaSetterModel" = some m.cls := X.2.2.2.1
  have hT := X.2.2.2.2.1
  have hK := X.2.2.2.2.2.1
  have hRO := X.2.2.2.2.2.2.1
  have hnm : meth.name = "handDown" := X.2.2.2.2.2.2.2.2.2.2
  refine lv_aload_n hx hb (fh_d d_Mo_handDown 0 rfl) rfl (lv_at hl 0 rfl) ?_
  refine fh_get (own := "FormulaSetterModel") (ref := "FormulaSetterModel") (C := "FormulaSetterModel") (T := T_Mo) (N := 53) (v := .ref (x + 21)) hx hb hT i_Mo hown hK hP mkM_o rfl 27 (by decide) (hT _ w887) (fun _ h9 => h9) rfl (fh_d d_Mo_handDown 1 rfl) ?_
  refine lv_iload_n hx hb (fh_d d_Mo_handDown 2 rfl) rfl (lv_at hl 1 rfl) ?_
  refine fn_iald (f := A 20) (k := 0) hx hb hK hP 0 mkM_a20 rfl (rfl) (by decide) (by decide) (fh_d d_Mo_handDown 3 rfl) ?_
  refine lv_istore_n (lv' := [(2, .int ((A 20) 0)), (0, .ref x), (1, .int 0)]) hx hb (fh_d d_Mo_handDown 4 rfl) rfl hl (by decide) rfl (fun ls hl => ?_)
  refine lv_aload_n hx hb (fh_d d_Mo_handDown 5 rfl) rfl (lv_at hl 1 rfl) ?_
  refine fh_get (own := "FormulaSetterModel") (ref := "FormulaSetterModel") (C := "FormulaSetterModel") (T := T_Mo) (N := 53) (v := .ref (x + 22)) hx hb hT i_Mo hown hK hP mkM_o rfl 28 (by decide) (hT _ w888) (fun _ h9 => h9) rfl (fh_d d_Mo_handDown 6 rfl) ?_
  refine lv_iload_n hx hb (fh_d d_Mo_handDown 7 rfl) rfl (lv_at hl 2 rfl) ?_
  refine fn_zald (f := A 21) (k := 0) hx hb hK hP 3 mkM_a21 rfl (rfl) (by decide) (by decide) (fh_d d_Mo_handDown 8 rfl) ?_
  refine lv_istore_n (lv' := [(3, .int ((A 21) 0)), (2, .int ((A 20) 0)), (0, .ref x), (1, .int 0)]) hx hb (fh_d d_Mo_handDown 9 rfl) rfl hl (by decide) rfl (fun ls hl => ?_)
  refine lv_aload_n hx hb (fh_d d_Mo_handDown 10 rfl) rfl (lv_at hl 2 rfl) ?_
  refine fh_get (own := "FormulaSetterModel") (ref := "FormulaSetterModel") (C := "FormulaSetterModel") (T := T_Mo) (N := 53) (v := .ref (x + 2)) hx hb hT i_Mo hown hK hP mkM_o rfl 7 (by decide) (hT _ w867) (fun _ h9 => h9) rfl (fh_d d_Mo_handDown 11 rfl) ?_
  refine lv_iload_n hx hb (fh_d d_Mo_handDown 12 rfl) rfl (lv_at hl 3 rfl) ?_
  refine fn_iald (f := A 1) (k := 0) hx hb hK hP 0 mkM_a1 rfl (rfl) (by decide) (by decide) (fh_d d_Mo_handDown 13 rfl) ?_
  refine lv_istore (lv' := [(4, .int ((A 1) 0)), (3, .int ((A 21) 0)), (2, .int ((A 20) 0)), (0, .ref x), (1, .int 0)]) hx hb (fh_d d_Mo_handDown 14 rfl) hl (by decide) rfl (fun ls hl => ?_)
  refine lv_iload hx hb (fh_d d_Mo_handDown 15 rfl) (lv_at hl 0 rfl) ?_
  refine lv_if_ne (tgt := 61) hx hb (fh_d d_Mo_handDown 16 rfl) rfl (fun c1 => absurd c1 (fun z => z h1)) (fun c1 => ?_)
  refine lv_aload_n hx hb (fh_d d_Mo_handDown 17 rfl) rfl (lv_at hl 3 rfl) ?_
  refine fh_get (own := "FormulaSetterModel") (ref := "FormulaSetterModel") (C := "FormulaSetterModel") (T := T_Mo) (N := 53) (v := .ref (x + 7)) hx hb hT i_Mo hown hK hP mkM_o rfl 12 (by decide) (hT _ w872) (fun _ h9 => h9) rfl (fh_d d_Mo_handDown 18 rfl) ?_
  refine lv_iload_n hx hb (fh_d d_Mo_handDown 19 rfl) rfl (lv_at hl 4 rfl) ?_
  refine fn_iald (f := A 6) (k := 0) hx hb hK hP 0 mkM_a6 rfl (rfl) (by decide) (by decide) (fh_d d_Mo_handDown 20 rfl) ?_
  refine lv_istore (lv' := [(5, .int ((A 6) 0)), (4, .int ((A 1) 0)), (3, .int ((A 21) 0)), (2, .int ((A 20) 0)), (0, .ref x), (1, .int 0)]) hx hb (fh_d d_Mo_handDown 21 rfl) hl (by decide) rfl (fun ls hl => ?_)
  refine lv_iload hx hb (fh_d d_Mo_handDown 22 rfl) (lv_at hl 0 rfl) ?_
  refine lv_if_le (tgt := 60) hx hb (fh_d d_Mo_handDown 23 rfl) rfl (fun c2 => ?_) (fun c2 => absurd c2 (fun z => z (by rw [h6]; decide)))
  exact fh_vret X hP hS (fh_d d_Mo_handDown 35 rfl) ⟨rfl, rfl, rfl⟩

def rf_sl0 (A : Nat → Nat → Int32) : Nat → Nat → Int32 := up2 (up2 (up2 A 22 (upd (A 22) 0 0)) 23 (upd (A 23) 0 0)) 24 (upd (A 24) 0 0)
def rf_ss0 (A : Nat → Nat → Int32) : Nat → Nat → Int32 := up2 (up2 (up2 (up2 A 25 (upd (A 25) 0 (A 22 0))) 26 (upd (A 26) 0 (A 23 0))) 27 (upd (A 27) 0 (A 24 0))) 28 (upd (A 28) 0 0)
set_option maxHeartbeats 4000000 in
set_option maxRecDepth 100000 in
theorem m_Mo_setListE (l : Launch) (D : va_G) (ct : Nat → ClassId) (b : Nat) (RO : State → Prop) (hR : fh_R b RO) (r : Nat) (hr : 1 ≤ r) (n x : Nat) (g : fh_H) (A : Nat → Nat → Int32) (th co at_ wr no nu op pi wi he de : Int32) (h6 : A 6 0 = 0) (s0 : Nat) (hs0 : s0 < 4) (h20 : A 20 0 = nI s0) : fh_C l D fh_cl (fh_tys ct) b RO y_Mo_setList (Cond.code y_Mo_setList c_Mo_setList 7 (Option.none : Option FieldType) :: fh_T) (fh_rm r 0 0) [.ref x, .int 0] (mkM ct x g A th co at_ wr no nu op pi wi he de) n (fun v h' n' => v = none ∧ h' = mkM ct x g (rf_sl0 A) th co at_ wr no nu op pi wi he de ∧ n' = n) 0 0 := by
  refine fh_enter (by decide) (Nat.le_of_ble_eq_true rfl) [(0, .ref x), (1, .int 0)] rfl ?_
  intro p e s m args below meth c H ls X hP hS hl
  have hx := X.1
  have hb := X.2.1
  have hml := X.2.2.1
  have hown : s.vm.findClass "FormulaSetterModel" = some m.cls := X.2.2.2.1
  have hT := X.2.2.2.2.1
  have hK := X.2.2.2.2.2.1
  have hRO := X.2.2.2.2.2.2.1
  have hnm : meth.name = "setList" := X.2.2.2.2.2.2.2.2.2.2
  refine lv_iconst (v := (-1)) hx hb (fh_d d_Mo_setList 0 rfl) (by decide) ?_
  refine lv_istore_n (lv' := [(2, .int (-1)), (0, .ref x), (1, .int 0)]) hx hb (fh_d d_Mo_setList 1 rfl) rfl hl (by decide) rfl (fun ls hl => ?_)
  refine lv_aload_n hx hb (fh_d d_Mo_setList 2 rfl) rfl (lv_at hl 1 rfl) ?_
  refine fh_get (own := "FormulaSetterModel") (ref := "FormulaSetterModel") (C := "FormulaSetterModel") (T := T_Mo) (N := 53) (v := .ref (x + 7)) hx hb hT i_Mo hown hK hP mkM_o rfl 12 (by decide) (hT _ w872) (fun _ h9 => h9) rfl (fh_d d_Mo_setList 3 rfl) ?_
  refine lv_iload_n hx hb (fh_d d_Mo_setList 4 rfl) rfl (lv_at hl 2 rfl) ?_
  refine fn_iald (f := A 6) (k := 0) hx hb hK hP 0 mkM_a6 rfl (rfl) (by decide) (by decide) (fh_d d_Mo_setList 5 rfl) ?_
  refine lv_istore_n (lv' := [(3, .int ((A 6) 0)), (2, .int (-1)), (0, .ref x), (1, .int 0)]) hx hb (fh_d d_Mo_setList 6 rfl) rfl hl (by decide) rfl (fun ls hl => ?_)
  refine lv_iload_n hx hb (fh_d d_Mo_setList 7 rfl) rfl (lv_at hl 0 rfl) ?_
  refine lv_if_le (tgt := 98) hx hb (fh_d d_Mo_setList 8 rfl) rfl (fun c1 => ?_) (fun c1 => absurd c1 (fun z => z (by rw [h6]; decide)))
  refine lv_aload_n hx hb (fh_d d_Mo_setList 59 rfl) rfl (lv_at hl 2 rfl) ?_
  refine fh_get (own := "FormulaSetterModel") (ref := "FormulaSetterModel") (C := "FormulaSetterModel") (T := T_Mo) (N := 53) (v := .ref (x + 7)) hx hb hT i_Mo hown hK hP mkM_o rfl 12 (by decide) (hT _ w872) (fun _ h9 => h9) rfl (fh_d d_Mo_setList 60 rfl) ?_
  refine lv_iload_n hx hb (fh_d d_Mo_setList 61 rfl) rfl (lv_at hl 3 rfl) ?_
  refine fn_iald (f := A 6) (k := 0) hx hb hK hP 0 mkM_a6 rfl (rfl) (by decide) (by decide) (fh_d d_Mo_setList 62 rfl) ?_
  refine lv_istore_n (lv' := [(3, .int ((A 6) 0)), (2, .int (-1)), (0, .ref x), (1, .int 0)]) hx hb (fh_d d_Mo_setList 63 rfl) rfl hl (by decide) rfl (fun ls hl => ?_)
  refine lv_iload_n hx hb (fh_d d_Mo_setList 64 rfl) rfl (lv_at hl 0 rfl) ?_
  refine lv_if_le (tgt := 190) hx hb (fh_d d_Mo_setList 65 rfl) rfl (fun c2 => ?_) (fun c2 => absurd c2 (fun z => z (by rw [h6]; decide)))
  refine lv_aload_n hx hb (fh_d d_Mo_setList 112 rfl) rfl (lv_at hl 2 rfl) ?_
  refine fh_get (own := "FormulaSetterModel") (ref := "FormulaSetterModel") (C := "FormulaSetterModel") (T := T_Mo) (N := 53) (v := .ref (x + 21)) hx hb hT i_Mo hown hK hP mkM_o rfl 27 (by decide) (hT _ w887) (fun _ h9 => h9) rfl (fh_d d_Mo_setList 113 rfl) ?_
  refine lv_iload_n hx hb (fh_d d_Mo_setList 114 rfl) rfl (lv_at hl 3 rfl) ?_
  refine fn_iald (f := A 20) (k := 0) hx hb hK hP 0 mkM_a20 rfl (rfl) (by decide) (by decide) (fh_d d_Mo_setList 115 rfl) ?_
  rw [h20]
  refine fh_callS (cc' := c_Mo_zOf) (nL' := 1) (rest := []) (av := [.int (nI s0)]) X hR (m_Mo_zOf l D ct b RO (r - 1) n s0 hs0 (mkM ct x g A th co at_ wr no nu op pi wi he de)) w1139 w1137 w1138 w9 ⟨by decide, by decide, by show _ = some 1; decide +kernel⟩ (by omega) (by decide) hP hS hl.1 rfl (by exact Nat.le_of_ble_eq_true rfl) (fh_d d_Mo_setList 116 rfl) ⟨Nat.le_refl _, Nat.le_refl _⟩ (fun v9 h9 n9 H locs hq hP hS => ?_)
  obtain ⟨rfl, ua, ub⟩ := hq
  rw [ua, ub] at hP
  refine W.eq (g2 := F0 m 199 ls [.int (rz_z s0)]) rfl ?_
  refine lv_istore_n (lv' := [(3, .int (rz_z s0)), (2, .int (-1)), (0, .ref x), (1, .int 0)]) hx hb (fh_d d_Mo_setList 117 rfl) rfl hl (by decide) rfl (fun ls hl => ?_)
  refine lv_aload_n hx hb (fh_d d_Mo_setList 118 rfl) rfl (lv_at hl 2 rfl) ?_
  refine fh_get (own := "FormulaSetterModel") (ref := "FormulaSetterModel") (C := "FormulaSetterModel") (T := T_Mo) (N := 53) (v := .ref (x + 23)) hx hb hT i_Mo hown hK hP mkM_o rfl 29 (by decide) (hT _ w889) (fun _ h9 => h9) rfl (fh_d d_Mo_setList 119 rfl) ?_
  refine lv_iload_n hx hb (fh_d d_Mo_setList 120 rfl) rfl (lv_at hl 3 rfl) ?_
  refine lv_iconst (v := 0) hx hb (fh_d d_Mo_setList 121 rfl) (by decide) ?_
  refine fn_iast (f := A 22) (k := 0) hx hb hK hP hS 0 mkM_a22 rfl (rfl) (by decide) (by decide) (fh_d d_Mo_setList 122 rfl) (fun H locs hP hS => ?_)
  replace hP := fh_P.eq (h' := mkM ct x g (up2 A 22 (upd (A 22) 0 0)) th co at_ wr no nu op pi wi he de) hP mkM_u22
  refine lv_aload_n hx hb (fh_d d_Mo_setList 123 rfl) rfl (lv_at hl 2 rfl) ?_
  refine fh_get (own := "FormulaSetterModel") (ref := "FormulaSetterModel") (C := "FormulaSetterModel") (T := T_Mo) (N := 53) (v := .ref (x + 24)) hx hb hT i_Mo hown hK hP mkM_o rfl 30 (by decide) (hT _ w890) (fun _ h9 => h9) rfl (fh_d d_Mo_setList 124 rfl) ?_
  refine lv_iload_n hx hb (fh_d d_Mo_setList 125 rfl) rfl (lv_at hl 3 rfl) ?_
  refine lv_iconst (v := 0) hx hb (fh_d d_Mo_setList 126 rfl) (by decide) ?_
  refine fn_iast (f := A 23) (k := 0) hx hb hK hP hS 0 mkM_a23 rfl (rfl) (by decide) (by decide) (fh_d d_Mo_setList 127 rfl) (fun H locs hP hS => ?_)
  replace hP := fh_P.eq (h' := mkM ct x g (up2 (up2 A 22 (upd (A 22) 0 0)) 23 (upd (A 23) 0 0)) th co at_ wr no nu op pi wi he de) hP mkM_u23
  refine lv_aload_n hx hb (fh_d d_Mo_setList 128 rfl) rfl (lv_at hl 2 rfl) ?_
  refine fh_get (own := "FormulaSetterModel") (ref := "FormulaSetterModel") (C := "FormulaSetterModel") (T := T_Mo) (N := 53) (v := .ref (x + 25)) hx hb hT i_Mo hown hK hP mkM_o rfl 31 (by decide) (hT _ w891) (fun _ h9 => h9) rfl (fh_d d_Mo_setList 129 rfl) ?_
  refine lv_iload_n hx hb (fh_d d_Mo_setList 130 rfl) rfl (lv_at hl 3 rfl) ?_
  refine lv_iconst (v := 0) hx hb (fh_d d_Mo_setList 131 rfl) (by decide) ?_
  refine fn_iast (f := A 24) (k := 0) hx hb hK hP hS 0 mkM_a24 rfl (rfl) (by decide) (by decide) (fh_d d_Mo_setList 132 rfl) (fun H locs hP hS => ?_)
  replace hP := fh_P.eq (h' := mkM ct x g (up2 (up2 (up2 A 22 (upd (A 22) 0 0)) 23 (upd (A 23) 0 0)) 24 (upd (A 24) 0 0)) th co at_ wr no nu op pi wi he de) hP mkM_u24
  refine lv_aload_n hx hb (fh_d d_Mo_setList 133 rfl) rfl (lv_at hl 2 rfl) ?_
  refine fh_get (own := "FormulaSetterModel") (ref := "FormulaSetterModel") (C := "FormulaSetterModel") (T := T_Mo) (N := 53) (v := .ref (x + 7)) hx hb hT i_Mo hown hK hP mkM_o rfl 12 (by decide) (hT _ w872) (fun _ h9 => h9) rfl (fh_d d_Mo_setList 134 rfl) ?_
  refine lv_iload_n hx hb (fh_d d_Mo_setList 135 rfl) rfl (lv_at hl 3 rfl) ?_
  refine fn_iald (f := A 6) (k := 0) hx hb hK hP 0 mkM_a6 rfl (rfl) (by decide) (by decide) (fh_d d_Mo_setList 136 rfl) ?_
  refine lv_istore (lv' := [(4, .int ((A 6) 0)), (3, .int (rz_z s0)), (2, .int (-1)), (0, .ref x), (1, .int 0)]) hx hb (fh_d d_Mo_setList 137 rfl) hl (by decide) rfl (fun ls hl => ?_)
  refine lv_iload hx hb (fh_d d_Mo_setList 138 rfl) (lv_at hl 0 rfl) ?_
  refine lv_if_le (tgt := 428) hx hb (fh_d d_Mo_setList 139 rfl) rfl (fun c3 => ?_) (fun c3 => absurd c3 (fun z => z (by rw [h6]; decide)))
  exact fh_vret X hP hS (fh_d d_Mo_setList 253 rfl) ⟨rfl, rfl, rfl⟩

set_option maxHeartbeats 4000000 in
set_option maxRecDepth 100000 in
theorem m_Mo_setScriptsE (l : Launch) (D : va_G) (ct : Nat → ClassId) (b : Nat) (RO : State → Prop) (r : Nat) (n x : Nat) (g : fh_H) (A : Nat → Nat → Int32) (th co at_ wr no nu op pi wi he de : Int32) (h12 : A 12 0 = 0) (h13 : A 13 0 = 0) : fh_C l D fh_cl (fh_tys ct) b RO y_Mo_setScripts (Cond.code y_Mo_setScripts c_Mo_setScripts 10 (Option.none : Option FieldType) :: fh_T) (fh_rm r 0 0) [.ref x, .int 0] (mkM ct x g A th co at_ wr no nu op pi wi he de) n (fun v h' n' => v = none ∧ h' = mkM ct x g (rf_ss0 A) th co at_ wr no nu op pi wi he de ∧ n' = n) 0 0 := by
  refine fh_enter (by decide) (Nat.le_of_ble_eq_true rfl) [(0, .ref x), (1, .int 0)] rfl ?_
  intro p e s m args below meth c H ls X hP hS hl
  have hx := X.1
  have hb := X.2.1
  have hml := X.2.2.1
  have hown : s.vm.findClass "FormulaSetterModel" = some m.cls := X.2.2.2.1
  have hT := X.2.2.2.2.1
  have hK := X.2.2.2.2.2.1
  have hRO := X.2.2.2.2.2.2.1
  have hnm : meth.name = "setScripts" := X.2.2.2.2.2.2.2.2.2.2
  refine lv_aload_n hx hb (fh_d d_Mo_setScripts 0 rfl) rfl (lv_at hl 0 rfl) ?_
  refine fh_get (own := "FormulaSetterModel") (ref := "FormulaSetterModel") (C := "FormulaSetterModel") (T := T_Mo) (N := 53) (v := .ref (x + 13)) hx hb hT i_Mo hown hK hP mkM_o rfl 18 (by decide) (hT _ w878) (fun _ h9 => h9) rfl (fh_d d_Mo_setScripts 1 rfl) ?_
  refine lv_iload_n hx hb (fh_d d_Mo_setScripts 2 rfl) rfl (lv_at hl 1 rfl) ?_
  refine fn_iald (f := A 12) (k := 0) hx hb hK hP 0 mkM_a12 rfl (rfl) (by decide) (by decide) (fh_d d_Mo_setScripts 3 rfl) ?_
  refine lv_istore_n (lv' := [(2, .int ((A 12) 0)), (0, .ref x), (1, .int 0)]) hx hb (fh_d d_Mo_setScripts 4 rfl) rfl hl (by decide) rfl (fun ls hl => ?_)
  refine lv_aload_n hx hb (fh_d d_Mo_setScripts 5 rfl) rfl (lv_at hl 1 rfl) ?_
  refine fh_get (own := "FormulaSetterModel") (ref := "FormulaSetterModel") (C := "FormulaSetterModel") (T := T_Mo) (N := 53) (v := .ref (x + 14)) hx hb hT i_Mo hown hK hP mkM_o rfl 19 (by decide) (hT _ w879) (fun _ h9 => h9) rfl (fh_d d_Mo_setScripts 6 rfl) ?_
  refine lv_iload_n hx hb (fh_d d_Mo_setScripts 7 rfl) rfl (lv_at hl 2 rfl) ?_
  refine fn_iald (f := A 13) (k := 0) hx hb hK hP 0 mkM_a13 rfl (rfl) (by decide) (by decide) (fh_d d_Mo_setScripts 8 rfl) ?_
  refine lv_istore_n (lv' := [(3, .int ((A 13) 0)), (2, .int ((A 12) 0)), (0, .ref x), (1, .int 0)]) hx hb (fh_d d_Mo_setScripts 9 rfl) rfl hl (by decide) rfl (fun ls hl => ?_)
  refine lv_aload_n hx hb (fh_d d_Mo_setScripts 10 rfl) rfl (lv_at hl 2 rfl) ?_
  refine fh_get (own := "FormulaSetterModel") (ref := "FormulaSetterModel") (C := "FormulaSetterModel") (T := T_Mo) (N := 53) (v := .ref (x + 26)) hx hb hT i_Mo hown hK hP mkM_o rfl 32 (by decide) (hT _ w892) (fun _ h9 => h9) rfl (fh_d d_Mo_setScripts 11 rfl) ?_
  refine lv_iload_n hx hb (fh_d d_Mo_setScripts 12 rfl) rfl (lv_at hl 3 rfl) ?_
  refine lv_aload_n hx hb (fh_d d_Mo_setScripts 13 rfl) rfl (lv_at hl 2 rfl) ?_
  refine fh_get (own := "FormulaSetterModel") (ref := "FormulaSetterModel") (C := "FormulaSetterModel") (T := T_Mo) (N := 53) (v := .ref (x + 23)) hx hb hT i_Mo hown hK hP mkM_o rfl 29 (by decide) (hT _ w889) (fun _ h9 => h9) rfl (fh_d d_Mo_setScripts 14 rfl) ?_
  refine lv_iload_n hx hb (fh_d d_Mo_setScripts 15 rfl) rfl (lv_at hl 3 rfl) ?_
  refine fn_iald (f := A 22) (k := 0) hx hb hK hP 0 mkM_a22 rfl (rfl) (by decide) (by decide) (fh_d d_Mo_setScripts 16 rfl) ?_
  refine fn_iast (f := A 25) (k := 0) hx hb hK hP hS 0 mkM_a25 rfl (rfl) (by decide) (by decide) (fh_d d_Mo_setScripts 17 rfl) (fun H locs hP hS => ?_)
  replace hP := fh_P.eq (h' := mkM ct x g (up2 A 25 (upd (A 25) 0 ((A 22) 0))) th co at_ wr no nu op pi wi he de) hP mkM_u25
  refine lv_aload_n hx hb (fh_d d_Mo_setScripts 18 rfl) rfl (lv_at hl 2 rfl) ?_
  refine fh_get (own := "FormulaSetterModel") (ref := "FormulaSetterModel") (C := "FormulaSetterModel") (T := T_Mo) (N := 53) (v := .ref (x + 27)) hx hb hT i_Mo hown hK hP mkM_o rfl 33 (by decide) (hT _ w893) (fun _ h9 => h9) rfl (fh_d d_Mo_setScripts 19 rfl) ?_
  refine lv_iload_n hx hb (fh_d d_Mo_setScripts 20 rfl) rfl (lv_at hl 3 rfl) ?_
  refine lv_aload_n hx hb (fh_d d_Mo_setScripts 21 rfl) rfl (lv_at hl 2 rfl) ?_
  refine fh_get (own := "FormulaSetterModel") (ref := "FormulaSetterModel") (C := "FormulaSetterModel") (T := T_Mo) (N := 53) (v := .ref (x + 24)) hx hb hT i_Mo hown hK hP mkM_o rfl 30 (by decide) (hT _ w890) (fun _ h9 => h9) rfl (fh_d d_Mo_setScripts 22 rfl) ?_
  refine lv_iload_n hx hb (fh_d d_Mo_setScripts 23 rfl) rfl (lv_at hl 3 rfl) ?_
  refine fn_iald (f := A 23) (k := 0) hx hb hK hP 0 mkM_a23 rfl (rfl) (by decide) (by decide) (fh_d d_Mo_setScripts 24 rfl) ?_
  refine fn_iast (f := A 26) (k := 0) hx hb hK hP hS 0 mkM_a26 rfl (rfl) (by decide) (by decide) (fh_d d_Mo_setScripts 25 rfl) (fun H locs hP hS => ?_)
  replace hP := fh_P.eq (h' := mkM ct x g (up2 (up2 A 25 (upd (A 25) 0 ((A 22) 0))) 26 (upd (A 26) 0 ((A 23) 0))) th co at_ wr no nu op pi wi he de) hP mkM_u26
  refine lv_aload_n hx hb (fh_d d_Mo_setScripts 26 rfl) rfl (lv_at hl 2 rfl) ?_
  refine fh_get (own := "FormulaSetterModel") (ref := "FormulaSetterModel") (C := "FormulaSetterModel") (T := T_Mo) (N := 53) (v := .ref (x + 28)) hx hb hT i_Mo hown hK hP mkM_o rfl 34 (by decide) (hT _ w894) (fun _ h9 => h9) rfl (fh_d d_Mo_setScripts 27 rfl) ?_
  refine lv_iload_n hx hb (fh_d d_Mo_setScripts 28 rfl) rfl (lv_at hl 3 rfl) ?_
  refine lv_aload_n hx hb (fh_d d_Mo_setScripts 29 rfl) rfl (lv_at hl 2 rfl) ?_
  refine fh_get (own := "FormulaSetterModel") (ref := "FormulaSetterModel") (C := "FormulaSetterModel") (T := T_Mo) (N := 53) (v := .ref (x + 25)) hx hb hT i_Mo hown hK hP mkM_o rfl 31 (by decide) (hT _ w891) (fun _ h9 => h9) rfl (fh_d d_Mo_setScripts 30 rfl) ?_
  refine lv_iload_n hx hb (fh_d d_Mo_setScripts 31 rfl) rfl (lv_at hl 3 rfl) ?_
  refine fn_iald (f := A 24) (k := 0) hx hb hK hP 0 mkM_a24 rfl (rfl) (by decide) (by decide) (fh_d d_Mo_setScripts 32 rfl) ?_
  refine fn_iast (f := A 27) (k := 0) hx hb hK hP hS 0 mkM_a27 rfl (rfl) (by decide) (by decide) (fh_d d_Mo_setScripts 33 rfl) (fun H locs hP hS => ?_)
  replace hP := fh_P.eq (h' := mkM ct x g (up2 (up2 (up2 A 25 (upd (A 25) 0 ((A 22) 0))) 26 (upd (A 26) 0 ((A 23) 0))) 27 (upd (A 27) 0 ((A 24) 0))) th co at_ wr no nu op pi wi he de) hP mkM_u27
  refine lv_aload_n hx hb (fh_d d_Mo_setScripts 34 rfl) rfl (lv_at hl 2 rfl) ?_
  refine fh_get (own := "FormulaSetterModel") (ref := "FormulaSetterModel") (C := "FormulaSetterModel") (T := T_Mo) (N := 53) (v := .ref (x + 29)) hx hb hT i_Mo hown hK hP mkM_o rfl 35 (by decide) (hT _ w895) (fun _ h9 => h9) rfl (fh_d d_Mo_setScripts 35 rfl) ?_
  refine lv_iload_n hx hb (fh_d d_Mo_setScripts 36 rfl) rfl (lv_at hl 3 rfl) ?_
  refine lv_iconst (v := 0) hx hb (fh_d d_Mo_setScripts 37 rfl) (by decide) ?_
  refine fn_iast (f := A 28) (k := 0) hx hb hK hP hS 0 mkM_a28 rfl (rfl) (by decide) (by decide) (fh_d d_Mo_setScripts 38 rfl) (fun H locs hP hS => ?_)
  replace hP := fh_P.eq (h' := mkM ct x g (up2 (up2 (up2 (up2 A 25 (upd (A 25) 0 ((A 22) 0))) 26 (upd (A 26) 0 ((A 23) 0))) 27 (upd (A 27) 0 ((A 24) 0))) 28 (upd (A 28) 0 0)) th co at_ wr no nu op pi wi he de) hP mkM_u28
  refine lv_iload_n hx hb (fh_d d_Mo_setScripts 39 rfl) rfl (lv_at hl 1 rfl) ?_
  refine lv_if_ne (tgt := 65) hx hb (fh_d d_Mo_setScripts 40 rfl) rfl (fun c1 => absurd c1 (fun z => z h12)) (fun c1 => ?_)
  refine lv_iload_n hx hb (fh_d d_Mo_setScripts 41 rfl) rfl (lv_at hl 0 rfl) ?_
  refine lv_if_eq (tgt := 74) hx hb (fh_d d_Mo_setScripts 42 rfl) rfl (fun c2 => ?_) (fun c2 => absurd c2 (fun z => z h13))
  exact fh_vret X hP hS (fh_d d_Mo_setScripts 48 rfl) ⟨rfl, rfl, rfl⟩

set_option maxHeartbeats 4000000 in
set_option maxRecDepth 100000 in
theorem m_Mo_measureE (l : Launch) (D : va_G) (ct : Nat → ClassId) (b : Nat) (RO : State → Prop) (hR : fh_R b RO) (r : Nat) (hr : 2 ≤ r) (n x : Nat) (g : fh_H) (A : Nat → Nat → Int32) (th co at_ wr no nu op pi wi he de : Int32) (h1 : A 1 0 = 0) (h6 : A 6 0 = 0) (h12 : A 12 0 = 0) (h13 : A 13 0 = 0) (s0 : Nat) (hs0 : s0 < 4) (h20 : A 20 0 = nI s0) : fh_C l D fh_cl (fh_tys ct) b RO y_Mo_measure (Cond.code y_Mo_measure c_Mo_measure 4 (Option.none : Option FieldType) :: fh_T) (fh_rm r 0 0) [.ref x, .int 0] (mkM ct x g A th co at_ wr no nu op pi wi he de) n (fun v h' n' => v = none ∧ h' = mkM ct x g (rf_ss0 (rf_sl0 A)) th co at_ wr no nu op pi wi he de ∧ n' = n) 0 0 := by
  refine fh_enter (by decide) (Nat.le_of_ble_eq_true rfl) [(0, .ref x), (1, .int 0)] rfl ?_
  intro p e s m args below meth c H ls X hP hS hl
  have hx := X.1
  have hb := X.2.1
  have hml := X.2.2.1
  have hown : s.vm.findClass "FormulaSetterModel" = some m.cls := X.2.2.2.1
  have hT := X.2.2.2.2.1
  have hK := X.2.2.2.2.2.1
  have hRO := X.2.2.2.2.2.2.1
  have hnm : meth.name = "measure" := X.2.2.2.2.2.2.2.2.2.2
  refine lv_aload_n hx hb (fh_d d_Mo_measure 0 rfl) rfl (lv_at hl 0 rfl) ?_
  refine fh_get (own := "FormulaSetterModel") (ref := "FormulaSetterModel") (C := "FormulaSetterModel") (T := T_Mo) (N := 53) (v := .ref (x + 2)) hx hb hT i_Mo hown hK hP mkM_o rfl 7 (by decide) (hT _ w867) (fun _ h9 => h9) rfl (fh_d d_Mo_measure 1 rfl) ?_
  refine lv_iload_n hx hb (fh_d d_Mo_measure 2 rfl) rfl (lv_at hl 1 rfl) ?_
  refine fn_iald (f := A 1) (k := 0) hx hb hK hP 0 mkM_a1 rfl (rfl) (by decide) (by decide) (fh_d d_Mo_measure 3 rfl) ?_
  refine lv_istore_n (lv' := [(2, .int ((A 1) 0)), (0, .ref x), (1, .int 0)]) hx hb (fh_d d_Mo_measure 4 rfl) rfl hl (by decide) rfl (fun ls hl => ?_)
  refine lv_iload_n hx hb (fh_d d_Mo_measure 5 rfl) rfl (lv_at hl 0 rfl) ?_
  refine lv_if_ne (tgt := 19) hx hb (fh_d d_Mo_measure 6 rfl) rfl (fun c1 => absurd c1 (fun z => z h1)) (fun c1 => ?_)
  refine lv_aload_n hx hb (fh_d d_Mo_measure 7 rfl) rfl (lv_at hl 1 rfl) ?_
  refine lv_iload_n hx hb (fh_d d_Mo_measure 8 rfl) rfl (lv_at hl 2 rfl) ?_
  refine fh_callV (cc' := c_Mo_setList) (nL' := 7) (rest := []) (a := x) (As := [.int 0]) X hR (m_Mo_setListE l D ct b RO hR (r - 1) (by omega) n x g A th co at_ wr no nu op pi wi he de h6 s0 hs0 h20) w1136 w1133 w1135 v50 w9 ⟨by decide, by decide, by show _ = some 1; decide +kernel⟩ (by omega) (by decide) (fh_recv hK hP mkM_o rfl) hP hS hl.1 rfl (by exact Nat.le_of_ble_eq_true rfl) (fh_d d_Mo_measure 9 rfl) ⟨Nat.le_refl _, Nat.le_refl _⟩ (fun v9 h9 n9 H locs hq hP hS => ?_)
  obtain ⟨rfl, u2, u3⟩ := hq
  rw [u2, u3] at hP
  refine W.eq (g2 := F0 m 16 ls []) rfl ?_
  refine lv_goto (tgt := 222) hx hb (fh_d d_Mo_measure 10 rfl) rfl ?_
  refine lv_aload_n hx hb (fh_d d_Mo_measure 132 rfl) rfl (lv_at hl 1 rfl) ?_
  refine lv_iload_n hx hb (fh_d d_Mo_measure 133 rfl) rfl (lv_at hl 2 rfl) ?_
  refine fh_callV (cc' := c_Mo_setScripts) (nL' := 10) (rest := []) (a := x) (As := [.int 0]) X hR (m_Mo_setScriptsE l D ct b RO (r - 1) n x g (rf_sl0 A) th co at_ wr no nu op pi wi he de h12 h13) w1197 w1194 w1196 v57 w9 ⟨by decide, by decide, by show _ = some 1; decide +kernel⟩ (by omega) (by decide) (fh_recv hK hP mkM_o rfl) hP hS hl.1 rfl (by exact Nat.le_of_ble_eq_true rfl) (fh_d d_Mo_measure 134 rfl) ⟨Nat.le_refl _, Nat.le_refl _⟩ (fun v9 h9 n9 H locs hq hP hS => ?_)
  obtain ⟨rfl, u4, u5⟩ := hq
  rw [u4, u5] at hP
  refine W.eq (g2 := F0 m 227 ls []) rfl ?_
  exact fh_vret X hP hS (fh_d d_Mo_measure 135 rfl) ⟨rfl, rfl, rfl⟩

set_option maxHeartbeats 4000000 in
set_option maxRecDepth 100000 in
theorem m_Mo_walkE0 (l : Launch) (D : va_G) (ct : Nat → ClassId) (b : Nat) (RO : State → Prop) (r : Nat) (n x : Nat) (g : fh_H) (A : Nat → Nat → Int32) (th co at_ wr no nu pi wi he de : Int32) (h1 : A 1 0 = 0) (h6 : A 6 0 = 0) (h17 : A 17 0 = 0) (h39 : A 39 0 = 0) (h40 : A 40 0 = 0) : fh_C l D fh_cl (fh_tys ct) b RO y_Mo_walk (Cond.code y_Mo_walk c_Mo_walk 5 (Option.none : Option FieldType) :: fh_T) (fh_rm r 0 0) [.ref x] (mkM ct x g A th co at_ wr no nu 1 pi wi he de) n (fun v h' n' => v = none ∧ h' = mkM ct x g (up2 (up2 A 40 (upd (A 40) 0 (A 6 0))) 39 (upd (A 39) 0 2)) th co at_ wr no nu 1 pi wi he de ∧ n' = n) 0 0 := by
  refine fh_enter (by decide) (Nat.le_of_ble_eq_true rfl) [(0, .ref x)] rfl ?_
  intro p e s m args below meth c H ls X hP hS hl
  have hx := X.1
  have hb := X.2.1
  have hml := X.2.2.1
  have hown : s.vm.findClass "FormulaSetterModel" = some m.cls := X.2.2.2.1
  have hT := X.2.2.2.2.1
  have hK := X.2.2.2.2.2.1
  have hRO := X.2.2.2.2.2.2.1
  have hnm : meth.name = "walk" := X.2.2.2.2.2.2.2.2.2.2
  refine lv_aload_n hx hb (fh_d d_Mo_walk 0 rfl) rfl (lv_at hl 0 rfl) ?_
  refine fh_get (own := "FormulaSetterModel") (ref := "FormulaSetterModel") (C := "FormulaSetterModel") (T := T_Mo) (N := 53) (v := .int 1) hx hb hT i_Mo hown hK hP mkM_o rfl 22 (by decide) (hT _ w882) (fun _ h9 => h9) rfl (fh_d d_Mo_walk 1 rfl) ?_
  refine lv_iconst (v := 1) hx hb (fh_d d_Mo_walk 2 rfl) (by decide) ?_
  refine lv_isub hx hb (fh_d d_Mo_walk 3 rfl) ?_
  refine lv_istore_n (lv' := [(1, .int (1 - 1)), (0, .ref x)]) hx hb (fh_d d_Mo_walk 4 rfl) rfl hl (by decide) rfl (fun ls hl => ?_)
  refine lv_aload_n hx hb (fh_d d_Mo_walk 5 rfl) rfl (lv_at hl 1 rfl) ?_
  refine fh_get (own := "FormulaSetterModel") (ref := "FormulaSetterModel") (C := "FormulaSetterModel") (T := T_Mo) (N := 53) (v := .ref (x + 18)) hx hb hT i_Mo hown hK hP mkM_o rfl 24 (by decide) (hT _ w884) (fun _ h9 => h9) rfl (fh_d d_Mo_walk 6 rfl) ?_
  refine lv_iload_n hx hb (fh_d d_Mo_walk 7 rfl) rfl (lv_at hl 0 rfl) ?_
  refine fn_iald (f := A 17) (k := 0) hx hb hK hP 0 mkM_a17 rfl (rfl) (by decide) (by decide) (fh_d d_Mo_walk 8 rfl) ?_
  refine lv_istore_n (lv' := [(2, .int ((A 17) 0)), (1, .int (1 - 1)), (0, .ref x)]) hx hb (fh_d d_Mo_walk 9 rfl) rfl hl (by decide) rfl (fun ls hl => ?_)
  refine lv_aload_n hx hb (fh_d d_Mo_walk 10 rfl) rfl (lv_at hl 2 rfl) ?_
  refine fh_get (own := "FormulaSetterModel") (ref := "FormulaSetterModel") (C := "FormulaSetterModel") (T := T_Mo) (N := 53) (v := .ref (x + 40)) hx hb hT i_Mo hown hK hP mkM_o rfl 46 (by decide) (hT _ w906) (fun _ h9 => h9) rfl (fh_d d_Mo_walk 11 rfl) ?_
  refine lv_iload_n hx hb (fh_d d_Mo_walk 12 rfl) rfl (lv_at hl 1 rfl) ?_
  refine fn_iald (f := A 39) (k := 0) hx hb hK hP 0 mkM_a39 rfl (rfl) (by decide) (by decide) (fh_d d_Mo_walk 13 rfl) ?_
  refine lv_istore_n (lv' := [(3, .int ((A 39) 0)), (2, .int ((A 17) 0)), (1, .int (1 - 1)), (0, .ref x)]) hx hb (fh_d d_Mo_walk 14 rfl) rfl hl (by decide) rfl (fun ls hl => ?_)
  refine lv_iload_n hx hb (fh_d d_Mo_walk 15 rfl) rfl (lv_at hl 0 rfl) ?_
  refine lv_if_ne (tgt := 108) hx hb (fh_d d_Mo_walk 16 rfl) rfl (fun c1 => absurd c1 (fun z => z h39)) (fun c1 => ?_)
  refine lv_aload_n hx hb (fh_d d_Mo_walk 17 rfl) rfl (lv_at hl 3 rfl) ?_
  refine fh_get (own := "FormulaSetterModel") (ref := "FormulaSetterModel") (C := "FormulaSetterModel") (T := T_Mo) (N := 53) (v := .ref (x + 2)) hx hb hT i_Mo hown hK hP mkM_o rfl 7 (by decide) (hT _ w867) (fun _ h9 => h9) rfl (fh_d d_Mo_walk 18 rfl) ?_
  refine lv_iload_n hx hb (fh_d d_Mo_walk 19 rfl) rfl (lv_at hl 1 rfl) ?_
  refine fn_iald (f := A 1) (k := 0) hx hb hK hP 0 mkM_a1 rfl (h17) (by decide) (by decide) (fh_d d_Mo_walk 20 rfl) ?_
  refine lv_if_eq (tgt := 45) hx hb (fh_d d_Mo_walk 21 rfl) rfl (fun c2 => ?_) (fun c2 => absurd c2 (fun z => z h1))
  refine lv_aload_n hx hb (fh_d d_Mo_walk 28 rfl) rfl (lv_at hl 3 rfl) ?_
  refine fh_get (own := "FormulaSetterModel") (ref := "FormulaSetterModel") (C := "FormulaSetterModel") (T := T_Mo) (N := 53) (v := .ref (x + 41)) hx hb hT i_Mo hown hK hP mkM_o rfl 47 (by decide) (hT _ w907) (fun _ h9 => h9) rfl (fh_d d_Mo_walk 29 rfl) ?_
  refine lv_iload_n hx hb (fh_d d_Mo_walk 30 rfl) rfl (lv_at hl 2 rfl) ?_
  refine lv_aload_n hx hb (fh_d d_Mo_walk 31 rfl) rfl (lv_at hl 3 rfl) ?_
  refine fh_get (own := "FormulaSetterModel") (ref := "FormulaSetterModel") (C := "FormulaSetterModel") (T := T_Mo) (N := 53) (v := .ref (x + 41)) hx hb hT i_Mo hown hK hP mkM_o rfl 47 (by decide) (hT _ w907) (fun _ h9 => h9) rfl (fh_d d_Mo_walk 32 rfl) ?_
  refine lv_iload_n hx hb (fh_d d_Mo_walk 33 rfl) rfl (lv_at hl 2 rfl) ?_
  refine fn_iald (f := A 40) (k := 0) hx hb hK hP 0 mkM_a40 rfl (rfl) (by decide) (by decide) (fh_d d_Mo_walk 34 rfl) ?_
  refine lv_if_ne (tgt := 68) hx hb (fh_d d_Mo_walk 35 rfl) rfl (fun c3 => absurd c3 (fun z => z h40)) (fun c3 => ?_)
  refine lv_aload_n hx hb (fh_d d_Mo_walk 36 rfl) rfl (lv_at hl 3 rfl) ?_
  refine fh_get (own := "FormulaSetterModel") (ref := "FormulaSetterModel") (C := "FormulaSetterModel") (T := T_Mo) (N := 53) (v := .ref (x + 7)) hx hb hT i_Mo hown hK hP mkM_o rfl 12 (by decide) (hT _ w872) (fun _ h9 => h9) rfl (fh_d d_Mo_walk 37 rfl) ?_
  refine lv_iload_n hx hb (fh_d d_Mo_walk 38 rfl) rfl (lv_at hl 1 rfl) ?_
  refine fn_iald (f := A 6) (k := 0) hx hb hK hP 0 mkM_a6 rfl (h17) (by decide) (by decide) (fh_d d_Mo_walk 39 rfl) ?_
  refine lv_goto (tgt := 79) hx hb (fh_d d_Mo_walk 40 rfl) rfl ?_
  refine fn_iast (f := A 40) (k := 0) hx hb hK hP hS 0 mkM_a40 rfl (rfl) (by decide) (by decide) (fh_d d_Mo_walk 48 rfl) (fun H locs hP hS => ?_)
  replace hP := fh_P.eq (h' := mkM ct x g (up2 A 40 (upd (A 40) 0 ((A 6) 0))) th co at_ wr no nu 1 pi wi he de) hP mkM_u40
  refine lv_aload_n hx hb (fh_d d_Mo_walk 49 rfl) rfl (lv_at hl 3 rfl) ?_
  refine fh_get (own := "FormulaSetterModel") (ref := "FormulaSetterModel") (C := "FormulaSetterModel") (T := T_Mo) (N := 53) (v := .ref (x + 41)) hx hb hT i_Mo hown hK hP mkM_o rfl 47 (by decide) (hT _ w907) (fun _ h9 => h9) rfl (fh_d d_Mo_walk 50 rfl) ?_
  refine lv_iload_n hx hb (fh_d d_Mo_walk 51 rfl) rfl (lv_at hl 2 rfl) ?_
  refine fn_iald (f := upd (A 40) 0 ((A 6) 0)) (k := 0) hx hb hK hP 0 mkM_a40 rfl (rfl) (by decide) (by decide) (fh_d d_Mo_walk 52 rfl) ?_
  refine lv_if_le (tgt := 100) hx hb (fh_d d_Mo_walk 53 rfl) rfl (fun c4 => ?_) (fun c4 => absurd c4 (fun z => z (by simp [upd, h6])))
  refine lv_aload_n hx hb (fh_d d_Mo_walk 61 rfl) rfl (lv_at hl 3 rfl) ?_
  refine fh_get (own := "FormulaSetterModel") (ref := "FormulaSetterModel") (C := "FormulaSetterModel") (T := T_Mo) (N := 53) (v := .ref (x + 40)) hx hb hT i_Mo hown hK hP mkM_o rfl 46 (by decide) (hT _ w906) (fun _ h9 => h9) rfl (fh_d d_Mo_walk 62 rfl) ?_
  refine lv_iload_n hx hb (fh_d d_Mo_walk 63 rfl) rfl (lv_at hl 2 rfl) ?_
  refine lv_iconst (v := 2) hx hb (fh_d d_Mo_walk 64 rfl) (by decide) ?_
  refine fn_iast (f := A 39) (k := 0) hx hb hK hP hS 0 mkM_a39 rfl (rfl) (by decide) (by decide) (fh_d d_Mo_walk 65 rfl) (fun H locs hP hS => ?_)
  replace hP := fh_P.eq (h' := mkM ct x g (up2 (up2 A 40 (upd (A 40) 0 ((A 6) 0))) 39 (upd (A 39) 0 2)) th co at_ wr no nu 1 pi wi he de) hP mkM_u39
  exact fh_vret X hP hS (fh_d d_Mo_walk 66 rfl) ⟨rfl, rfl, rfl⟩

set_option maxHeartbeats 4000000 in
set_option maxRecDepth 100000 in
theorem m_Mo_walkE2 (l : Launch) (D : va_G) (ct : Nat → ClassId) (b : Nat) (RO : State → Prop) (r : Nat) (n x : Nat) (g : fh_H) (A : Nat → Nat → Int32) (th co at_ wr no nu pi wi he de : Int32) (h12 : A 12 0 = 0) (h13 : A 13 0 = 0) (h17 : A 17 0 = 0) (h39 : A 39 0 = 2) : fh_C l D fh_cl (fh_tys ct) b RO y_Mo_walk (Cond.code y_Mo_walk c_Mo_walk 5 (Option.none : Option FieldType) :: fh_T) (fh_rm r 0 0) [.ref x] (mkM ct x g A th co at_ wr no nu 1 pi wi he de) n (fun v h' n' => v = none ∧ h' = mkM ct x g (up2 A 39 (upd (A 39) 0 ((A 39) 0 + 1))) th co at_ wr no nu 1 pi wi he de ∧ n' = n) 0 0 := by
  refine fh_enter (by decide) (Nat.le_of_ble_eq_true rfl) [(0, .ref x)] rfl ?_
  intro p e s m args below meth c H ls X hP hS hl
  have hx := X.1
  have hb := X.2.1
  have hml := X.2.2.1
  have hown : s.vm.findClass "FormulaSetterModel" = some m.cls := X.2.2.2.1
  have hT := X.2.2.2.2.1
  have hK := X.2.2.2.2.2.1
  have hRO := X.2.2.2.2.2.2.1
  have hnm : meth.name = "walk" := X.2.2.2.2.2.2.2.2.2.2
  refine lv_aload_n hx hb (fh_d d_Mo_walk 0 rfl) rfl (lv_at hl 0 rfl) ?_
  refine fh_get (own := "FormulaSetterModel") (ref := "FormulaSetterModel") (C := "FormulaSetterModel") (T := T_Mo) (N := 53) (v := .int 1) hx hb hT i_Mo hown hK hP mkM_o rfl 22 (by decide) (hT _ w882) (fun _ h9 => h9) rfl (fh_d d_Mo_walk 1 rfl) ?_
  refine lv_iconst (v := 1) hx hb (fh_d d_Mo_walk 2 rfl) (by decide) ?_
  refine lv_isub hx hb (fh_d d_Mo_walk 3 rfl) ?_
  refine lv_istore_n (lv' := [(1, .int (1 - 1)), (0, .ref x)]) hx hb (fh_d d_Mo_walk 4 rfl) rfl hl (by decide) rfl (fun ls hl => ?_)
  refine lv_aload_n hx hb (fh_d d_Mo_walk 5 rfl) rfl (lv_at hl 1 rfl) ?_
  refine fh_get (own := "FormulaSetterModel") (ref := "FormulaSetterModel") (C := "FormulaSetterModel") (T := T_Mo) (N := 53) (v := .ref (x + 18)) hx hb hT i_Mo hown hK hP mkM_o rfl 24 (by decide) (hT _ w884) (fun _ h9 => h9) rfl (fh_d d_Mo_walk 6 rfl) ?_
  refine lv_iload_n hx hb (fh_d d_Mo_walk 7 rfl) rfl (lv_at hl 0 rfl) ?_
  refine fn_iald (f := A 17) (k := 0) hx hb hK hP 0 mkM_a17 rfl (rfl) (by decide) (by decide) (fh_d d_Mo_walk 8 rfl) ?_
  refine lv_istore_n (lv' := [(2, .int ((A 17) 0)), (1, .int (1 - 1)), (0, .ref x)]) hx hb (fh_d d_Mo_walk 9 rfl) rfl hl (by decide) rfl (fun ls hl => ?_)
  refine lv_aload_n hx hb (fh_d d_Mo_walk 10 rfl) rfl (lv_at hl 2 rfl) ?_
  refine fh_get (own := "FormulaSetterModel") (ref := "FormulaSetterModel") (C := "FormulaSetterModel") (T := T_Mo) (N := 53) (v := .ref (x + 40)) hx hb hT i_Mo hown hK hP mkM_o rfl 46 (by decide) (hT _ w906) (fun _ h9 => h9) rfl (fh_d d_Mo_walk 11 rfl) ?_
  refine lv_iload_n hx hb (fh_d d_Mo_walk 12 rfl) rfl (lv_at hl 1 rfl) ?_
  refine fn_iald (f := A 39) (k := 0) hx hb hK hP 0 mkM_a39 rfl (rfl) (by decide) (by decide) (fh_d d_Mo_walk 13 rfl) ?_
  refine lv_istore_n (lv' := [(3, .int ((A 39) 0)), (2, .int ((A 17) 0)), (1, .int (1 - 1)), (0, .ref x)]) hx hb (fh_d d_Mo_walk 14 rfl) rfl hl (by decide) rfl (fun ls hl => ?_)
  rw [h39] at hl
  refine lv_iload_n hx hb (fh_d d_Mo_walk 15 rfl) rfl (lv_at hl 0 rfl) ?_
  refine lv_if_ne (tgt := 108) hx hb (fh_d d_Mo_walk 16 rfl) rfl (fun c1 => ?_) (fun c1 => absurd c1 (by decide))
  refine lv_aload_n hx hb (fh_d d_Mo_walk 67 rfl) rfl (lv_at hl 3 rfl) ?_
  refine fh_get (own := "FormulaSetterModel") (ref := "FormulaSetterModel") (C := "FormulaSetterModel") (T := T_Mo) (N := 53) (v := .ref (x + 40)) hx hb hT i_Mo hown hK hP mkM_o rfl 46 (by decide) (hT _ w906) (fun _ h9 => h9) rfl (fh_d d_Mo_walk 68 rfl) ?_
  refine lv_iload_n hx hb (fh_d d_Mo_walk 69 rfl) rfl (lv_at hl 2 rfl) ?_
  refine lv_dup2_11 hx hb (fh_d d_Mo_walk 70 rfl) rfl rfl ?_
  refine fn_iald (f := A 39) (k := 0) hx hb hK hP 0 mkM_a39 rfl (rfl) (by decide) (by decide) (fh_d d_Mo_walk 71 rfl) ?_
  refine lv_iconst (v := 1) hx hb (fh_d d_Mo_walk 72 rfl) (by decide) ?_
  refine lv_iadd hx hb (fh_d d_Mo_walk 73 rfl) ?_
  refine fn_iast (f := A 39) (k := 0) hx hb hK hP hS 0 mkM_a39 rfl (rfl) (by decide) (by decide) (fh_d d_Mo_walk 74 rfl) (fun H locs hP hS => ?_)
  replace hP := fh_P.eq (h' := mkM ct x g (up2 A 39 (upd (A 39) 0 (((A 39) 0) + 1))) th co at_ wr no nu 1 pi wi he de) hP mkM_u39
  refine lv_iload_n hx hb (fh_d d_Mo_walk 75 rfl) rfl (lv_at hl 0 rfl) ?_
  refine lv_if_ne (tgt := 131) hx hb (fh_d d_Mo_walk 76 rfl) rfl (fun c2 => ?_) (fun c2 => absurd c2 (by decide))
  refine lv_iload_n hx hb (fh_d d_Mo_walk 82 rfl) rfl (lv_at hl 0 rfl) ?_
  refine lv_iconst (v := 1) hx hb (fh_d d_Mo_walk 83 rfl) (by decide) ?_
  refine lv_icmp_ne (tgt := 145) hx hb (fh_d d_Mo_walk 84 rfl) rfl (fun c3 => ?_) (fun c3 => absurd c3 (by decide))
  refine lv_iload_n hx hb (fh_d d_Mo_walk 90 rfl) rfl (lv_at hl 0 rfl) ?_
  refine lv_iconst (v := 2) hx hb (fh_d d_Mo_walk 91 rfl) (by decide) ?_
  refine lv_icmp_ne (tgt := 159) hx hb (fh_d d_Mo_walk 92 rfl) rfl (fun c4 => absurd c4 (Classical.not_not.mpr (by decide))) (fun c4 => ?_)
  refine lv_aload_n hx hb (fh_d d_Mo_walk 93 rfl) rfl (lv_at hl 3 rfl) ?_
  refine fh_get (own := "FormulaSetterModel") (ref := "FormulaSetterModel") (C := "FormulaSetterModel") (T := T_Mo) (N := 53) (v := .ref (x + 13)) hx hb hT i_Mo hown hK hP mkM_o rfl 18 (by decide) (hT _ w878) (fun _ h9 => h9) rfl (fh_d d_Mo_walk 94 rfl) ?_
  refine lv_iload_n hx hb (fh_d d_Mo_walk 95 rfl) rfl (lv_at hl 1 rfl) ?_
  refine fn_iald (f := A 12) (k := 0) hx hb hK hP 0 mkM_a12 rfl (h17) (by decide) (by decide) (fh_d d_Mo_walk 96 rfl) ?_
  refine lv_goto (tgt := 174) hx hb (fh_d d_Mo_walk 97 rfl) rfl ?_
  refine lv_istore (lv' := [(4, .int ((A 12) 0)), (3, .int 2), (2, .int ((A 17) 0)), (1, .int (1 - 1)), (0, .ref x)]) hx hb (fh_d d_Mo_walk 107 rfl) hl (by decide) rfl (fun ls hl => ?_)
  refine lv_iload_n hx hb (fh_d d_Mo_walk 108 rfl) rfl (lv_at hl 1 rfl) ?_
  refine lv_if_ne (tgt := 188) hx hb (fh_d d_Mo_walk 109 rfl) rfl (fun c5 => ?_) (fun c5 => absurd c5 (by decide))
  refine lv_iload_n hx hb (fh_d d_Mo_walk 114 rfl) rfl (lv_at hl 1 rfl) ?_
  refine lv_iconst (v := 1) hx hb (fh_d d_Mo_walk 115 rfl) (by decide) ?_
  refine lv_icmp_ne (tgt := 198) hx hb (fh_d d_Mo_walk 116 rfl) rfl (fun c6 => ?_) (fun c6 => absurd c6 (by decide))
  refine lv_iload_n hx hb (fh_d d_Mo_walk 120 rfl) rfl (lv_at hl 1 rfl) ?_
  refine lv_iconst (v := 4) hx hb (fh_d d_Mo_walk 121 rfl) (by decide) ?_
  refine lv_icmp_ne (tgt := 216) hx hb (fh_d d_Mo_walk 122 rfl) rfl (fun c7 => ?_) (fun c7 => absurd c7 (by decide))
  refine lv_iload hx hb (fh_d d_Mo_walk 130 rfl) (lv_at hl 0 rfl) ?_
  refine lv_if_le (tgt := 227) hx hb (fh_d d_Mo_walk 131 rfl) rfl (fun c8 => ?_) (fun c8 => absurd c8 (fun z => z (by rw [h12]; decide)))
  exact fh_vret X hP hS (fh_d d_Mo_walk 135 rfl) ⟨rfl, rfl, rfl⟩

set_option maxHeartbeats 4000000 in
set_option maxRecDepth 100000 in
theorem m_Mo_walkE3 (l : Launch) (D : va_G) (ct : Nat → ClassId) (b : Nat) (RO : State → Prop) (r : Nat) (n x : Nat) (g : fh_H) (A : Nat → Nat → Int32) (th co at_ wr no nu pi wi he de : Int32) (h12 : A 12 0 = 0) (h13 : A 13 0 = 0) (h17 : A 17 0 = 0) (h39 : A 39 0 = 3) : fh_C l D fh_cl (fh_tys ct) b RO y_Mo_walk (Cond.code y_Mo_walk c_Mo_walk 5 (Option.none : Option FieldType) :: fh_T) (fh_rm r 0 0) [.ref x] (mkM ct x g A th co at_ wr no nu 1 pi wi he de) n (fun v h' n' => v = none ∧ h' = mkM ct x g (up2 A 39 (upd (A 39) 0 ((A 39) 0 + 1))) th co at_ wr no nu 1 pi wi he de ∧ n' = n) 0 0 := by
  refine fh_enter (by decide) (Nat.le_of_ble_eq_true rfl) [(0, .ref x)] rfl ?_
  intro p e s m args below meth c H ls X hP hS hl
  have hx := X.1
  have hb := X.2.1
  have hml := X.2.2.1
  have hown : s.vm.findClass "FormulaSetterModel" = some m.cls := X.2.2.2.1
  have hT := X.2.2.2.2.1
  have hK := X.2.2.2.2.2.1
  have hRO := X.2.2.2.2.2.2.1
  have hnm : meth.name = "walk" := X.2.2.2.2.2.2.2.2.2.2
  refine lv_aload_n hx hb (fh_d d_Mo_walk 0 rfl) rfl (lv_at hl 0 rfl) ?_
  refine fh_get (own := "FormulaSetterModel") (ref := "FormulaSetterModel") (C := "FormulaSetterModel") (T := T_Mo) (N := 53) (v := .int 1) hx hb hT i_Mo hown hK hP mkM_o rfl 22 (by decide) (hT _ w882) (fun _ h9 => h9) rfl (fh_d d_Mo_walk 1 rfl) ?_
  refine lv_iconst (v := 1) hx hb (fh_d d_Mo_walk 2 rfl) (by decide) ?_
  refine lv_isub hx hb (fh_d d_Mo_walk 3 rfl) ?_
  refine lv_istore_n (lv' := [(1, .int (1 - 1)), (0, .ref x)]) hx hb (fh_d d_Mo_walk 4 rfl) rfl hl (by decide) rfl (fun ls hl => ?_)
  refine lv_aload_n hx hb (fh_d d_Mo_walk 5 rfl) rfl (lv_at hl 1 rfl) ?_
  refine fh_get (own := "FormulaSetterModel") (ref := "FormulaSetterModel") (C := "FormulaSetterModel") (T := T_Mo) (N := 53) (v := .ref (x + 18)) hx hb hT i_Mo hown hK hP mkM_o rfl 24 (by decide) (hT _ w884) (fun _ h9 => h9) rfl (fh_d d_Mo_walk 6 rfl) ?_
  refine lv_iload_n hx hb (fh_d d_Mo_walk 7 rfl) rfl (lv_at hl 0 rfl) ?_
  refine fn_iald (f := A 17) (k := 0) hx hb hK hP 0 mkM_a17 rfl (rfl) (by decide) (by decide) (fh_d d_Mo_walk 8 rfl) ?_
  refine lv_istore_n (lv' := [(2, .int ((A 17) 0)), (1, .int (1 - 1)), (0, .ref x)]) hx hb (fh_d d_Mo_walk 9 rfl) rfl hl (by decide) rfl (fun ls hl => ?_)
  refine lv_aload_n hx hb (fh_d d_Mo_walk 10 rfl) rfl (lv_at hl 2 rfl) ?_
  refine fh_get (own := "FormulaSetterModel") (ref := "FormulaSetterModel") (C := "FormulaSetterModel") (T := T_Mo) (N := 53) (v := .ref (x + 40)) hx hb hT i_Mo hown hK hP mkM_o rfl 46 (by decide) (hT _ w906) (fun _ h9 => h9) rfl (fh_d d_Mo_walk 11 rfl) ?_
  refine lv_iload_n hx hb (fh_d d_Mo_walk 12 rfl) rfl (lv_at hl 1 rfl) ?_
  refine fn_iald (f := A 39) (k := 0) hx hb hK hP 0 mkM_a39 rfl (rfl) (by decide) (by decide) (fh_d d_Mo_walk 13 rfl) ?_
  refine lv_istore_n (lv' := [(3, .int ((A 39) 0)), (2, .int ((A 17) 0)), (1, .int (1 - 1)), (0, .ref x)]) hx hb (fh_d d_Mo_walk 14 rfl) rfl hl (by decide) rfl (fun ls hl => ?_)
  rw [h39] at hl
  refine lv_iload_n hx hb (fh_d d_Mo_walk 15 rfl) rfl (lv_at hl 0 rfl) ?_
  refine lv_if_ne (tgt := 108) hx hb (fh_d d_Mo_walk 16 rfl) rfl (fun c1 => ?_) (fun c1 => absurd c1 (by decide))
  refine lv_aload_n hx hb (fh_d d_Mo_walk 67 rfl) rfl (lv_at hl 3 rfl) ?_
  refine fh_get (own := "FormulaSetterModel") (ref := "FormulaSetterModel") (C := "FormulaSetterModel") (T := T_Mo) (N := 53) (v := .ref (x + 40)) hx hb hT i_Mo hown hK hP mkM_o rfl 46 (by decide) (hT _ w906) (fun _ h9 => h9) rfl (fh_d d_Mo_walk 68 rfl) ?_
  refine lv_iload_n hx hb (fh_d d_Mo_walk 69 rfl) rfl (lv_at hl 2 rfl) ?_
  refine lv_dup2_11 hx hb (fh_d d_Mo_walk 70 rfl) rfl rfl ?_
  refine fn_iald (f := A 39) (k := 0) hx hb hK hP 0 mkM_a39 rfl (rfl) (by decide) (by decide) (fh_d d_Mo_walk 71 rfl) ?_
  refine lv_iconst (v := 1) hx hb (fh_d d_Mo_walk 72 rfl) (by decide) ?_
  refine lv_iadd hx hb (fh_d d_Mo_walk 73 rfl) ?_
  refine fn_iast (f := A 39) (k := 0) hx hb hK hP hS 0 mkM_a39 rfl (rfl) (by decide) (by decide) (fh_d d_Mo_walk 74 rfl) (fun H locs hP hS => ?_)
  replace hP := fh_P.eq (h' := mkM ct x g (up2 A 39 (upd (A 39) 0 (((A 39) 0) + 1))) th co at_ wr no nu 1 pi wi he de) hP mkM_u39
  refine lv_iload_n hx hb (fh_d d_Mo_walk 75 rfl) rfl (lv_at hl 0 rfl) ?_
  refine lv_if_ne (tgt := 131) hx hb (fh_d d_Mo_walk 76 rfl) rfl (fun c2 => ?_) (fun c2 => absurd c2 (by decide))
  refine lv_iload_n hx hb (fh_d d_Mo_walk 82 rfl) rfl (lv_at hl 0 rfl) ?_
  refine lv_iconst (v := 1) hx hb (fh_d d_Mo_walk 83 rfl) (by decide) ?_
  refine lv_icmp_ne (tgt := 145) hx hb (fh_d d_Mo_walk 84 rfl) rfl (fun c3 => ?_) (fun c3 => absurd c3 (by decide))
  refine lv_iload_n hx hb (fh_d d_Mo_walk 90 rfl) rfl (lv_at hl 0 rfl) ?_
  refine lv_iconst (v := 2) hx hb (fh_d d_Mo_walk 91 rfl) (by decide) ?_
  refine lv_icmp_ne (tgt := 159) hx hb (fh_d d_Mo_walk 92 rfl) rfl (fun c4 => ?_) (fun c4 => absurd c4 (by decide))
  refine lv_iload_n hx hb (fh_d d_Mo_walk 98 rfl) rfl (lv_at hl 0 rfl) ?_
  refine lv_iconst (v := 3) hx hb (fh_d d_Mo_walk 99 rfl) (by decide) ?_
  refine lv_icmp_ne (tgt := 173) hx hb (fh_d d_Mo_walk 100 rfl) rfl (fun c5 => absurd c5 (Classical.not_not.mpr (by decide))) (fun c5 => ?_)
  refine lv_aload_n hx hb (fh_d d_Mo_walk 101 rfl) rfl (lv_at hl 3 rfl) ?_
  refine fh_get (own := "FormulaSetterModel") (ref := "FormulaSetterModel") (C := "FormulaSetterModel") (T := T_Mo) (N := 53) (v := .ref (x + 14)) hx hb hT i_Mo hown hK hP mkM_o rfl 19 (by decide) (hT _ w879) (fun _ h9 => h9) rfl (fh_d d_Mo_walk 102 rfl) ?_
  refine lv_iload_n hx hb (fh_d d_Mo_walk 103 rfl) rfl (lv_at hl 1 rfl) ?_
  refine fn_iald (f := A 13) (k := 0) hx hb hK hP 0 mkM_a13 rfl (h17) (by decide) (by decide) (fh_d d_Mo_walk 104 rfl) ?_
  refine lv_goto (tgt := 174) hx hb (fh_d d_Mo_walk 105 rfl) rfl ?_
  refine lv_istore (lv' := [(4, .int ((A 13) 0)), (3, .int 3), (2, .int ((A 17) 0)), (1, .int (1 - 1)), (0, .ref x)]) hx hb (fh_d d_Mo_walk 107 rfl) hl (by decide) rfl (fun ls hl => ?_)
  refine lv_iload_n hx hb (fh_d d_Mo_walk 108 rfl) rfl (lv_at hl 1 rfl) ?_
  refine lv_if_ne (tgt := 188) hx hb (fh_d d_Mo_walk 109 rfl) rfl (fun c6 => ?_) (fun c6 => absurd c6 (by decide))
  refine lv_iload_n hx hb (fh_d d_Mo_walk 114 rfl) rfl (lv_at hl 1 rfl) ?_
  refine lv_iconst (v := 1) hx hb (fh_d d_Mo_walk 115 rfl) (by decide) ?_
  refine lv_icmp_ne (tgt := 198) hx hb (fh_d d_Mo_walk 116 rfl) rfl (fun c7 => ?_) (fun c7 => absurd c7 (by decide))
  refine lv_iload_n hx hb (fh_d d_Mo_walk 120 rfl) rfl (lv_at hl 1 rfl) ?_
  refine lv_iconst (v := 4) hx hb (fh_d d_Mo_walk 121 rfl) (by decide) ?_
  refine lv_icmp_ne (tgt := 216) hx hb (fh_d d_Mo_walk 122 rfl) rfl (fun c8 => ?_) (fun c8 => absurd c8 (by decide))
  refine lv_iload hx hb (fh_d d_Mo_walk 130 rfl) (lv_at hl 0 rfl) ?_
  refine lv_if_le (tgt := 227) hx hb (fh_d d_Mo_walk 131 rfl) rfl (fun c9 => ?_) (fun c9 => absurd c9 (fun z => z (by rw [h13]; decide)))
  exact fh_vret X hP hS (fh_d d_Mo_walk 135 rfl) ⟨rfl, rfl, rfl⟩

set_option maxHeartbeats 4000000 in
set_option maxRecDepth 100000 in
theorem m_Mo_walkE4 (l : Launch) (D : va_G) (ct : Nat → ClassId) (b : Nat) (RO : State → Prop) (r : Nat) (n x : Nat) (g : fh_H) (A : Nat → Nat → Int32) (th co at_ wr no nu pi wi he de : Int32) (h12 : A 12 0 = 0) (h13 : A 13 0 = 0) (h17 : A 17 0 = 0) (h39 : A 39 0 = 4) : fh_C l D fh_cl (fh_tys ct) b RO y_Mo_walk (Cond.code y_Mo_walk c_Mo_walk 5 (Option.none : Option FieldType) :: fh_T) (fh_rm r 0 0) [.ref x] (mkM ct x g A th co at_ wr no nu 1 pi wi he de) n (fun v h' n' => v = none ∧ h' = mkM ct x g (up2 A 39 (upd (A 39) 0 ((A 39) 0 + 1))) th co at_ wr no nu 0 pi wi he de ∧ n' = n) 0 0 := by
  refine fh_enter (by decide) (Nat.le_of_ble_eq_true rfl) [(0, .ref x)] rfl ?_
  intro p e s m args below meth c H ls X hP hS hl
  have hx := X.1
  have hb := X.2.1
  have hml := X.2.2.1
  have hown : s.vm.findClass "FormulaSetterModel" = some m.cls := X.2.2.2.1
  have hT := X.2.2.2.2.1
  have hK := X.2.2.2.2.2.1
  have hRO := X.2.2.2.2.2.2.1
  have hnm : meth.name = "walk" := X.2.2.2.2.2.2.2.2.2.2
  refine lv_aload_n hx hb (fh_d d_Mo_walk 0 rfl) rfl (lv_at hl 0 rfl) ?_
  refine fh_get (own := "FormulaSetterModel") (ref := "FormulaSetterModel") (C := "FormulaSetterModel") (T := T_Mo) (N := 53) (v := .int 1) hx hb hT i_Mo hown hK hP mkM_o rfl 22 (by decide) (hT _ w882) (fun _ h9 => h9) rfl (fh_d d_Mo_walk 1 rfl) ?_
  refine lv_iconst (v := 1) hx hb (fh_d d_Mo_walk 2 rfl) (by decide) ?_
  refine lv_isub hx hb (fh_d d_Mo_walk 3 rfl) ?_
  refine lv_istore_n (lv' := [(1, .int (1 - 1)), (0, .ref x)]) hx hb (fh_d d_Mo_walk 4 rfl) rfl hl (by decide) rfl (fun ls hl => ?_)
  refine lv_aload_n hx hb (fh_d d_Mo_walk 5 rfl) rfl (lv_at hl 1 rfl) ?_
  refine fh_get (own := "FormulaSetterModel") (ref := "FormulaSetterModel") (C := "FormulaSetterModel") (T := T_Mo) (N := 53) (v := .ref (x + 18)) hx hb hT i_Mo hown hK hP mkM_o rfl 24 (by decide) (hT _ w884) (fun _ h9 => h9) rfl (fh_d d_Mo_walk 6 rfl) ?_
  refine lv_iload_n hx hb (fh_d d_Mo_walk 7 rfl) rfl (lv_at hl 0 rfl) ?_
  refine fn_iald (f := A 17) (k := 0) hx hb hK hP 0 mkM_a17 rfl (rfl) (by decide) (by decide) (fh_d d_Mo_walk 8 rfl) ?_
  refine lv_istore_n (lv' := [(2, .int ((A 17) 0)), (1, .int (1 - 1)), (0, .ref x)]) hx hb (fh_d d_Mo_walk 9 rfl) rfl hl (by decide) rfl (fun ls hl => ?_)
  refine lv_aload_n hx hb (fh_d d_Mo_walk 10 rfl) rfl (lv_at hl 2 rfl) ?_
  refine fh_get (own := "FormulaSetterModel") (ref := "FormulaSetterModel") (C := "FormulaSetterModel") (T := T_Mo) (N := 53) (v := .ref (x + 40)) hx hb hT i_Mo hown hK hP mkM_o rfl 46 (by decide) (hT _ w906) (fun _ h9 => h9) rfl (fh_d d_Mo_walk 11 rfl) ?_
  refine lv_iload_n hx hb (fh_d d_Mo_walk 12 rfl) rfl (lv_at hl 1 rfl) ?_
  refine fn_iald (f := A 39) (k := 0) hx hb hK hP 0 mkM_a39 rfl (rfl) (by decide) (by decide) (fh_d d_Mo_walk 13 rfl) ?_
  refine lv_istore_n (lv' := [(3, .int ((A 39) 0)), (2, .int ((A 17) 0)), (1, .int (1 - 1)), (0, .ref x)]) hx hb (fh_d d_Mo_walk 14 rfl) rfl hl (by decide) rfl (fun ls hl => ?_)
  rw [h39] at hl
  refine lv_iload_n hx hb (fh_d d_Mo_walk 15 rfl) rfl (lv_at hl 0 rfl) ?_
  refine lv_if_ne (tgt := 108) hx hb (fh_d d_Mo_walk 16 rfl) rfl (fun c1 => ?_) (fun c1 => absurd c1 (by decide))
  refine lv_aload_n hx hb (fh_d d_Mo_walk 67 rfl) rfl (lv_at hl 3 rfl) ?_
  refine fh_get (own := "FormulaSetterModel") (ref := "FormulaSetterModel") (C := "FormulaSetterModel") (T := T_Mo) (N := 53) (v := .ref (x + 40)) hx hb hT i_Mo hown hK hP mkM_o rfl 46 (by decide) (hT _ w906) (fun _ h9 => h9) rfl (fh_d d_Mo_walk 68 rfl) ?_
  refine lv_iload_n hx hb (fh_d d_Mo_walk 69 rfl) rfl (lv_at hl 2 rfl) ?_
  refine lv_dup2_11 hx hb (fh_d d_Mo_walk 70 rfl) rfl rfl ?_
  refine fn_iald (f := A 39) (k := 0) hx hb hK hP 0 mkM_a39 rfl (rfl) (by decide) (by decide) (fh_d d_Mo_walk 71 rfl) ?_
  refine lv_iconst (v := 1) hx hb (fh_d d_Mo_walk 72 rfl) (by decide) ?_
  refine lv_iadd hx hb (fh_d d_Mo_walk 73 rfl) ?_
  refine fn_iast (f := A 39) (k := 0) hx hb hK hP hS 0 mkM_a39 rfl (rfl) (by decide) (by decide) (fh_d d_Mo_walk 74 rfl) (fun H locs hP hS => ?_)
  replace hP := fh_P.eq (h' := mkM ct x g (up2 A 39 (upd (A 39) 0 (((A 39) 0) + 1))) th co at_ wr no nu 1 pi wi he de) hP mkM_u39
  refine lv_iload_n hx hb (fh_d d_Mo_walk 75 rfl) rfl (lv_at hl 0 rfl) ?_
  refine lv_if_ne (tgt := 131) hx hb (fh_d d_Mo_walk 76 rfl) rfl (fun c2 => ?_) (fun c2 => absurd c2 (by decide))
  refine lv_iload_n hx hb (fh_d d_Mo_walk 82 rfl) rfl (lv_at hl 0 rfl) ?_
  refine lv_iconst (v := 1) hx hb (fh_d d_Mo_walk 83 rfl) (by decide) ?_
  refine lv_icmp_ne (tgt := 145) hx hb (fh_d d_Mo_walk 84 rfl) rfl (fun c3 => ?_) (fun c3 => absurd c3 (by decide))
  refine lv_iload_n hx hb (fh_d d_Mo_walk 90 rfl) rfl (lv_at hl 0 rfl) ?_
  refine lv_iconst (v := 2) hx hb (fh_d d_Mo_walk 91 rfl) (by decide) ?_
  refine lv_icmp_ne (tgt := 159) hx hb (fh_d d_Mo_walk 92 rfl) rfl (fun c4 => ?_) (fun c4 => absurd c4 (by decide))
  refine lv_iload_n hx hb (fh_d d_Mo_walk 98 rfl) rfl (lv_at hl 0 rfl) ?_
  refine lv_iconst (v := 3) hx hb (fh_d d_Mo_walk 99 rfl) (by decide) ?_
  refine lv_icmp_ne (tgt := 173) hx hb (fh_d d_Mo_walk 100 rfl) rfl (fun c5 => ?_) (fun c5 => absurd c5 (by decide))
  refine lv_iconst (v := 0) hx hb (fh_d d_Mo_walk 106 rfl) (by decide) ?_
  refine lv_istore (lv' := [(4, .int 0), (3, .int 4), (2, .int ((A 17) 0)), (1, .int (1 - 1)), (0, .ref x)]) hx hb (fh_d d_Mo_walk 107 rfl) hl (by decide) rfl (fun ls hl => ?_)
  refine lv_iload_n hx hb (fh_d d_Mo_walk 108 rfl) rfl (lv_at hl 1 rfl) ?_
  refine lv_if_ne (tgt := 188) hx hb (fh_d d_Mo_walk 109 rfl) rfl (fun c6 => ?_) (fun c6 => absurd c6 (by decide))
  refine lv_iload_n hx hb (fh_d d_Mo_walk 114 rfl) rfl (lv_at hl 1 rfl) ?_
  refine lv_iconst (v := 1) hx hb (fh_d d_Mo_walk 115 rfl) (by decide) ?_
  refine lv_icmp_ne (tgt := 198) hx hb (fh_d d_Mo_walk 116 rfl) rfl (fun c7 => ?_) (fun c7 => absurd c7 (by decide))
  refine lv_iload_n hx hb (fh_d d_Mo_walk 120 rfl) rfl (lv_at hl 1 rfl) ?_
  refine lv_iconst (v := 4) hx hb (fh_d d_Mo_walk 121 rfl) (by decide) ?_
  refine lv_icmp_ne (tgt := 216) hx hb (fh_d d_Mo_walk 122 rfl) rfl (fun c8 => absurd c8 (Classical.not_not.mpr (by decide))) (fun c8 => ?_)
  refine lv_aload_n hx hb (fh_d d_Mo_walk 123 rfl) rfl (lv_at hl 4 rfl) ?_
  refine lv_dup hx hb (fh_d d_Mo_walk 124 rfl) rfl ?_
  refine fh_get (own := "FormulaSetterModel") (ref := "FormulaSetterModel") (C := "FormulaSetterModel") (T := T_Mo) (N := 53) (v := .int 1) hx hb hT i_Mo hown hK hP mkM_o rfl 22 (by decide) (hT _ w882) (fun _ h9 => h9) rfl (fh_d d_Mo_walk 125 rfl) ?_
  refine lv_iconst (v := 1) hx hb (fh_d d_Mo_walk 126 rfl) (by decide) ?_
  refine lv_isub hx hb (fh_d d_Mo_walk 127 rfl) ?_
  refine fh_put (own := "FormulaSetterModel") (ref := "FormulaSetterModel") (C := "FormulaSetterModel") (T := T_Mo) (N := 53) (v := .int (1 - 1)) (ty := .int) hx hb hT i_Mo t_Mo k_Mo n_Mo hown hK hP hS mkM_o rfl 22 (by decide) (hT _ w882) (fun _ h9 => h9) rfl (by decide +kernel) rfl rfl (Nat.le_of_ble_eq_true rfl) (fh_d d_Mo_walk 128 rfl) (fun H locs hP hS => ?_)
  replace hP := fh_P.eq (h' := mkM ct x g (up2 A 39 (upd (A 39) 0 (((A 39) 0) + 1))) th co at_ wr no nu (1 - 1) pi wi he de) hP mkM_ux
  refine lv_goto (tgt := 227) hx hb (fh_d d_Mo_walk 129 rfl) rfl ?_
  exact fh_vret X hP hS (fh_d d_Mo_walk 135 rfl) ⟨rfl, rfl, rfl⟩
