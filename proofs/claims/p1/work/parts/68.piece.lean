/-! FormulaSetter.piece, both ways. Printed by wip/whole/gen/p68.py -/
set_option maxHeartbeats 4000000 in
set_option maxRecDepth 100000 in
theorem m_FS_piece (l : Launch) (D : va_G) (ct : Nat → ClassId) (b : Nat) (RO : State → Prop) (r n x c0 i0 w0 : Nat) (hc : c0 ≤ 120) (hi : i0 < c0) (hw : w0 < 6) (len w hh d : Int32) (F : Nat → Int32) (h : fh_H) (ho : h x = some (fs_o x len w hh d)) (ht : h (x + 226) = some (.inr (4, [.ref (x + 227), .ref (x + 229)]))) (hs : h (x + 227) = some (.inr (5, [.ref (x + 228), .int (nI c0)]))) (hf : h (x + 228) = some (.inl (ct 0, 720, .inl F))) : fh_C l D fh_cl (fh_tys ct) b RO y_FS_piece (Cond.code y_FS_piece c_FS_piece 4 (Option.some FieldType.int) :: fh_T) (fh_rm r 0 0) [.ref x, .int (nI i0), .int (nI w0)] h n (fun v h' n' => v = some (.int (F (i0 * 6 + w0))) ∧ h' = h ∧ n' = n) 0 0 := by
  refine fh_enter (by decide) (Nat.le_of_ble_eq_true rfl) [(0, .ref x), (1, .int (nI i0)), (2, .int (nI w0))] rfl ?_
  intro p e s m args below meth c H ls X hP hS hl
  have hx := X.1
  have hb := X.2.1
  have hml := X.2.2.1
  have hown : s.vm.findClass "FormulaSetter" = some m.cls := X.2.2.2.1
  have hT := X.2.2.2.2.1
  have hK := X.2.2.2.2.2.1
  have hRO := X.2.2.2.2.2.2.1
  have hnm : meth.name = "piece" := X.2.2.2.2.2.2.2.2.2.2
  refine lv_aload_n hx hb (fh_d d_FS_piece 0 rfl) rfl (lv_at hl 0 rfl) ?_
  refine fh_get (own := "FormulaSetter") (ref := "FormulaSetter") (C := "FormulaSetter") (T := T_FS) (N := 7) (v := .ref (x + 226)) hx hb hT i_FS hown hK hP ho rfl 2 (by decide) (hT _ w257) (fun _ h9 => h9) rfl (fh_d d_FS_piece 1 rfl) ?_
  refine fh_get (own := "FormulaSetter") (ref := "FormulaSetter$Typesetter") (C := "FormulaSetter$Typesetter") (T := T_Ty) (N := 2) (v := .ref (x + 227)) hx hb hT i_Ty hown hK hP ht rfl 0 (by decide) (hT _ w248) (fun _ h9 => h9) rfl (fh_d d_FS_piece 2 rfl) ?_
  refine lv_astore_n (lv' := [(3, .ref (x + 227)), (0, .ref x), (1, .int (nI i0)), (2, .int (nI w0))]) hx hb (fh_d d_FS_piece 3 rfl) rfl hl (by decide) rfl (fun ls hl => ?_)
  refine lv_iload_n hx hb (fh_d d_FS_piece 4 rfl) rfl (lv_at hl 2 rfl) ?_
  refine lv_if_lt (tgt := 30) hx hb (fh_d d_FS_piece 5 rfl) rfl (fun c1 => absurd c1 (nI_pos (by omega))) (fun c1 => ?_)
  refine lv_iload_n hx hb (fh_d d_FS_piece 6 rfl) rfl (lv_at hl 2 rfl) ?_
  refine lv_aload_n hx hb (fh_d d_FS_piece 7 rfl) rfl (lv_at hl 0 rfl) ?_
  refine fh_get (own := "FormulaSetter") (ref := "FormulaSetter$Sheet") (C := "FormulaSetter$Sheet") (T := T_Sh) (N := 2) (v := .int (nI c0)) hx hb hT i_Sh hown hK hP hs rfl 1 (by decide) (hT _ w218) (fun _ h9 => h9) rfl (fh_d d_FS_piece 8 rfl) ?_
  refine lv_icmp_ge (tgt := 30) hx hb (fh_d d_FS_piece 9 rfl) rfl (fun c2 => absurd c2 (fun z => by have := (nI_leI (a := c0) (b := i0) (by omega) (by omega)).mp z; omega)) (fun c2 => ?_)
  refine lv_iload_n hx hb (fh_d d_FS_piece 10 rfl) rfl (lv_at hl 3 rfl) ?_
  refine lv_if_lt (tgt := 30) hx hb (fh_d d_FS_piece 11 rfl) rfl (fun c3 => absurd c3 (nI_pos (by omega))) (fun c3 => ?_)
  refine lv_iload_n hx hb (fh_d d_FS_piece 12 rfl) rfl (lv_at hl 3 rfl) ?_
  refine lv_bipush (v := 6) hx hb (fh_d d_FS_piece 13 rfl) (by decide) ?_
  refine lv_icmp_lt (tgt := 40) hx hb (fh_d d_FS_piece 14 rfl) rfl (fun c4 => ?_) (fun c4 => absurd c4 (fun z => z ((nI_ltI (a := w0) (b := 6) (by omega) (by decide)).mpr hw)))
  refine lv_aload_n hx hb (fh_d d_FS_piece 20 rfl) rfl (lv_at hl 0 rfl) ?_
  refine fh_get (own := "FormulaSetter") (ref := "FormulaSetter$Sheet") (C := "FormulaSetter$Sheet") (T := T_Sh) (N := 2) (v := .ref (x + 228)) hx hb hT i_Sh hown hK hP hs rfl 0 (by decide) (hT _ w215) (fun _ h9 => h9) rfl (fh_d d_FS_piece 21 rfl) ?_
  refine lv_iload_n hx hb (fh_d d_FS_piece 22 rfl) rfl (lv_at hl 2 rfl) ?_
  refine lv_bipush (v := 6) hx hb (fh_d d_FS_piece 23 rfl) (by decide) ?_
  refine lv_imul hx hb (fh_d d_FS_piece 24 rfl) ?_
  refine lv_iload_n hx hb (fh_d d_FS_piece 25 rfl) rfl (lv_at hl 3 rfl) ?_
  refine lv_iadd hx hb (fh_d d_FS_piece 26 rfl) ?_
  refine fn_iald (f := F) (k := i0 * 6 + w0) hx hb hK hP 0 hf rfl (by rw [show (nI i0) * 6 = nI (i0 * 6) from pk_mul i0 6]; exact nI_add _ _) (by omega) (by decide) (fh_d d_FS_piece 27 rfl) ?_
  exact fh_iret X hP hS (fh_d d_FS_piece 28 rfl) ⟨rfl, rfl, rfl⟩

set_option maxHeartbeats 4000000 in
set_option maxRecDepth 100000 in
theorem m_FS_pieceT (l : Launch) (D : va_G) (ct : Nat → ClassId) (b : Nat) (RO : State → Prop) (hR : fh_R b RO) (sA sV : Nat → Nat) (hSt : ∀ U, RO U → ro_S b sA sV U) (htr : l.stackTraces = false) (hRX : ∀ U, RO U → ro_X b U) (r n x : Nat) (hr : 8 ≤ r) (cnt i1 w1 : Int32) (hbad : ¬ (¬ i1 < 0 ∧ i1 < cnt ∧ ¬ w1 < 0 ∧ w1 < 6)) (len w hh d : Int32) (F : Nat → Int32) (h : fh_H) (ho : h x = some (fs_o x len w hh d)) (ht : h (x + 226) = some (.inr (4, [.ref (x + 227), .ref (x + 229)]))) (hs : h (x + 227) = some (.inr (5, [.ref (x + 228), .int cnt]))) (hf : h (x + 228) = some (.inl (ct 0, 720, .inl F))) : fh_CT l D fh_cl (fh_tys ct) b RO y_FS_piece (Cond.code y_FS_piece c_FS_piece 4 (Option.some FieldType.int) :: fh_T) (fh_rm r 1 6) [.ref x, .int i1, .int w1] h n xO (fun h' n' => h' = h ∧ n' = n + 1) 1 6 := by
  refine fh_enterT (by decide) (Nat.le_of_ble_eq_true rfl) [(0, .ref x), (1, .int i1), (2, .int w1)] rfl ?_
  intro p e s m args below meth c H ls hout X hP hS hl
  have hx := X.1
  have hb := X.2.1
  have hml := X.2.2.1
  have hown : s.vm.findClass "FormulaSetter" = some m.cls := X.2.2.2.1
  have hT := X.2.2.2.2.1
  have hK := X.2.2.2.2.2.1
  have hRO := X.2.2.2.2.2.2.1
  have hnm : meth.name = "piece" := X.2.2.2.2.2.2.2.2.2.2
  refine lv_aload_n hx hb (fh_d d_FS_piece 0 rfl) rfl (lv_at hl 0 rfl) ?_
  refine fh_get (own := "FormulaSetter") (ref := "FormulaSetter") (C := "FormulaSetter") (T := T_FS) (N := 7) (v := .ref (x + 226)) hx hb hT i_FS hown hK hP ho rfl 2 (by decide) (hT _ w257) (fun _ h9 => h9) rfl (fh_d d_FS_piece 1 rfl) ?_
  refine fh_get (own := "FormulaSetter") (ref := "FormulaSetter$Typesetter") (C := "FormulaSetter$Typesetter") (T := T_Ty) (N := 2) (v := .ref (x + 227)) hx hb hT i_Ty hown hK hP ht rfl 0 (by decide) (hT _ w248) (fun _ h9 => h9) rfl (fh_d d_FS_piece 2 rfl) ?_
  refine lv_astore_n (lv' := [(3, .ref (x + 227)), (0, .ref x), (1, .int i1), (2, .int w1)]) hx hb (fh_d d_FS_piece 3 rfl) rfl hl (by decide) rfl (fun ls hl => ?_)
  refine lv_iload_n hx hb (fh_d d_FS_piece 4 rfl) rfl (lv_at hl 2 rfl) ?_
  refine lv_if_lt (tgt := 30) hx hb (fh_d d_FS_piece 5 rfl) rfl (fun c1 => ?_) (fun c1 => ?_)
  · exact fh_throw (cls := xO) (tx := "there is no such piece or no such fact of it") (ixn := 86) (ixs := 88) (ic := 90) (q := sA 10) X hR htr hRX (fun U h9 => ((hSt U h9).1 10 (by decide)).2.2.2.2) (by decide +kernel) (fun U h9 A => xO_own h9 A) w838 w839 w26 hout hP hS hl.1 (fh_d d_FS_piece 15 rfl) (fh_d d_FS_piece 16 rfl) (fh_d d_FS_piece 17 rfl) (fh_d d_FS_piece 18 rfl) (fh_d d_FS_piece 19 rfl) (by omega) ⟨Nat.le_refl _, Nat.le_refl _⟩ ⟨rfl, rfl⟩
  · refine lv_iload_n hx hb (fh_d d_FS_piece 6 rfl) rfl (lv_at hl 2 rfl) ?_
    refine lv_aload_n hx hb (fh_d d_FS_piece 7 rfl) rfl (lv_at hl 0 rfl) ?_
    refine fh_get (own := "FormulaSetter") (ref := "FormulaSetter$Sheet") (C := "FormulaSetter$Sheet") (T := T_Sh) (N := 2) (v := .int cnt) hx hb hT i_Sh hown hK hP hs rfl 1 (by decide) (hT _ w218) (fun _ h9 => h9) rfl (fh_d d_FS_piece 8 rfl) ?_
    refine lv_icmp_ge (tgt := 30) hx hb (fh_d d_FS_piece 9 rfl) rfl (fun c2 => ?_) (fun c2 => ?_)
    · exact fh_throw (cls := xO) (tx := "there is no such piece or no such fact of it") (ixn := 86) (ixs := 88) (ic := 90) (q := sA 10) X hR htr hRX (fun U h9 => ((hSt U h9).1 10 (by decide)).2.2.2.2) (by decide +kernel) (fun U h9 A => xO_own h9 A) w838 w839 w26 hout hP hS hl.1 (fh_d d_FS_piece 15 rfl) (fh_d d_FS_piece 16 rfl) (fh_d d_FS_piece 17 rfl) (fh_d d_FS_piece 18 rfl) (fh_d d_FS_piece 19 rfl) (by omega) ⟨Nat.le_refl _, Nat.le_refl _⟩ ⟨rfl, rfl⟩
    · refine lv_iload_n hx hb (fh_d d_FS_piece 10 rfl) rfl (lv_at hl 3 rfl) ?_
      refine lv_if_lt (tgt := 30) hx hb (fh_d d_FS_piece 11 rfl) rfl (fun c3 => ?_) (fun c3 => ?_)
      · exact fh_throw (cls := xO) (tx := "there is no such piece or no such fact of it") (ixn := 86) (ixs := 88) (ic := 90) (q := sA 10) X hR htr hRX (fun U h9 => ((hSt U h9).1 10 (by decide)).2.2.2.2) (by decide +kernel) (fun U h9 A => xO_own h9 A) w838 w839 w26 hout hP hS hl.1 (fh_d d_FS_piece 15 rfl) (fh_d d_FS_piece 16 rfl) (fh_d d_FS_piece 17 rfl) (fh_d d_FS_piece 18 rfl) (fh_d d_FS_piece 19 rfl) (by omega) ⟨Nat.le_refl _, Nat.le_refl _⟩ ⟨rfl, rfl⟩
      · refine lv_iload_n hx hb (fh_d d_FS_piece 12 rfl) rfl (lv_at hl 3 rfl) ?_
        refine lv_bipush (v := 6) hx hb (fh_d d_FS_piece 13 rfl) (by decide) ?_
        refine lv_icmp_lt (tgt := 40) hx hb (fh_d d_FS_piece 14 rfl) rfl (fun c4 => ?_) (fun c4 => ?_)
        · exact absurd ⟨c1, Int32.not_le.mp c2, c3, c4⟩ hbad
        · exact fh_throw (cls := xO) (tx := "there is no such piece or no such fact of it") (ixn := 86) (ixs := 88) (ic := 90) (q := sA 10) X hR htr hRX (fun U h9 => ((hSt U h9).1 10 (by decide)).2.2.2.2) (by decide +kernel) (fun U h9 A => xO_own h9 A) w838 w839 w26 hout hP hS hl.1 (fh_d d_FS_piece 15 rfl) (fh_d d_FS_piece 16 rfl) (fh_d d_FS_piece 17 rfl) (fh_d d_FS_piece 18 rfl) (fh_d d_FS_piece 19 rfl) (by omega) ⟨Nat.le_refl _, Nat.le_refl _⟩ ⟨rfl, rfl⟩
