/-! The reference: say, sayBefore, sayBehind, walk. Printed by wip/whole/gen/p98d.py -/
def rf_say (A : Nat → Nat → Int32) (P : Nat) (v0 v1 v2 v3 v4 v5 : Int32) : Nat → Nat → Int32 := up2 (up2 (up2 (up2 (up2 (up2 A 41 (upd (A 41) (6 * P) v0)) 41 (upd (upd (A 41) (6 * P) v0) (6 * P + 1) v1)) 41 (upd (upd (upd (A 41) (6 * P) v0) (6 * P + 1) v1) (6 * P + 2) v2)) 41 (upd (upd (upd (upd (A 41) (6 * P) v0) (6 * P + 1) v1) (6 * P + 2) v2) (6 * P + 3) v3)) 41 (upd (upd (upd (upd (upd (A 41) (6 * P) v0) (6 * P + 1) v1) (6 * P + 2) v2) (6 * P + 3) v3) (6 * P + 4) v4)) 41 (upd (upd (upd (upd (upd (upd (A 41) (6 * P) v0) (6 * P + 1) v1) (6 * P + 2) v2) (6 * P + 3) v3) (6 * P + 4) v4) (6 * P + 5) v5)
set_option maxHeartbeats 4000000 in
set_option maxRecDepth 100000 in
theorem m_Mo_say (l : Launch) (D : va_G) (ct : Nat → ClassId) (b : Nat) (RO : State → Prop) (r : Nat) (n x : Nat) (g : fh_H) (A : Nat → Nat → Int32) (th co at_ wr no nu op wi he de : Int32) (P : Nat) (hP9 : P < 250) (v0 v1 v2 v3 v4 v5 : Int32) : fh_C l D fh_cl (fh_tys ct) b RO y_Mo_say (Cond.code y_Mo_say c_Mo_say 7 (Option.none : Option FieldType) :: fh_T) (fh_rm r 0 0) [.ref x, .int v0, .int v1, .int v2, .int v3, .int v4, .int v5] (mkM ct x g A th co at_ wr no nu op (nI P) wi he de) n (fun v h' n' => v = none ∧ h' = mkM ct x g (rf_say A P v0 v1 v2 v3 v4 v5) th co at_ wr no nu op (nI (P + 1)) wi he de ∧ n' = n) 0 0 := by
  refine fh_enter (by decide) (Nat.le_of_ble_eq_true rfl) [(0, .ref x), (1, .int v0), (2, .int v1), (3, .int v2), (4, .int v3), (5, .int v4), (6, .int v5)] rfl ?_
  intro p e s m args below meth c H ls X hP hS hl
  have hx := X.1
  have hb := X.2.1
  have hml := X.2.2.1
  have hown : s.vm.findClass "FormulaSetterModel" = some m.cls := X.2.2.2.1
  have hT := X.2.2.2.2.1
  have hK := X.2.2.2.2.2.1
  have hRO := X.2.2.2.2.2.2.1
  have hnm : meth.name = "say" := X.2.2.2.2.2.2.2.2.2.2
  refine lv_aload_n hx hb (fh_d d_Mo_say 0 rfl) rfl (lv_at hl 0 rfl) ?_
  refine fh_get (own := "FormulaSetterModel") (ref := "FormulaSetterModel") (C := "FormulaSetterModel") (T := T_Mo) (N := 53) (v := .ref (x + 42)) hx hb hT i_Mo hown hK hP mkM_o rfl 49 (by decide) (hT _ w909) (fun _ h9 => h9) rfl (fh_d d_Mo_say 1 rfl) ?_
  refine lv_bipush (v := 6) hx hb (fh_d d_Mo_say 2 rfl) (by decide) ?_
  refine lv_aload_n hx hb (fh_d d_Mo_say 3 rfl) rfl (lv_at hl 0 rfl) ?_
  refine fh_get (own := "FormulaSetterModel") (ref := "FormulaSetterModel") (C := "FormulaSetterModel") (T := T_Mo) (N := 53) (v := .int (nI P)) hx hb hT i_Mo hown hK hP mkM_o rfl 48 (by decide) (hT _ w908) (fun _ h9 => h9) rfl (fh_d d_Mo_say 4 rfl) ?_
  refine lv_imul hx hb (fh_d d_Mo_say 5 rfl) ?_
  refine lv_iload_n hx hb (fh_d d_Mo_say 6 rfl) rfl (lv_at hl 1 rfl) ?_
  refine fn_iast (f := A 41) (k := 6 * P) hx hb hK hP hS 0 mkM_a41 rfl (pk_mul 6 P) (by omega) (by decide) (fh_d d_Mo_say 7 rfl) (fun H locs hP hS => ?_)
  replace hP := fh_P.eq (h' := mkM ct x g (up2 A 41 (upd (A 41) (6 * P) v0)) th co at_ wr no nu op (nI P) wi he de) hP mkM_u41
  refine lv_aload_n hx hb (fh_d d_Mo_say 8 rfl) rfl (lv_at hl 0 rfl) ?_
  refine fh_get (own := "FormulaSetterModel") (ref := "FormulaSetterModel") (C := "FormulaSetterModel") (T := T_Mo) (N := 53) (v := .ref (x + 42)) hx hb hT i_Mo hown hK hP mkM_o rfl 49 (by decide) (hT _ w909) (fun _ h9 => h9) rfl (fh_d d_Mo_say 9 rfl) ?_
  refine lv_bipush (v := 6) hx hb (fh_d d_Mo_say 10 rfl) (by decide) ?_
  refine lv_aload_n hx hb (fh_d d_Mo_say 11 rfl) rfl (lv_at hl 0 rfl) ?_
  refine fh_get (own := "FormulaSetterModel") (ref := "FormulaSetterModel") (C := "FormulaSetterModel") (T := T_Mo) (N := 53) (v := .int (nI P)) hx hb hT i_Mo hown hK hP mkM_o rfl 48 (by decide) (hT _ w908) (fun _ h9 => h9) rfl (fh_d d_Mo_say 12 rfl) ?_
  refine lv_imul hx hb (fh_d d_Mo_say 13 rfl) ?_
  refine lv_iconst (v := 1) hx hb (fh_d d_Mo_say 14 rfl) (by decide) ?_
  refine lv_iadd hx hb (fh_d d_Mo_say 15 rfl) ?_
  refine lv_iload_n hx hb (fh_d d_Mo_say 16 rfl) rfl (lv_at hl 2 rfl) ?_
  refine fn_iast (f := upd (A 41) (6 * P) v0) (k := 6 * P + 1) hx hb hK hP hS 0 mkM_a41 rfl (by rw [← nI_add, ← pk_mul]; rfl) (by omega) (by decide) (fh_d d_Mo_say 17 rfl) (fun H locs hP hS => ?_)
  replace hP := fh_P.eq (h' := mkM ct x g (up2 (up2 A 41 (upd (A 41) (6 * P) v0)) 41 (upd (upd (A 41) (6 * P) v0) (6 * P + 1) v1)) th co at_ wr no nu op (nI P) wi he de) hP mkM_u41
  refine lv_aload_n hx hb (fh_d d_Mo_say 18 rfl) rfl (lv_at hl 0 rfl) ?_
  refine fh_get (own := "FormulaSetterModel") (ref := "FormulaSetterModel") (C := "FormulaSetterModel") (T := T_Mo) (N := 53) (v := .ref (x + 42)) hx hb hT i_Mo hown hK hP mkM_o rfl 49 (by decide) (hT _ w909) (fun _ h9 => h9) rfl (fh_d d_Mo_say 19 rfl) ?_
  refine lv_bipush (v := 6) hx hb (fh_d d_Mo_say 20 rfl) (by decide) ?_
  refine lv_aload_n hx hb (fh_d d_Mo_say 21 rfl) rfl (lv_at hl 0 rfl) ?_
  refine fh_get (own := "FormulaSetterModel") (ref := "FormulaSetterModel") (C := "FormulaSetterModel") (T := T_Mo) (N := 53) (v := .int (nI P)) hx hb hT i_Mo hown hK hP mkM_o rfl 48 (by decide) (hT _ w908) (fun _ h9 => h9) rfl (fh_d d_Mo_say 22 rfl) ?_
  refine lv_imul hx hb (fh_d d_Mo_say 23 rfl) ?_
  refine lv_iconst (v := 2) hx hb (fh_d d_Mo_say 24 rfl) (by decide) ?_
  refine lv_iadd hx hb (fh_d d_Mo_say 25 rfl) ?_
  refine lv_iload_n hx hb (fh_d d_Mo_say 26 rfl) rfl (lv_at hl 3 rfl) ?_
  refine fn_iast (f := upd (upd (A 41) (6 * P) v0) (6 * P + 1) v1) (k := 6 * P + 2) hx hb hK hP hS 0 mkM_a41 rfl (by rw [← nI_add, ← pk_mul]; rfl) (by omega) (by decide) (fh_d d_Mo_say 27 rfl) (fun H locs hP hS => ?_)
  replace hP := fh_P.eq (h' := mkM ct x g (up2 (up2 (up2 A 41 (upd (A 41) (6 * P) v0)) 41 (upd (upd (A 41) (6 * P) v0) (6 * P + 1) v1)) 41 (upd (upd (upd (A 41) (6 * P) v0) (6 * P + 1) v1) (6 * P + 2) v2)) th co at_ wr no nu op (nI P) wi he de) hP mkM_u41
  refine lv_aload_n hx hb (fh_d d_Mo_say 28 rfl) rfl (lv_at hl 0 rfl) ?_
  refine fh_get (own := "FormulaSetterModel") (ref := "FormulaSetterModel") (C := "FormulaSetterModel") (T := T_Mo) (N := 53) (v := .ref (x + 42)) hx hb hT i_Mo hown hK hP mkM_o rfl 49 (by decide) (hT _ w909) (fun _ h9 => h9) rfl (fh_d d_Mo_say 29 rfl) ?_
  refine lv_bipush (v := 6) hx hb (fh_d d_Mo_say 30 rfl) (by decide) ?_
  refine lv_aload_n hx hb (fh_d d_Mo_say 31 rfl) rfl (lv_at hl 0 rfl) ?_
  refine fh_get (own := "FormulaSetterModel") (ref := "FormulaSetterModel") (C := "FormulaSetterModel") (T := T_Mo) (N := 53) (v := .int (nI P)) hx hb hT i_Mo hown hK hP mkM_o rfl 48 (by decide) (hT _ w908) (fun _ h9 => h9) rfl (fh_d d_Mo_say 32 rfl) ?_
  refine lv_imul hx hb (fh_d d_Mo_say 33 rfl) ?_
  refine lv_iconst (v := 3) hx hb (fh_d d_Mo_say 34 rfl) (by decide) ?_
  refine lv_iadd hx hb (fh_d d_Mo_say 35 rfl) ?_
  refine lv_iload hx hb (fh_d d_Mo_say 36 rfl) (lv_at hl 4 rfl) ?_
  refine fn_iast (f := upd (upd (upd (A 41) (6 * P) v0) (6 * P + 1) v1) (6 * P + 2) v2) (k := 6 * P + 3) hx hb hK hP hS 0 mkM_a41 rfl (by rw [← nI_add, ← pk_mul]; rfl) (by omega) (by decide) (fh_d d_Mo_say 37 rfl) (fun H locs hP hS => ?_)
  replace hP := fh_P.eq (h' := mkM ct x g (up2 (up2 (up2 (up2 A 41 (upd (A 41) (6 * P) v0)) 41 (upd (upd (A 41) (6 * P) v0) (6 * P + 1) v1)) 41 (upd (upd (upd (A 41) (6 * P) v0) (6 * P + 1) v1) (6 * P + 2) v2)) 41 (upd (upd (upd (upd (A 41) (6 * P) v0) (6 * P + 1) v1) (6 * P + 2) v2) (6 * P + 3) v3)) th co at_ wr no nu op (nI P) wi he de) hP mkM_u41
  refine lv_aload_n hx hb (fh_d d_Mo_say 38 rfl) rfl (lv_at hl 0 rfl) ?_
  refine fh_get (own := "FormulaSetterModel") (ref := "FormulaSetterModel") (C := "FormulaSetterModel") (T := T_Mo) (N := 53) (v := .ref (x + 42)) hx hb hT i_Mo hown hK hP mkM_o rfl 49 (by decide) (hT _ w909) (fun _ h9 => h9) rfl (fh_d d_Mo_say 39 rfl) ?_
  refine lv_bipush (v := 6) hx hb (fh_d d_Mo_say 40 rfl) (by decide) ?_
  refine lv_aload_n hx hb (fh_d d_Mo_say 41 rfl) rfl (lv_at hl 0 rfl) ?_
  refine fh_get (own := "FormulaSetterModel") (ref := "FormulaSetterModel") (C := "FormulaSetterModel") (T := T_Mo) (N := 53) (v := .int (nI P)) hx hb hT i_Mo hown hK hP mkM_o rfl 48 (by decide) (hT _ w908) (fun _ h9 => h9) rfl (fh_d d_Mo_say 42 rfl) ?_
  refine lv_imul hx hb (fh_d d_Mo_say 43 rfl) ?_
  refine lv_iconst (v := 4) hx hb (fh_d d_Mo_say 44 rfl) (by decide) ?_
  refine lv_iadd hx hb (fh_d d_Mo_say 45 rfl) ?_
  refine lv_iload hx hb (fh_d d_Mo_say 46 rfl) (lv_at hl 5 rfl) ?_
  refine fn_iast (f := upd (upd (upd (upd (A 41) (6 * P) v0) (6 * P + 1) v1) (6 * P + 2) v2) (6 * P + 3) v3) (k := 6 * P + 4) hx hb hK hP hS 0 mkM_a41 rfl (by rw [← nI_add, ← pk_mul]; rfl) (by omega) (by decide) (fh_d d_Mo_say 47 rfl) (fun H locs hP hS => ?_)
  replace hP := fh_P.eq (h' := mkM ct x g (up2 (up2 (up2 (up2 (up2 A 41 (upd (A 41) (6 * P) v0)) 41 (upd (upd (A 41) (6 * P) v0) (6 * P + 1) v1)) 41 (upd (upd (upd (A 41) (6 * P) v0) (6 * P + 1) v1) (6 * P + 2) v2)) 41 (upd (upd (upd (upd (A 41) (6 * P) v0) (6 * P + 1) v1) (6 * P + 2) v2) (6 * P + 3) v3)) 41 (upd (upd (upd (upd (upd (A 41) (6 * P) v0) (6 * P + 1) v1) (6 * P + 2) v2) (6 * P + 3) v3) (6 * P + 4) v4)) th co at_ wr no nu op (nI P) wi he de) hP mkM_u41
  refine lv_aload_n hx hb (fh_d d_Mo_say 48 rfl) rfl (lv_at hl 0 rfl) ?_
  refine fh_get (own := "FormulaSetterModel") (ref := "FormulaSetterModel") (C := "FormulaSetterModel") (T := T_Mo) (N := 53) (v := .ref (x + 42)) hx hb hT i_Mo hown hK hP mkM_o rfl 49 (by decide) (hT _ w909) (fun _ h9 => h9) rfl (fh_d d_Mo_say 49 rfl) ?_
  refine lv_bipush (v := 6) hx hb (fh_d d_Mo_say 50 rfl) (by decide) ?_
  refine lv_aload_n hx hb (fh_d d_Mo_say 51 rfl) rfl (lv_at hl 0 rfl) ?_
  refine fh_get (own := "FormulaSetterModel") (ref := "FormulaSetterModel") (C := "FormulaSetterModel") (T := T_Mo) (N := 53) (v := .int (nI P)) hx hb hT i_Mo hown hK hP mkM_o rfl 48 (by decide) (hT _ w908) (fun _ h9 => h9) rfl (fh_d d_Mo_say 52 rfl) ?_
  refine lv_imul hx hb (fh_d d_Mo_say 53 rfl) ?_
  refine lv_iconst (v := 5) hx hb (fh_d d_Mo_say 54 rfl) (by decide) ?_
  refine lv_iadd hx hb (fh_d d_Mo_say 55 rfl) ?_
  refine lv_iload hx hb (fh_d d_Mo_say 56 rfl) (lv_at hl 6 rfl) ?_
  refine fn_iast (f := upd (upd (upd (upd (upd (A 41) (6 * P) v0) (6 * P + 1) v1) (6 * P + 2) v2) (6 * P + 3) v3) (6 * P + 4) v4) (k := 6 * P + 5) hx hb hK hP hS 0 mkM_a41 rfl (by rw [← nI_add, ← pk_mul]; rfl) (by omega) (by decide) (fh_d d_Mo_say 57 rfl) (fun H locs hP hS => ?_)
  replace hP := fh_P.eq (h' := mkM ct x g (up2 (up2 (up2 (up2 (up2 (up2 A 41 (upd (A 41) (6 * P) v0)) 41 (upd (upd (A 41) (6 * P) v0) (6 * P + 1) v1)) 41 (upd (upd (upd (A 41) (6 * P) v0) (6 * P + 1) v1) (6 * P + 2) v2)) 41 (upd (upd (upd (upd (A 41) (6 * P) v0) (6 * P + 1) v1) (6 * P + 2) v2) (6 * P + 3) v3)) 41 (upd (upd (upd (upd (upd (A 41) (6 * P) v0) (6 * P + 1) v1) (6 * P + 2) v2) (6 * P + 3) v3) (6 * P + 4) v4)) 41 (upd (upd (upd (upd (upd (upd (A 41) (6 * P) v0) (6 * P + 1) v1) (6 * P + 2) v2) (6 * P + 3) v3) (6 * P + 4) v4) (6 * P + 5) v5)) th co at_ wr no nu op (nI P) wi he de) hP mkM_u41
  refine lv_aload_n hx hb (fh_d d_Mo_say 58 rfl) rfl (lv_at hl 0 rfl) ?_
  refine lv_dup hx hb (fh_d d_Mo_say 59 rfl) rfl ?_
  refine fh_get (own := "FormulaSetterModel") (ref := "FormulaSetterModel") (C := "FormulaSetterModel") (T := T_Mo) (N := 53) (v := .int (nI P)) hx hb hT i_Mo hown hK hP mkM_o rfl 48 (by decide) (hT _ w908) (fun _ h9 => h9) rfl (fh_d d_Mo_say 60 rfl) ?_
  refine lv_iconst (v := 1) hx hb (fh_d d_Mo_say 61 rfl) (by decide) ?_
  refine lv_iadd hx hb (fh_d d_Mo_say 62 rfl) ?_
  refine fh_put (own := "FormulaSetterModel") (ref := "FormulaSetterModel") (C := "FormulaSetterModel") (T := T_Mo) (N := 53) (v := .int ((nI P) + 1)) (ty := .int) hx hb hT i_Mo t_Mo k_Mo n_Mo hown hK hP hS mkM_o rfl 48 (by decide) (hT _ w908) (fun _ h9 => h9) rfl (by decide +kernel) rfl rfl (Nat.le_of_ble_eq_true rfl) (fh_d d_Mo_say 63 rfl) (fun H locs hP hS => ?_)
  replace hP := fh_P.eq (h' := mkM ct x g (up2 (up2 (up2 (up2 (up2 (up2 A 41 (upd (A 41) (6 * P) v0)) 41 (upd (upd (A 41) (6 * P) v0) (6 * P + 1) v1)) 41 (upd (upd (upd (A 41) (6 * P) v0) (6 * P + 1) v1) (6 * P + 2) v2)) 41 (upd (upd (upd (upd (A 41) (6 * P) v0) (6 * P + 1) v1) (6 * P + 2) v2) (6 * P + 3) v3)) 41 (upd (upd (upd (upd (upd (A 41) (6 * P) v0) (6 * P + 1) v1) (6 * P + 2) v2) (6 * P + 3) v3) (6 * P + 4) v4)) 41 (upd (upd (upd (upd (upd (upd (A 41) (6 * P) v0) (6 * P + 1) v1) (6 * P + 2) v2) (6 * P + 3) v3) (6 * P + 4) v4) (6 * P + 5) v5)) th co at_ wr no nu op ((nI P) + 1) wi he de) hP mkM_ux
  rw [nI_1] at hP
  exact fh_vret X hP hS (fh_d d_Mo_say 64 rfl) ⟨rfl, rfl, rfl⟩

def rf_sb (A : Nat → Nat → Int32) (n0 s0 P : Nat) : (Nat → Nat → Int32) × Nat := if A 1 n0 = 1 then ((rf_say A P 0 ((A 2) n0) (((A 31) n0) + ((A 28) n0)) ((A 32) n0) (yS s0) ((A 22) n0), P + 1)) else (if A 1 n0 = 2 then (if s0 = 0 then ((rf_say A P 0 ((A 2) n0) (((A 31) n0) + ((A 28) n0)) (((A 32) n0) + ((A 35) n0)) 14 ((A 22) n0), P + 1)) else ((rf_say A P 0 ((A 2) n0) (((A 31) n0) + ((A 28) n0)) (((A 32) n0) + ((A 35) n0)) (yS s0) ((A 22) n0), P + 1))) else (if A 1 n0 = 5 then ((rf_say (rf_say A P 2 35 (((A 31) n0) + ((A 28) n0)) (((A 32) n0) + ((A 35) n0)) ((A 34) n0) (5 * (yS s0))) (P + 1) 1 0 ((((A 31) n0) + ((A 28) n0)) + (5 * (yS s0))) ((((A 32) n0) + ((A 23) n0)) - (yT s0)) (yT s0) (((A 22) n0) - (5 * (yS s0))), P + 1 + 1)) else (if A 1 n0 = 8 then (if A 2 n0 = 46 then ((A, P)) else ((rf_say A P 2 ((A 2) n0) (((A 31) n0) + ((A 28) n0)) (((A 32) n0) + ((A 35) n0)) ((A 34) n0) (4 * (yS s0)), P + 1))) else ((A, P)))))
set_option maxHeartbeats 4000000 in
set_option maxRecDepth 100000 in
theorem m_Mo_sayBefore (l : Launch) (D : va_G) (ct : Nat → ClassId) (b : Nat) (RO : State → Prop) (hR : fh_R b RO) (r : Nat) (hr : 2 ≤ r) (n x : Nat) (g : fh_H) (A : Nat → Nat → Int32) (th co at_ wr no nu op wi he de : Int32) (n0 : Nat) (hn0 : n0 < 400) (s0 : Nat) (hs0 : s0 < 4) (h20 : A 20 n0 = nI s0) (P : Nat) (hP9 : P < 240) : fh_C l D fh_cl (fh_tys ct) b RO y_Mo_sayBefore (Cond.code y_Mo_sayBefore c_Mo_sayBefore 6 (Option.none : Option FieldType) :: fh_T) (fh_rm r 0 0) [.ref x, .int (nI n0)] (mkM ct x g A th co at_ wr no nu op (nI P) wi he de) n (fun v h' n' => v = none ∧ h' = mkM ct x g ((rf_sb A n0 s0 P).1) th co at_ wr no nu op (nI (rf_sb A n0 s0 P).2) wi he de ∧ n' = n) 0 0 := by
  refine fh_enter (by decide) (Nat.le_of_ble_eq_true rfl) [(0, .ref x), (1, .int (nI n0))] rfl ?_
  intro p e s m args below meth c H ls X hP hS hl
  have hx := X.1
  have hb := X.2.1
  have hml := X.2.2.1
  have hown : s.vm.findClass "FormulaSetterModel" = some m.cls := X.2.2.2.1
  have hT := X.2.2.2.2.1
  have hK := X.2.2.2.2.2.1
  have hRO := X.2.2.2.2.2.2.1
  have hnm : meth.name = "sayBefore" := X.2.2.2.2.2.2.2.2.2.2
  by_cases kd1 : A 1 n0 = 1
  · skip
    refine lv_aload_n hx hb (fh_d d_Mo_sayBefore 0 rfl) rfl (lv_at hl 0 rfl) ?_
    refine fh_get (own := "FormulaSetterModel") (ref := "FormulaSetterModel") (C := "FormulaSetterModel") (T := T_Mo) (N := 53) (v := .ref (x + 21)) hx hb hT i_Mo hown hK hP mkM_o rfl 27 (by decide) (hT _ w887) (fun _ h9 => h9) rfl (fh_d d_Mo_sayBefore 1 rfl) ?_
    refine lv_iload_n hx hb (fh_d d_Mo_sayBefore 2 rfl) rfl (lv_at hl 1 rfl) ?_
    refine fn_iald (f := A 20) (k := n0) hx hb hK hP 0 mkM_a20 rfl (rfl) (by omega) (by decide) (fh_d d_Mo_sayBefore 3 rfl) ?_
    rw [show ((A 20) n0) = nI s0 from h20]
    refine fh_callS (cc' := c_Mo_zOf) (nL' := 1) (rest := []) (av := [.int (nI s0)]) X hR (m_Mo_zO l D ct b RO hR (r - 1) (by omega) n s0 hs0 (mkM ct x g A th co at_ wr no nu op (nI P) wi he de)) w1139 w1137 w1138 w9 ⟨by decide, by decide, by show _ = some 1; decide +kernel⟩ (by omega) (by decide) hP hS hl.1 rfl (by exact Nat.le_of_ble_eq_true rfl) (fh_d d_Mo_sayBefore 4 rfl) ⟨Nat.le_refl _, Nat.le_refl _⟩ (fun v9 h9 n9 H locs hq hP hS => ?_)
    obtain ⟨rfl, q1a, q1b⟩ := hq
    rw [q1a, q1b] at hP
    refine W.eq (g2 := F0 m 9 ls [.int (yS s0)]) rfl ?_
    refine lv_istore_n (lv' := [(2, .int (yS s0)), (0, .ref x), (1, .int (nI n0))]) hx hb (fh_d d_Mo_sayBefore 5 rfl) rfl hl (by decide) rfl (fun ls hl => ?_)
    refine lv_aload_n hx hb (fh_d d_Mo_sayBefore 6 rfl) rfl (lv_at hl 1 rfl) ?_
    refine fh_get (own := "FormulaSetterModel") (ref := "FormulaSetterModel") (C := "FormulaSetterModel") (T := T_Mo) (N := 53) (v := .ref (x + 21)) hx hb hT i_Mo hown hK hP mkM_o rfl 27 (by decide) (hT _ w887) (fun _ h9 => h9) rfl (fh_d d_Mo_sayBefore 7 rfl) ?_
    refine lv_iload_n hx hb (fh_d d_Mo_sayBefore 8 rfl) rfl (lv_at hl 2 rfl) ?_
    refine fn_iald (f := A 20) (k := n0) hx hb hK hP 0 mkM_a20 rfl (rfl) (by omega) (by decide) (fh_d d_Mo_sayBefore 9 rfl) ?_
    rw [show ((A 20) n0) = nI s0 from h20]
    refine fh_callS (cc' := c_Mo_tOf) (nL' := 1) (rest := []) (av := [.int (nI s0)]) X hR (m_Mo_tO l D ct b RO hR (r - 1) (by omega) n s0 hs0 (mkM ct x g A th co at_ wr no nu op (nI P) wi he de)) w1174 w1172 w1173 w9 ⟨by decide, by decide, by show _ = some 1; decide +kernel⟩ (by omega) (by decide) hP hS hl.1 rfl (by exact Nat.le_of_ble_eq_true rfl) (fh_d d_Mo_sayBefore 10 rfl) ⟨Nat.le_refl _, Nat.le_refl _⟩ (fun v9 h9 n9 H locs hq hP hS => ?_)
    obtain ⟨rfl, q2a, q2b⟩ := hq
    rw [q2a, q2b] at hP
    refine W.eq (g2 := F0 m 19 ls [.int (yT s0)]) rfl ?_
    refine lv_istore_n (lv' := [(3, .int (yT s0)), (2, .int (yS s0)), (0, .ref x), (1, .int (nI n0))]) hx hb (fh_d d_Mo_sayBefore 11 rfl) rfl hl (by decide) rfl (fun ls hl => ?_)
    refine lv_aload_n hx hb (fh_d d_Mo_sayBefore 12 rfl) rfl (lv_at hl 2 rfl) ?_
    refine fh_get (own := "FormulaSetterModel") (ref := "FormulaSetterModel") (C := "FormulaSetterModel") (T := T_Mo) (N := 53) (v := .ref (x + 32)) hx hb hT i_Mo hown hK hP mkM_o rfl 38 (by decide) (hT _ w898) (fun _ h9 => h9) rfl (fh_d d_Mo_sayBefore 13 rfl) ?_
    refine lv_iload_n hx hb (fh_d d_Mo_sayBefore 14 rfl) rfl (lv_at hl 3 rfl) ?_
    refine fn_iald (f := A 31) (k := n0) hx hb hK hP 0 mkM_a31 rfl (rfl) (by omega) (by decide) (fh_d d_Mo_sayBefore 15 rfl) ?_
    refine lv_aload_n hx hb (fh_d d_Mo_sayBefore 16 rfl) rfl (lv_at hl 2 rfl) ?_
    refine fh_get (own := "FormulaSetterModel") (ref := "FormulaSetterModel") (C := "FormulaSetterModel") (T := T_Mo) (N := 53) (v := .ref (x + 29)) hx hb hT i_Mo hown hK hP mkM_o rfl 35 (by decide) (hT _ w895) (fun _ h9 => h9) rfl (fh_d d_Mo_sayBefore 17 rfl) ?_
    refine lv_iload_n hx hb (fh_d d_Mo_sayBefore 18 rfl) rfl (lv_at hl 3 rfl) ?_
    refine fn_iald (f := A 28) (k := n0) hx hb hK hP 0 mkM_a28 rfl (rfl) (by omega) (by decide) (fh_d d_Mo_sayBefore 19 rfl) ?_
    refine lv_iadd hx hb (fh_d d_Mo_sayBefore 20 rfl) ?_
    refine lv_istore (lv' := [(4, .int (((A 31) n0) + ((A 28) n0))), (3, .int (yT s0)), (2, .int (yS s0)), (0, .ref x), (1, .int (nI n0))]) hx hb (fh_d d_Mo_sayBefore 21 rfl) hl (by decide) rfl (fun ls hl => ?_)
    refine lv_aload_n hx hb (fh_d d_Mo_sayBefore 22 rfl) rfl (lv_at hl 3 rfl) ?_
    refine fh_get (own := "FormulaSetterModel") (ref := "FormulaSetterModel") (C := "FormulaSetterModel") (T := T_Mo) (N := 53) (v := .ref (x + 33)) hx hb hT i_Mo hown hK hP mkM_o rfl 39 (by decide) (hT _ w899) (fun _ h9 => h9) rfl (fh_d d_Mo_sayBefore 23 rfl) ?_
    refine lv_iload_n hx hb (fh_d d_Mo_sayBefore 24 rfl) rfl (lv_at hl 4 rfl) ?_
    refine fn_iald (f := A 32) (k := n0) hx hb hK hP 0 mkM_a32 rfl (rfl) (by omega) (by decide) (fh_d d_Mo_sayBefore 25 rfl) ?_
    refine lv_istore (lv' := [(5, .int ((A 32) n0)), (4, .int (((A 31) n0) + ((A 28) n0))), (3, .int (yT s0)), (2, .int (yS s0)), (0, .ref x), (1, .int (nI n0))]) hx hb (fh_d d_Mo_sayBefore 26 rfl) hl (by decide) rfl (fun ls hl => ?_)
    refine lv_aload_n hx hb (fh_d d_Mo_sayBefore 27 rfl) rfl (lv_at hl 4 rfl) ?_
    refine fh_get (own := "FormulaSetterModel") (ref := "FormulaSetterModel") (C := "FormulaSetterModel") (T := T_Mo) (N := 53) (v := .ref (x + 2)) hx hb hT i_Mo hown hK hP mkM_o rfl 7 (by decide) (hT _ w867) (fun _ h9 => h9) rfl (fh_d d_Mo_sayBefore 28 rfl) ?_
    refine lv_iload_n hx hb (fh_d d_Mo_sayBefore 29 rfl) rfl (lv_at hl 5 rfl) ?_
    refine fn_iald (f := A 1) (k := n0) hx hb hK hP 0 mkM_a1 rfl (rfl) (by omega) (by decide) (fh_d d_Mo_sayBefore 30 rfl) ?_
    refine lv_iconst (v := 1) hx hb (fh_d d_Mo_sayBefore 31 rfl) (by decide) ?_
    refine lv_icmp_ne (tgt := 78) hx hb (fh_d d_Mo_sayBefore 32 rfl) rfl (fun c3 => absurd c3 (Classical.not_not.mpr (kd1))) (fun c3 => ?_)
    refine lv_aload_n hx hb (fh_d d_Mo_sayBefore 33 rfl) rfl (lv_at hl 4 rfl) ?_
    refine lv_iconst (v := 0) hx hb (fh_d d_Mo_sayBefore 34 rfl) (by decide) ?_
    refine lv_aload_n hx hb (fh_d d_Mo_sayBefore 35 rfl) rfl (lv_at hl 4 rfl) ?_
    refine fh_get (own := "FormulaSetterModel") (ref := "FormulaSetterModel") (C := "FormulaSetterModel") (T := T_Mo) (N := 53) (v := .ref (x + 3)) hx hb hT i_Mo hown hK hP mkM_o rfl 8 (by decide) (hT _ w868) (fun _ h9 => h9) rfl (fh_d d_Mo_sayBefore 36 rfl) ?_
    refine lv_iload_n hx hb (fh_d d_Mo_sayBefore 37 rfl) rfl (lv_at hl 5 rfl) ?_
    refine fn_iald (f := A 2) (k := n0) hx hb hK hP 0 mkM_a2 rfl (rfl) (by omega) (by decide) (fh_d d_Mo_sayBefore 38 rfl) ?_
    refine lv_iload hx hb (fh_d d_Mo_sayBefore 39 rfl) (lv_at hl 1 rfl) ?_
    refine lv_iload hx hb (fh_d d_Mo_sayBefore 40 rfl) (lv_at hl 0 rfl) ?_
    refine lv_iload_n hx hb (fh_d d_Mo_sayBefore 41 rfl) rfl (lv_at hl 3 rfl) ?_
    refine lv_aload_n hx hb (fh_d d_Mo_sayBefore 42 rfl) rfl (lv_at hl 4 rfl) ?_
    refine fh_get (own := "FormulaSetterModel") (ref := "FormulaSetterModel") (C := "FormulaSetterModel") (T := T_Mo) (N := 53) (v := .ref (x + 23)) hx hb hT i_Mo hown hK hP mkM_o rfl 29 (by decide) (hT _ w889) (fun _ h9 => h9) rfl (fh_d d_Mo_sayBefore 43 rfl) ?_
    refine lv_iload_n hx hb (fh_d d_Mo_sayBefore 44 rfl) rfl (lv_at hl 5 rfl) ?_
    refine fn_iald (f := A 22) (k := n0) hx hb hK hP 0 mkM_a22 rfl (rfl) (by omega) (by decide) (fh_d d_Mo_sayBefore 45 rfl) ?_
    refine fh_callV (cc' := c_Mo_say) (nL' := 7) (rest := []) (a := x) (As := [.int 0, .int ((A 2) n0), .int (((A 31) n0) + ((A 28) n0)), .int ((A 32) n0), .int (yS s0), .int ((A 22) n0)]) X hR (m_Mo_say l D ct b RO (r - 1) n x g A th co at_ wr no nu op wi he de P (by omega) 0 ((A 2) n0) (((A 31) n0) + ((A 28) n0)) ((A 32) n0) (yS s0) ((A 22) n0)) w1213 w1210 w1212 v61 w9 ⟨by decide, by decide, by show _ = some 6; decide +kernel⟩ (by omega) (by decide) (fh_recv hK hP mkM_o rfl) hP hS hl.1 rfl (by exact Nat.le_of_ble_eq_true rfl) (fh_d d_Mo_sayBefore 46 rfl) ⟨Nat.le_refl _, Nat.le_refl _⟩ (fun v9 h9 n9 H locs hq hP hS => ?_)
    obtain ⟨rfl, u4, u5⟩ := hq
    rw [u4, u5] at hP
    refine W.eq (g2 := F0 m 75 ls []) rfl ?_
    refine lv_goto (tgt := 261) hx hb (fh_d d_Mo_sayBefore 47 rfl) rfl ?_
    exact fh_vret X hP hS (fh_d d_Mo_sayBefore 165 rfl) ⟨rfl, by unfold rf_sb; rw [if_pos kd1]; (try rfl), rfl⟩
  · skip
    by_cases kd2 : A 1 n0 = 2
    · skip
      by_cases hs : s0 = 0
      · skip
        refine lv_aload_n hx hb (fh_d d_Mo_sayBefore 0 rfl) rfl (lv_at hl 0 rfl) ?_
        refine fh_get (own := "FormulaSetterModel") (ref := "FormulaSetterModel") (C := "FormulaSetterModel") (T := T_Mo) (N := 53) (v := .ref (x + 21)) hx hb hT i_Mo hown hK hP mkM_o rfl 27 (by decide) (hT _ w887) (fun _ h9 => h9) rfl (fh_d d_Mo_sayBefore 1 rfl) ?_
        refine lv_iload_n hx hb (fh_d d_Mo_sayBefore 2 rfl) rfl (lv_at hl 1 rfl) ?_
        refine fn_iald (f := A 20) (k := n0) hx hb hK hP 0 mkM_a20 rfl (rfl) (by omega) (by decide) (fh_d d_Mo_sayBefore 3 rfl) ?_
        rw [show ((A 20) n0) = nI s0 from h20]
        refine fh_callS (cc' := c_Mo_zOf) (nL' := 1) (rest := []) (av := [.int (nI s0)]) X hR (m_Mo_zO l D ct b RO hR (r - 1) (by omega) n s0 hs0 (mkM ct x g A th co at_ wr no nu op (nI P) wi he de)) w1139 w1137 w1138 w9 ⟨by decide, by decide, by show _ = some 1; decide +kernel⟩ (by omega) (by decide) hP hS hl.1 rfl (by exact Nat.le_of_ble_eq_true rfl) (fh_d d_Mo_sayBefore 4 rfl) ⟨Nat.le_refl _, Nat.le_refl _⟩ (fun v9 h9 n9 H locs hq hP hS => ?_)
        obtain ⟨rfl, q6a, q6b⟩ := hq
        rw [q6a, q6b] at hP
        refine W.eq (g2 := F0 m 9 ls [.int (yS s0)]) rfl ?_
        refine lv_istore_n (lv' := [(2, .int (yS s0)), (0, .ref x), (1, .int (nI n0))]) hx hb (fh_d d_Mo_sayBefore 5 rfl) rfl hl (by decide) rfl (fun ls hl => ?_)
        refine lv_aload_n hx hb (fh_d d_Mo_sayBefore 6 rfl) rfl (lv_at hl 1 rfl) ?_
        refine fh_get (own := "FormulaSetterModel") (ref := "FormulaSetterModel") (C := "FormulaSetterModel") (T := T_Mo) (N := 53) (v := .ref (x + 21)) hx hb hT i_Mo hown hK hP mkM_o rfl 27 (by decide) (hT _ w887) (fun _ h9 => h9) rfl (fh_d d_Mo_sayBefore 7 rfl) ?_
        refine lv_iload_n hx hb (fh_d d_Mo_sayBefore 8 rfl) rfl (lv_at hl 2 rfl) ?_
        refine fn_iald (f := A 20) (k := n0) hx hb hK hP 0 mkM_a20 rfl (rfl) (by omega) (by decide) (fh_d d_Mo_sayBefore 9 rfl) ?_
        rw [show ((A 20) n0) = nI s0 from h20]
        refine fh_callS (cc' := c_Mo_tOf) (nL' := 1) (rest := []) (av := [.int (nI s0)]) X hR (m_Mo_tO l D ct b RO hR (r - 1) (by omega) n s0 hs0 (mkM ct x g A th co at_ wr no nu op (nI P) wi he de)) w1174 w1172 w1173 w9 ⟨by decide, by decide, by show _ = some 1; decide +kernel⟩ (by omega) (by decide) hP hS hl.1 rfl (by exact Nat.le_of_ble_eq_true rfl) (fh_d d_Mo_sayBefore 10 rfl) ⟨Nat.le_refl _, Nat.le_refl _⟩ (fun v9 h9 n9 H locs hq hP hS => ?_)
        obtain ⟨rfl, q7a, q7b⟩ := hq
        rw [q7a, q7b] at hP
        refine W.eq (g2 := F0 m 19 ls [.int (yT s0)]) rfl ?_
        refine lv_istore_n (lv' := [(3, .int (yT s0)), (2, .int (yS s0)), (0, .ref x), (1, .int (nI n0))]) hx hb (fh_d d_Mo_sayBefore 11 rfl) rfl hl (by decide) rfl (fun ls hl => ?_)
        refine lv_aload_n hx hb (fh_d d_Mo_sayBefore 12 rfl) rfl (lv_at hl 2 rfl) ?_
        refine fh_get (own := "FormulaSetterModel") (ref := "FormulaSetterModel") (C := "FormulaSetterModel") (T := T_Mo) (N := 53) (v := .ref (x + 32)) hx hb hT i_Mo hown hK hP mkM_o rfl 38 (by decide) (hT _ w898) (fun _ h9 => h9) rfl (fh_d d_Mo_sayBefore 13 rfl) ?_
        refine lv_iload_n hx hb (fh_d d_Mo_sayBefore 14 rfl) rfl (lv_at hl 3 rfl) ?_
        refine fn_iald (f := A 31) (k := n0) hx hb hK hP 0 mkM_a31 rfl (rfl) (by omega) (by decide) (fh_d d_Mo_sayBefore 15 rfl) ?_
        refine lv_aload_n hx hb (fh_d d_Mo_sayBefore 16 rfl) rfl (lv_at hl 2 rfl) ?_
        refine fh_get (own := "FormulaSetterModel") (ref := "FormulaSetterModel") (C := "FormulaSetterModel") (T := T_Mo) (N := 53) (v := .ref (x + 29)) hx hb hT i_Mo hown hK hP mkM_o rfl 35 (by decide) (hT _ w895) (fun _ h9 => h9) rfl (fh_d d_Mo_sayBefore 17 rfl) ?_
        refine lv_iload_n hx hb (fh_d d_Mo_sayBefore 18 rfl) rfl (lv_at hl 3 rfl) ?_
        refine fn_iald (f := A 28) (k := n0) hx hb hK hP 0 mkM_a28 rfl (rfl) (by omega) (by decide) (fh_d d_Mo_sayBefore 19 rfl) ?_
        refine lv_iadd hx hb (fh_d d_Mo_sayBefore 20 rfl) ?_
        refine lv_istore (lv' := [(4, .int (((A 31) n0) + ((A 28) n0))), (3, .int (yT s0)), (2, .int (yS s0)), (0, .ref x), (1, .int (nI n0))]) hx hb (fh_d d_Mo_sayBefore 21 rfl) hl (by decide) rfl (fun ls hl => ?_)
        refine lv_aload_n hx hb (fh_d d_Mo_sayBefore 22 rfl) rfl (lv_at hl 3 rfl) ?_
        refine fh_get (own := "FormulaSetterModel") (ref := "FormulaSetterModel") (C := "FormulaSetterModel") (T := T_Mo) (N := 53) (v := .ref (x + 33)) hx hb hT i_Mo hown hK hP mkM_o rfl 39 (by decide) (hT _ w899) (fun _ h9 => h9) rfl (fh_d d_Mo_sayBefore 23 rfl) ?_
        refine lv_iload_n hx hb (fh_d d_Mo_sayBefore 24 rfl) rfl (lv_at hl 4 rfl) ?_
        refine fn_iald (f := A 32) (k := n0) hx hb hK hP 0 mkM_a32 rfl (rfl) (by omega) (by decide) (fh_d d_Mo_sayBefore 25 rfl) ?_
        refine lv_istore (lv' := [(5, .int ((A 32) n0)), (4, .int (((A 31) n0) + ((A 28) n0))), (3, .int (yT s0)), (2, .int (yS s0)), (0, .ref x), (1, .int (nI n0))]) hx hb (fh_d d_Mo_sayBefore 26 rfl) hl (by decide) rfl (fun ls hl => ?_)
        refine lv_aload_n hx hb (fh_d d_Mo_sayBefore 27 rfl) rfl (lv_at hl 4 rfl) ?_
        refine fh_get (own := "FormulaSetterModel") (ref := "FormulaSetterModel") (C := "FormulaSetterModel") (T := T_Mo) (N := 53) (v := .ref (x + 2)) hx hb hT i_Mo hown hK hP mkM_o rfl 7 (by decide) (hT _ w867) (fun _ h9 => h9) rfl (fh_d d_Mo_sayBefore 28 rfl) ?_
        refine lv_iload_n hx hb (fh_d d_Mo_sayBefore 29 rfl) rfl (lv_at hl 5 rfl) ?_
        refine fn_iald (f := A 1) (k := n0) hx hb hK hP 0 mkM_a1 rfl (rfl) (by omega) (by decide) (fh_d d_Mo_sayBefore 30 rfl) ?_
        refine lv_iconst (v := 1) hx hb (fh_d d_Mo_sayBefore 31 rfl) (by decide) ?_
        refine lv_icmp_ne (tgt := 78) hx hb (fh_d d_Mo_sayBefore 32 rfl) rfl (fun c8 => ?_) (fun c8 => absurd c8 (kd1))
        refine lv_aload_n hx hb (fh_d d_Mo_sayBefore 48 rfl) rfl (lv_at hl 4 rfl) ?_
        refine fh_get (own := "FormulaSetterModel") (ref := "FormulaSetterModel") (C := "FormulaSetterModel") (T := T_Mo) (N := 53) (v := .ref (x + 2)) hx hb hT i_Mo hown hK hP mkM_o rfl 7 (by decide) (hT _ w867) (fun _ h9 => h9) rfl (fh_d d_Mo_sayBefore 49 rfl) ?_
        refine lv_iload_n hx hb (fh_d d_Mo_sayBefore 50 rfl) rfl (lv_at hl 5 rfl) ?_
        refine fn_iald (f := A 1) (k := n0) hx hb hK hP 0 mkM_a1 rfl (rfl) (by omega) (by decide) (fh_d d_Mo_sayBefore 51 rfl) ?_
        refine lv_iconst (v := 2) hx hb (fh_d d_Mo_sayBefore 52 rfl) (by decide) ?_
        refine lv_icmp_ne (tgt := 134) hx hb (fh_d d_Mo_sayBefore 53 rfl) rfl (fun c9 => absurd c9 (Classical.not_not.mpr (kd2))) (fun c9 => ?_)
        refine lv_aload_n hx hb (fh_d d_Mo_sayBefore 54 rfl) rfl (lv_at hl 4 rfl) ?_
        refine lv_iconst (v := 0) hx hb (fh_d d_Mo_sayBefore 55 rfl) (by decide) ?_
        refine lv_aload_n hx hb (fh_d d_Mo_sayBefore 56 rfl) rfl (lv_at hl 4 rfl) ?_
        refine fh_get (own := "FormulaSetterModel") (ref := "FormulaSetterModel") (C := "FormulaSetterModel") (T := T_Mo) (N := 53) (v := .ref (x + 3)) hx hb hT i_Mo hown hK hP mkM_o rfl 8 (by decide) (hT _ w868) (fun _ h9 => h9) rfl (fh_d d_Mo_sayBefore 57 rfl) ?_
        refine lv_iload_n hx hb (fh_d d_Mo_sayBefore 58 rfl) rfl (lv_at hl 5 rfl) ?_
        refine fn_iald (f := A 2) (k := n0) hx hb hK hP 0 mkM_a2 rfl (rfl) (by omega) (by decide) (fh_d d_Mo_sayBefore 59 rfl) ?_
        refine lv_iload hx hb (fh_d d_Mo_sayBefore 60 rfl) (lv_at hl 1 rfl) ?_
        refine lv_iload hx hb (fh_d d_Mo_sayBefore 61 rfl) (lv_at hl 0 rfl) ?_
        refine lv_aload_n hx hb (fh_d d_Mo_sayBefore 62 rfl) rfl (lv_at hl 4 rfl) ?_
        refine fh_get (own := "FormulaSetterModel") (ref := "FormulaSetterModel") (C := "FormulaSetterModel") (T := T_Mo) (N := 53) (v := .ref (x + 36)) hx hb hT i_Mo hown hK hP mkM_o rfl 42 (by decide) (hT _ w902) (fun _ h9 => h9) rfl (fh_d d_Mo_sayBefore 63 rfl) ?_
        refine lv_iload_n hx hb (fh_d d_Mo_sayBefore 64 rfl) rfl (lv_at hl 5 rfl) ?_
        refine fn_iald (f := A 35) (k := n0) hx hb hK hP 0 mkM_a35 rfl (rfl) (by omega) (by decide) (fh_d d_Mo_sayBefore 65 rfl) ?_
        refine lv_iadd hx hb (fh_d d_Mo_sayBefore 66 rfl) ?_
        refine lv_aload_n hx hb (fh_d d_Mo_sayBefore 67 rfl) rfl (lv_at hl 4 rfl) ?_
        refine fh_get (own := "FormulaSetterModel") (ref := "FormulaSetterModel") (C := "FormulaSetterModel") (T := T_Mo) (N := 53) (v := .ref (x + 21)) hx hb hT i_Mo hown hK hP mkM_o rfl 27 (by decide) (hT _ w887) (fun _ h9 => h9) rfl (fh_d d_Mo_sayBefore 68 rfl) ?_
        refine lv_iload_n hx hb (fh_d d_Mo_sayBefore 69 rfl) rfl (lv_at hl 5 rfl) ?_
        refine fn_iald (f := A 20) (k := n0) hx hb hK hP 0 mkM_a20 rfl (rfl) (by omega) (by decide) (fh_d d_Mo_sayBefore 70 rfl) ?_
        rw [show ((A 20) n0) = nI s0 from h20]
        refine lv_if_ne (tgt := 121) hx hb (fh_d d_Mo_sayBefore 71 rfl) rfl (fun c10 => absurd c10 (fun z => z (by rw [hs]; rfl))) (fun c10 => ?_)
        refine lv_bipush (v := 14) hx hb (fh_d d_Mo_sayBefore 72 rfl) (by decide) ?_
        refine lv_goto (tgt := 122) hx hb (fh_d d_Mo_sayBefore 73 rfl) rfl ?_
        refine lv_aload_n hx hb (fh_d d_Mo_sayBefore 75 rfl) rfl (lv_at hl 4 rfl) ?_
        refine fh_get (own := "FormulaSetterModel") (ref := "FormulaSetterModel") (C := "FormulaSetterModel") (T := T_Mo) (N := 53) (v := .ref (x + 23)) hx hb hT i_Mo hown hK hP mkM_o rfl 29 (by decide) (hT _ w889) (fun _ h9 => h9) rfl (fh_d d_Mo_sayBefore 76 rfl) ?_
        refine lv_iload_n hx hb (fh_d d_Mo_sayBefore 77 rfl) rfl (lv_at hl 5 rfl) ?_
        refine fn_iald (f := A 22) (k := n0) hx hb hK hP 0 mkM_a22 rfl (rfl) (by omega) (by decide) (fh_d d_Mo_sayBefore 78 rfl) ?_
        refine fh_callV (cc' := c_Mo_say) (nL' := 7) (rest := []) (a := x) (As := [.int 0, .int ((A 2) n0), .int (((A 31) n0) + ((A 28) n0)), .int (((A 32) n0) + ((A 35) n0)), .int 14, .int ((A 22) n0)]) X hR (m_Mo_say l D ct b RO (r - 1) n x g A th co at_ wr no nu op wi he de P (by omega) 0 ((A 2) n0) (((A 31) n0) + ((A 28) n0)) (((A 32) n0) + ((A 35) n0)) 14 ((A 22) n0)) w1213 w1210 w1212 v61 w9 ⟨by decide, by decide, by show _ = some 6; decide +kernel⟩ (by omega) (by decide) (fh_recv hK hP mkM_o rfl) hP hS hl.1 rfl (by exact Nat.le_of_ble_eq_true rfl) (fh_d d_Mo_sayBefore 79 rfl) ⟨Nat.le_refl _, Nat.le_refl _⟩ (fun v9 h9 n9 H locs hq hP hS => ?_)
        obtain ⟨rfl, u11, u12⟩ := hq
        rw [u11, u12] at hP
        refine W.eq (g2 := F0 m 131 ls []) rfl ?_
        refine lv_goto (tgt := 261) hx hb (fh_d d_Mo_sayBefore 80 rfl) rfl ?_
        exact fh_vret X hP hS (fh_d d_Mo_sayBefore 165 rfl) ⟨rfl, by unfold rf_sb; rw [if_neg kd1, if_pos kd2, if_pos hs]; (try rfl), rfl⟩
      · skip
        refine lv_aload_n hx hb (fh_d d_Mo_sayBefore 0 rfl) rfl (lv_at hl 0 rfl) ?_
        refine fh_get (own := "FormulaSetterModel") (ref := "FormulaSetterModel") (C := "FormulaSetterModel") (T := T_Mo) (N := 53) (v := .ref (x + 21)) hx hb hT i_Mo hown hK hP mkM_o rfl 27 (by decide) (hT _ w887) (fun _ h9 => h9) rfl (fh_d d_Mo_sayBefore 1 rfl) ?_
        refine lv_iload_n hx hb (fh_d d_Mo_sayBefore 2 rfl) rfl (lv_at hl 1 rfl) ?_
        refine fn_iald (f := A 20) (k := n0) hx hb hK hP 0 mkM_a20 rfl (rfl) (by omega) (by decide) (fh_d d_Mo_sayBefore 3 rfl) ?_
        rw [show ((A 20) n0) = nI s0 from h20]
        refine fh_callS (cc' := c_Mo_zOf) (nL' := 1) (rest := []) (av := [.int (nI s0)]) X hR (m_Mo_zO l D ct b RO hR (r - 1) (by omega) n s0 hs0 (mkM ct x g A th co at_ wr no nu op (nI P) wi he de)) w1139 w1137 w1138 w9 ⟨by decide, by decide, by show _ = some 1; decide +kernel⟩ (by omega) (by decide) hP hS hl.1 rfl (by exact Nat.le_of_ble_eq_true rfl) (fh_d d_Mo_sayBefore 4 rfl) ⟨Nat.le_refl _, Nat.le_refl _⟩ (fun v9 h9 n9 H locs hq hP hS => ?_)
        obtain ⟨rfl, q13a, q13b⟩ := hq
        rw [q13a, q13b] at hP
        refine W.eq (g2 := F0 m 9 ls [.int (yS s0)]) rfl ?_
        refine lv_istore_n (lv' := [(2, .int (yS s0)), (0, .ref x), (1, .int (nI n0))]) hx hb (fh_d d_Mo_sayBefore 5 rfl) rfl hl (by decide) rfl (fun ls hl => ?_)
        refine lv_aload_n hx hb (fh_d d_Mo_sayBefore 6 rfl) rfl (lv_at hl 1 rfl) ?_
        refine fh_get (own := "FormulaSetterModel") (ref := "FormulaSetterModel") (C := "FormulaSetterModel") (T := T_Mo) (N := 53) (v := .ref (x + 21)) hx hb hT i_Mo hown hK hP mkM_o rfl 27 (by decide) (hT _ w887) (fun _ h9 => h9) rfl (fh_d d_Mo_sayBefore 7 rfl) ?_
        refine lv_iload_n hx hb (fh_d d_Mo_sayBefore 8 rfl) rfl (lv_at hl 2 rfl) ?_
        refine fn_iald (f := A 20) (k := n0) hx hb hK hP 0 mkM_a20 rfl (rfl) (by omega) (by decide) (fh_d d_Mo_sayBefore 9 rfl) ?_
        rw [show ((A 20) n0) = nI s0 from h20]
        refine fh_callS (cc' := c_Mo_tOf) (nL' := 1) (rest := []) (av := [.int (nI s0)]) X hR (m_Mo_tO l D ct b RO hR (r - 1) (by omega) n s0 hs0 (mkM ct x g A th co at_ wr no nu op (nI P) wi he de)) w1174 w1172 w1173 w9 ⟨by decide, by decide, by show _ = some 1; decide +kernel⟩ (by omega) (by decide) hP hS hl.1 rfl (by exact Nat.le_of_ble_eq_true rfl) (fh_d d_Mo_sayBefore 10 rfl) ⟨Nat.le_refl _, Nat.le_refl _⟩ (fun v9 h9 n9 H locs hq hP hS => ?_)
        obtain ⟨rfl, q14a, q14b⟩ := hq
        rw [q14a, q14b] at hP
        refine W.eq (g2 := F0 m 19 ls [.int (yT s0)]) rfl ?_
        refine lv_istore_n (lv' := [(3, .int (yT s0)), (2, .int (yS s0)), (0, .ref x), (1, .int (nI n0))]) hx hb (fh_d d_Mo_sayBefore 11 rfl) rfl hl (by decide) rfl (fun ls hl => ?_)
        refine lv_aload_n hx hb (fh_d d_Mo_sayBefore 12 rfl) rfl (lv_at hl 2 rfl) ?_
        refine fh_get (own := "FormulaSetterModel") (ref := "FormulaSetterModel") (C := "FormulaSetterModel") (T := T_Mo) (N := 53) (v := .ref (x + 32)) hx hb hT i_Mo hown hK hP mkM_o rfl 38 (by decide) (hT _ w898) (fun _ h9 => h9) rfl (fh_d d_Mo_sayBefore 13 rfl) ?_
        refine lv_iload_n hx hb (fh_d d_Mo_sayBefore 14 rfl) rfl (lv_at hl 3 rfl) ?_
        refine fn_iald (f := A 31) (k := n0) hx hb hK hP 0 mkM_a31 rfl (rfl) (by omega) (by decide) (fh_d d_Mo_sayBefore 15 rfl) ?_
        refine lv_aload_n hx hb (fh_d d_Mo_sayBefore 16 rfl) rfl (lv_at hl 2 rfl) ?_
        refine fh_get (own := "FormulaSetterModel") (ref := "FormulaSetterModel") (C := "FormulaSetterModel") (T := T_Mo) (N := 53) (v := .ref (x + 29)) hx hb hT i_Mo hown hK hP mkM_o rfl 35 (by decide) (hT _ w895) (fun _ h9 => h9) rfl (fh_d d_Mo_sayBefore 17 rfl) ?_
        refine lv_iload_n hx hb (fh_d d_Mo_sayBefore 18 rfl) rfl (lv_at hl 3 rfl) ?_
        refine fn_iald (f := A 28) (k := n0) hx hb hK hP 0 mkM_a28 rfl (rfl) (by omega) (by decide) (fh_d d_Mo_sayBefore 19 rfl) ?_
        refine lv_iadd hx hb (fh_d d_Mo_sayBefore 20 rfl) ?_
        refine lv_istore (lv' := [(4, .int (((A 31) n0) + ((A 28) n0))), (3, .int (yT s0)), (2, .int (yS s0)), (0, .ref x), (1, .int (nI n0))]) hx hb (fh_d d_Mo_sayBefore 21 rfl) hl (by decide) rfl (fun ls hl => ?_)
        refine lv_aload_n hx hb (fh_d d_Mo_sayBefore 22 rfl) rfl (lv_at hl 3 rfl) ?_
        refine fh_get (own := "FormulaSetterModel") (ref := "FormulaSetterModel") (C := "FormulaSetterModel") (T := T_Mo) (N := 53) (v := .ref (x + 33)) hx hb hT i_Mo hown hK hP mkM_o rfl 39 (by decide) (hT _ w899) (fun _ h9 => h9) rfl (fh_d d_Mo_sayBefore 23 rfl) ?_
        refine lv_iload_n hx hb (fh_d d_Mo_sayBefore 24 rfl) rfl (lv_at hl 4 rfl) ?_
        refine fn_iald (f := A 32) (k := n0) hx hb hK hP 0 mkM_a32 rfl (rfl) (by omega) (by decide) (fh_d d_Mo_sayBefore 25 rfl) ?_
        refine lv_istore (lv' := [(5, .int ((A 32) n0)), (4, .int (((A 31) n0) + ((A 28) n0))), (3, .int (yT s0)), (2, .int (yS s0)), (0, .ref x), (1, .int (nI n0))]) hx hb (fh_d d_Mo_sayBefore 26 rfl) hl (by decide) rfl (fun ls hl => ?_)
        refine lv_aload_n hx hb (fh_d d_Mo_sayBefore 27 rfl) rfl (lv_at hl 4 rfl) ?_
        refine fh_get (own := "FormulaSetterModel") (ref := "FormulaSetterModel") (C := "FormulaSetterModel") (T := T_Mo) (N := 53) (v := .ref (x + 2)) hx hb hT i_Mo hown hK hP mkM_o rfl 7 (by decide) (hT _ w867) (fun _ h9 => h9) rfl (fh_d d_Mo_sayBefore 28 rfl) ?_
        refine lv_iload_n hx hb (fh_d d_Mo_sayBefore 29 rfl) rfl (lv_at hl 5 rfl) ?_
        refine fn_iald (f := A 1) (k := n0) hx hb hK hP 0 mkM_a1 rfl (rfl) (by omega) (by decide) (fh_d d_Mo_sayBefore 30 rfl) ?_
        refine lv_iconst (v := 1) hx hb (fh_d d_Mo_sayBefore 31 rfl) (by decide) ?_
        refine lv_icmp_ne (tgt := 78) hx hb (fh_d d_Mo_sayBefore 32 rfl) rfl (fun c15 => ?_) (fun c15 => absurd c15 (kd1))
        refine lv_aload_n hx hb (fh_d d_Mo_sayBefore 48 rfl) rfl (lv_at hl 4 rfl) ?_
        refine fh_get (own := "FormulaSetterModel") (ref := "FormulaSetterModel") (C := "FormulaSetterModel") (T := T_Mo) (N := 53) (v := .ref (x + 2)) hx hb hT i_Mo hown hK hP mkM_o rfl 7 (by decide) (hT _ w867) (fun _ h9 => h9) rfl (fh_d d_Mo_sayBefore 49 rfl) ?_
        refine lv_iload_n hx hb (fh_d d_Mo_sayBefore 50 rfl) rfl (lv_at hl 5 rfl) ?_
        refine fn_iald (f := A 1) (k := n0) hx hb hK hP 0 mkM_a1 rfl (rfl) (by omega) (by decide) (fh_d d_Mo_sayBefore 51 rfl) ?_
        refine lv_iconst (v := 2) hx hb (fh_d d_Mo_sayBefore 52 rfl) (by decide) ?_
        refine lv_icmp_ne (tgt := 134) hx hb (fh_d d_Mo_sayBefore 53 rfl) rfl (fun c16 => absurd c16 (Classical.not_not.mpr (kd2))) (fun c16 => ?_)
        refine lv_aload_n hx hb (fh_d d_Mo_sayBefore 54 rfl) rfl (lv_at hl 4 rfl) ?_
        refine lv_iconst (v := 0) hx hb (fh_d d_Mo_sayBefore 55 rfl) (by decide) ?_
        refine lv_aload_n hx hb (fh_d d_Mo_sayBefore 56 rfl) rfl (lv_at hl 4 rfl) ?_
        refine fh_get (own := "FormulaSetterModel") (ref := "FormulaSetterModel") (C := "FormulaSetterModel") (T := T_Mo) (N := 53) (v := .ref (x + 3)) hx hb hT i_Mo hown hK hP mkM_o rfl 8 (by decide) (hT _ w868) (fun _ h9 => h9) rfl (fh_d d_Mo_sayBefore 57 rfl) ?_
        refine lv_iload_n hx hb (fh_d d_Mo_sayBefore 58 rfl) rfl (lv_at hl 5 rfl) ?_
        refine fn_iald (f := A 2) (k := n0) hx hb hK hP 0 mkM_a2 rfl (rfl) (by omega) (by decide) (fh_d d_Mo_sayBefore 59 rfl) ?_
        refine lv_iload hx hb (fh_d d_Mo_sayBefore 60 rfl) (lv_at hl 1 rfl) ?_
        refine lv_iload hx hb (fh_d d_Mo_sayBefore 61 rfl) (lv_at hl 0 rfl) ?_
        refine lv_aload_n hx hb (fh_d d_Mo_sayBefore 62 rfl) rfl (lv_at hl 4 rfl) ?_
        refine fh_get (own := "FormulaSetterModel") (ref := "FormulaSetterModel") (C := "FormulaSetterModel") (T := T_Mo) (N := 53) (v := .ref (x + 36)) hx hb hT i_Mo hown hK hP mkM_o rfl 42 (by decide) (hT _ w902) (fun _ h9 => h9) rfl (fh_d d_Mo_sayBefore 63 rfl) ?_
        refine lv_iload_n hx hb (fh_d d_Mo_sayBefore 64 rfl) rfl (lv_at hl 5 rfl) ?_
        refine fn_iald (f := A 35) (k := n0) hx hb hK hP 0 mkM_a35 rfl (rfl) (by omega) (by decide) (fh_d d_Mo_sayBefore 65 rfl) ?_
        refine lv_iadd hx hb (fh_d d_Mo_sayBefore 66 rfl) ?_
        refine lv_aload_n hx hb (fh_d d_Mo_sayBefore 67 rfl) rfl (lv_at hl 4 rfl) ?_
        refine fh_get (own := "FormulaSetterModel") (ref := "FormulaSetterModel") (C := "FormulaSetterModel") (T := T_Mo) (N := 53) (v := .ref (x + 21)) hx hb hT i_Mo hown hK hP mkM_o rfl 27 (by decide) (hT _ w887) (fun _ h9 => h9) rfl (fh_d d_Mo_sayBefore 68 rfl) ?_
        refine lv_iload_n hx hb (fh_d d_Mo_sayBefore 69 rfl) rfl (lv_at hl 5 rfl) ?_
        refine fn_iald (f := A 20) (k := n0) hx hb hK hP 0 mkM_a20 rfl (rfl) (by omega) (by decide) (fh_d d_Mo_sayBefore 70 rfl) ?_
        rw [show ((A 20) n0) = nI s0 from h20]
        refine lv_if_ne (tgt := 121) hx hb (fh_d d_Mo_sayBefore 71 rfl) rfl (fun c17 => ?_) (fun c17 => absurd c17 (fun z => hs (nI_z hs0 z)))
        refine lv_iload_n hx hb (fh_d d_Mo_sayBefore 74 rfl) rfl (lv_at hl 3 rfl) ?_
        refine lv_aload_n hx hb (fh_d d_Mo_sayBefore 75 rfl) rfl (lv_at hl 4 rfl) ?_
        refine fh_get (own := "FormulaSetterModel") (ref := "FormulaSetterModel") (C := "FormulaSetterModel") (T := T_Mo) (N := 53) (v := .ref (x + 23)) hx hb hT i_Mo hown hK hP mkM_o rfl 29 (by decide) (hT _ w889) (fun _ h9 => h9) rfl (fh_d d_Mo_sayBefore 76 rfl) ?_
        refine lv_iload_n hx hb (fh_d d_Mo_sayBefore 77 rfl) rfl (lv_at hl 5 rfl) ?_
        refine fn_iald (f := A 22) (k := n0) hx hb hK hP 0 mkM_a22 rfl (rfl) (by omega) (by decide) (fh_d d_Mo_sayBefore 78 rfl) ?_
        refine fh_callV (cc' := c_Mo_say) (nL' := 7) (rest := []) (a := x) (As := [.int 0, .int ((A 2) n0), .int (((A 31) n0) + ((A 28) n0)), .int (((A 32) n0) + ((A 35) n0)), .int (yS s0), .int ((A 22) n0)]) X hR (m_Mo_say l D ct b RO (r - 1) n x g A th co at_ wr no nu op wi he de P (by omega) 0 ((A 2) n0) (((A 31) n0) + ((A 28) n0)) (((A 32) n0) + ((A 35) n0)) (yS s0) ((A 22) n0)) w1213 w1210 w1212 v61 w9 ⟨by decide, by decide, by show _ = some 6; decide +kernel⟩ (by omega) (by decide) (fh_recv hK hP mkM_o rfl) hP hS hl.1 rfl (by exact Nat.le_of_ble_eq_true rfl) (fh_d d_Mo_sayBefore 79 rfl) ⟨Nat.le_refl _, Nat.le_refl _⟩ (fun v9 h9 n9 H locs hq hP hS => ?_)
        obtain ⟨rfl, u18, u19⟩ := hq
        rw [u18, u19] at hP
        refine W.eq (g2 := F0 m 131 ls []) rfl ?_
        refine lv_goto (tgt := 261) hx hb (fh_d d_Mo_sayBefore 80 rfl) rfl ?_
        exact fh_vret X hP hS (fh_d d_Mo_sayBefore 165 rfl) ⟨rfl, by unfold rf_sb; rw [if_neg kd1, if_pos kd2, if_neg hs]; (try rfl), rfl⟩
    · skip
      by_cases kd5 : A 1 n0 = 5
      · skip
        refine lv_aload_n hx hb (fh_d d_Mo_sayBefore 0 rfl) rfl (lv_at hl 0 rfl) ?_
        refine fh_get (own := "FormulaSetterModel") (ref := "FormulaSetterModel") (C := "FormulaSetterModel") (T := T_Mo) (N := 53) (v := .ref (x + 21)) hx hb hT i_Mo hown hK hP mkM_o rfl 27 (by decide) (hT _ w887) (fun _ h9 => h9) rfl (fh_d d_Mo_sayBefore 1 rfl) ?_
        refine lv_iload_n hx hb (fh_d d_Mo_sayBefore 2 rfl) rfl (lv_at hl 1 rfl) ?_
        refine fn_iald (f := A 20) (k := n0) hx hb hK hP 0 mkM_a20 rfl (rfl) (by omega) (by decide) (fh_d d_Mo_sayBefore 3 rfl) ?_
        rw [show ((A 20) n0) = nI s0 from h20]
        refine fh_callS (cc' := c_Mo_zOf) (nL' := 1) (rest := []) (av := [.int (nI s0)]) X hR (m_Mo_zO l D ct b RO hR (r - 1) (by omega) n s0 hs0 (mkM ct x g A th co at_ wr no nu op (nI P) wi he de)) w1139 w1137 w1138 w9 ⟨by decide, by decide, by show _ = some 1; decide +kernel⟩ (by omega) (by decide) hP hS hl.1 rfl (by exact Nat.le_of_ble_eq_true rfl) (fh_d d_Mo_sayBefore 4 rfl) ⟨Nat.le_refl _, Nat.le_refl _⟩ (fun v9 h9 n9 H locs hq hP hS => ?_)
        obtain ⟨rfl, q20a, q20b⟩ := hq
        rw [q20a, q20b] at hP
        refine W.eq (g2 := F0 m 9 ls [.int (yS s0)]) rfl ?_
        refine lv_istore_n (lv' := [(2, .int (yS s0)), (0, .ref x), (1, .int (nI n0))]) hx hb (fh_d d_Mo_sayBefore 5 rfl) rfl hl (by decide) rfl (fun ls hl => ?_)
        refine lv_aload_n hx hb (fh_d d_Mo_sayBefore 6 rfl) rfl (lv_at hl 1 rfl) ?_
        refine fh_get (own := "FormulaSetterModel") (ref := "FormulaSetterModel") (C := "FormulaSetterModel") (T := T_Mo) (N := 53) (v := .ref (x + 21)) hx hb hT i_Mo hown hK hP mkM_o rfl 27 (by decide) (hT _ w887) (fun _ h9 => h9) rfl (fh_d d_Mo_sayBefore 7 rfl) ?_
        refine lv_iload_n hx hb (fh_d d_Mo_sayBefore 8 rfl) rfl (lv_at hl 2 rfl) ?_
        refine fn_iald (f := A 20) (k := n0) hx hb hK hP 0 mkM_a20 rfl (rfl) (by omega) (by decide) (fh_d d_Mo_sayBefore 9 rfl) ?_
        rw [show ((A 20) n0) = nI s0 from h20]
        refine fh_callS (cc' := c_Mo_tOf) (nL' := 1) (rest := []) (av := [.int (nI s0)]) X hR (m_Mo_tO l D ct b RO hR (r - 1) (by omega) n s0 hs0 (mkM ct x g A th co at_ wr no nu op (nI P) wi he de)) w1174 w1172 w1173 w9 ⟨by decide, by decide, by show _ = some 1; decide +kernel⟩ (by omega) (by decide) hP hS hl.1 rfl (by exact Nat.le_of_ble_eq_true rfl) (fh_d d_Mo_sayBefore 10 rfl) ⟨Nat.le_refl _, Nat.le_refl _⟩ (fun v9 h9 n9 H locs hq hP hS => ?_)
        obtain ⟨rfl, q21a, q21b⟩ := hq
        rw [q21a, q21b] at hP
        refine W.eq (g2 := F0 m 19 ls [.int (yT s0)]) rfl ?_
        refine lv_istore_n (lv' := [(3, .int (yT s0)), (2, .int (yS s0)), (0, .ref x), (1, .int (nI n0))]) hx hb (fh_d d_Mo_sayBefore 11 rfl) rfl hl (by decide) rfl (fun ls hl => ?_)
        refine lv_aload_n hx hb (fh_d d_Mo_sayBefore 12 rfl) rfl (lv_at hl 2 rfl) ?_
        refine fh_get (own := "FormulaSetterModel") (ref := "FormulaSetterModel") (C := "FormulaSetterModel") (T := T_Mo) (N := 53) (v := .ref (x + 32)) hx hb hT i_Mo hown hK hP mkM_o rfl 38 (by decide) (hT _ w898) (fun _ h9 => h9) rfl (fh_d d_Mo_sayBefore 13 rfl) ?_
        refine lv_iload_n hx hb (fh_d d_Mo_sayBefore 14 rfl) rfl (lv_at hl 3 rfl) ?_
        refine fn_iald (f := A 31) (k := n0) hx hb hK hP 0 mkM_a31 rfl (rfl) (by omega) (by decide) (fh_d d_Mo_sayBefore 15 rfl) ?_
        refine lv_aload_n hx hb (fh_d d_Mo_sayBefore 16 rfl) rfl (lv_at hl 2 rfl) ?_
        refine fh_get (own := "FormulaSetterModel") (ref := "FormulaSetterModel") (C := "FormulaSetterModel") (T := T_Mo) (N := 53) (v := .ref (x + 29)) hx hb hT i_Mo hown hK hP mkM_o rfl 35 (by decide) (hT _ w895) (fun _ h9 => h9) rfl (fh_d d_Mo_sayBefore 17 rfl) ?_
        refine lv_iload_n hx hb (fh_d d_Mo_sayBefore 18 rfl) rfl (lv_at hl 3 rfl) ?_
        refine fn_iald (f := A 28) (k := n0) hx hb hK hP 0 mkM_a28 rfl (rfl) (by omega) (by decide) (fh_d d_Mo_sayBefore 19 rfl) ?_
        refine lv_iadd hx hb (fh_d d_Mo_sayBefore 20 rfl) ?_
        refine lv_istore (lv' := [(4, .int (((A 31) n0) + ((A 28) n0))), (3, .int (yT s0)), (2, .int (yS s0)), (0, .ref x), (1, .int (nI n0))]) hx hb (fh_d d_Mo_sayBefore 21 rfl) hl (by decide) rfl (fun ls hl => ?_)
        refine lv_aload_n hx hb (fh_d d_Mo_sayBefore 22 rfl) rfl (lv_at hl 3 rfl) ?_
        refine fh_get (own := "FormulaSetterModel") (ref := "FormulaSetterModel") (C := "FormulaSetterModel") (T := T_Mo) (N := 53) (v := .ref (x + 33)) hx hb hT i_Mo hown hK hP mkM_o rfl 39 (by decide) (hT _ w899) (fun _ h9 => h9) rfl (fh_d d_Mo_sayBefore 23 rfl) ?_
        refine lv_iload_n hx hb (fh_d d_Mo_sayBefore 24 rfl) rfl (lv_at hl 4 rfl) ?_
        refine fn_iald (f := A 32) (k := n0) hx hb hK hP 0 mkM_a32 rfl (rfl) (by omega) (by decide) (fh_d d_Mo_sayBefore 25 rfl) ?_
        refine lv_istore (lv' := [(5, .int ((A 32) n0)), (4, .int (((A 31) n0) + ((A 28) n0))), (3, .int (yT s0)), (2, .int (yS s0)), (0, .ref x), (1, .int (nI n0))]) hx hb (fh_d d_Mo_sayBefore 26 rfl) hl (by decide) rfl (fun ls hl => ?_)
        refine lv_aload_n hx hb (fh_d d_Mo_sayBefore 27 rfl) rfl (lv_at hl 4 rfl) ?_
        refine fh_get (own := "FormulaSetterModel") (ref := "FormulaSetterModel") (C := "FormulaSetterModel") (T := T_Mo) (N := 53) (v := .ref (x + 2)) hx hb hT i_Mo hown hK hP mkM_o rfl 7 (by decide) (hT _ w867) (fun _ h9 => h9) rfl (fh_d d_Mo_sayBefore 28 rfl) ?_
        refine lv_iload_n hx hb (fh_d d_Mo_sayBefore 29 rfl) rfl (lv_at hl 5 rfl) ?_
        refine fn_iald (f := A 1) (k := n0) hx hb hK hP 0 mkM_a1 rfl (rfl) (by omega) (by decide) (fh_d d_Mo_sayBefore 30 rfl) ?_
        refine lv_iconst (v := 1) hx hb (fh_d d_Mo_sayBefore 31 rfl) (by decide) ?_
        refine lv_icmp_ne (tgt := 78) hx hb (fh_d d_Mo_sayBefore 32 rfl) rfl (fun c22 => ?_) (fun c22 => absurd c22 (kd1))
        refine lv_aload_n hx hb (fh_d d_Mo_sayBefore 48 rfl) rfl (lv_at hl 4 rfl) ?_
        refine fh_get (own := "FormulaSetterModel") (ref := "FormulaSetterModel") (C := "FormulaSetterModel") (T := T_Mo) (N := 53) (v := .ref (x + 2)) hx hb hT i_Mo hown hK hP mkM_o rfl 7 (by decide) (hT _ w867) (fun _ h9 => h9) rfl (fh_d d_Mo_sayBefore 49 rfl) ?_
        refine lv_iload_n hx hb (fh_d d_Mo_sayBefore 50 rfl) rfl (lv_at hl 5 rfl) ?_
        refine fn_iald (f := A 1) (k := n0) hx hb hK hP 0 mkM_a1 rfl (rfl) (by omega) (by decide) (fh_d d_Mo_sayBefore 51 rfl) ?_
        refine lv_iconst (v := 2) hx hb (fh_d d_Mo_sayBefore 52 rfl) (by decide) ?_
        refine lv_icmp_ne (tgt := 134) hx hb (fh_d d_Mo_sayBefore 53 rfl) rfl (fun c23 => ?_) (fun c23 => absurd c23 (kd2))
        refine lv_aload_n hx hb (fh_d d_Mo_sayBefore 81 rfl) rfl (lv_at hl 4 rfl) ?_
        refine fh_get (own := "FormulaSetterModel") (ref := "FormulaSetterModel") (C := "FormulaSetterModel") (T := T_Mo) (N := 53) (v := .ref (x + 2)) hx hb hT i_Mo hown hK hP mkM_o rfl 7 (by decide) (hT _ w867) (fun _ h9 => h9) rfl (fh_d d_Mo_sayBefore 82 rfl) ?_
        refine lv_iload_n hx hb (fh_d d_Mo_sayBefore 83 rfl) rfl (lv_at hl 5 rfl) ?_
        refine fn_iald (f := A 1) (k := n0) hx hb hK hP 0 mkM_a1 rfl (rfl) (by omega) (by decide) (fh_d d_Mo_sayBefore 84 rfl) ?_
        refine lv_iconst (v := 5) hx hb (fh_d d_Mo_sayBefore 85 rfl) (by decide) ?_
        refine lv_icmp_ne (tgt := 208) hx hb (fh_d d_Mo_sayBefore 86 rfl) rfl (fun c24 => absurd c24 (Classical.not_not.mpr (kd5))) (fun c24 => ?_)
        refine lv_aload_n hx hb (fh_d d_Mo_sayBefore 87 rfl) rfl (lv_at hl 4 rfl) ?_
        refine lv_iconst (v := 2) hx hb (fh_d d_Mo_sayBefore 88 rfl) (by decide) ?_
        refine lv_bipush (v := 35) hx hb (fh_d d_Mo_sayBefore 89 rfl) (by decide) ?_
        refine lv_iload hx hb (fh_d d_Mo_sayBefore 90 rfl) (lv_at hl 1 rfl) ?_
        refine lv_iload hx hb (fh_d d_Mo_sayBefore 91 rfl) (lv_at hl 0 rfl) ?_
        refine lv_aload_n hx hb (fh_d d_Mo_sayBefore 92 rfl) rfl (lv_at hl 4 rfl) ?_
        refine fh_get (own := "FormulaSetterModel") (ref := "FormulaSetterModel") (C := "FormulaSetterModel") (T := T_Mo) (N := 53) (v := .ref (x + 36)) hx hb hT i_Mo hown hK hP mkM_o rfl 42 (by decide) (hT _ w902) (fun _ h9 => h9) rfl (fh_d d_Mo_sayBefore 93 rfl) ?_
        refine lv_iload_n hx hb (fh_d d_Mo_sayBefore 94 rfl) rfl (lv_at hl 5 rfl) ?_
        refine fn_iald (f := A 35) (k := n0) hx hb hK hP 0 mkM_a35 rfl (rfl) (by omega) (by decide) (fh_d d_Mo_sayBefore 95 rfl) ?_
        refine lv_iadd hx hb (fh_d d_Mo_sayBefore 96 rfl) ?_
        refine lv_aload_n hx hb (fh_d d_Mo_sayBefore 97 rfl) rfl (lv_at hl 4 rfl) ?_
        refine fh_get (own := "FormulaSetterModel") (ref := "FormulaSetterModel") (C := "FormulaSetterModel") (T := T_Mo) (N := 53) (v := .ref (x + 35)) hx hb hT i_Mo hown hK hP mkM_o rfl 41 (by decide) (hT _ w901) (fun _ h9 => h9) rfl (fh_d d_Mo_sayBefore 98 rfl) ?_
        refine lv_iload_n hx hb (fh_d d_Mo_sayBefore 99 rfl) rfl (lv_at hl 5 rfl) ?_
        refine fn_iald (f := A 34) (k := n0) hx hb hK hP 0 mkM_a34 rfl (rfl) (by omega) (by decide) (fh_d d_Mo_sayBefore 100 rfl) ?_
        refine lv_iconst (v := 5) hx hb (fh_d d_Mo_sayBefore 101 rfl) (by decide) ?_
        refine lv_iload_n hx hb (fh_d d_Mo_sayBefore 102 rfl) rfl (lv_at hl 3 rfl) ?_
        refine lv_imul hx hb (fh_d d_Mo_sayBefore 103 rfl) ?_
        refine fh_callV (cc' := c_Mo_say) (nL' := 7) (rest := []) (a := x) (As := [.int 2, .int 35, .int (((A 31) n0) + ((A 28) n0)), .int (((A 32) n0) + ((A 35) n0)), .int ((A 34) n0), .int (5 * (yS s0))]) X hR (m_Mo_say l D ct b RO (r - 1) n x g A th co at_ wr no nu op wi he de P (by omega) 2 35 (((A 31) n0) + ((A 28) n0)) (((A 32) n0) + ((A 35) n0)) ((A 34) n0) (5 * (yS s0))) w1213 w1210 w1212 v61 w9 ⟨by decide, by decide, by show _ = some 6; decide +kernel⟩ (by omega) (by decide) (fh_recv hK hP mkM_o rfl) hP hS hl.1 rfl (by exact Nat.le_of_ble_eq_true rfl) (fh_d d_Mo_sayBefore 104 rfl) ⟨Nat.le_refl _, Nat.le_refl _⟩ (fun v9 h9 n9 H locs hq hP hS => ?_)
        obtain ⟨rfl, u25, u26⟩ := hq
        rw [u25, u26] at hP
        refine W.eq (g2 := F0 m 171 ls []) rfl ?_
        refine lv_aload_n hx hb (fh_d d_Mo_sayBefore 105 rfl) rfl (lv_at hl 4 rfl) ?_
        refine lv_iconst (v := 1) hx hb (fh_d d_Mo_sayBefore 106 rfl) (by decide) ?_
        refine lv_iconst (v := 0) hx hb (fh_d d_Mo_sayBefore 107 rfl) (by decide) ?_
        refine lv_iload hx hb (fh_d d_Mo_sayBefore 108 rfl) (lv_at hl 1 rfl) ?_
        refine lv_iconst (v := 5) hx hb (fh_d d_Mo_sayBefore 109 rfl) (by decide) ?_
        refine lv_iload_n hx hb (fh_d d_Mo_sayBefore 110 rfl) rfl (lv_at hl 3 rfl) ?_
        refine lv_imul hx hb (fh_d d_Mo_sayBefore 111 rfl) ?_
        refine lv_iadd hx hb (fh_d d_Mo_sayBefore 112 rfl) ?_
        refine lv_iload hx hb (fh_d d_Mo_sayBefore 113 rfl) (lv_at hl 0 rfl) ?_
        refine lv_aload_n hx hb (fh_d d_Mo_sayBefore 114 rfl) rfl (lv_at hl 4 rfl) ?_
        refine fh_get (own := "FormulaSetterModel") (ref := "FormulaSetterModel") (C := "FormulaSetterModel") (T := T_Mo) (N := 53) (v := .ref (x + 24)) hx hb hT i_Mo hown hK hP mkM_o rfl 30 (by decide) (hT _ w890) (fun _ h9 => h9) rfl (fh_d d_Mo_sayBefore 115 rfl) ?_
        refine lv_iload_n hx hb (fh_d d_Mo_sayBefore 116 rfl) rfl (lv_at hl 5 rfl) ?_
        refine fn_iald (f := A 23) (k := n0) hx hb hK hP 0 mkM_a23 rfl (rfl) (by omega) (by decide) (fh_d d_Mo_sayBefore 117 rfl) ?_
        refine lv_iadd hx hb (fh_d d_Mo_sayBefore 118 rfl) ?_
        refine lv_iload_n hx hb (fh_d d_Mo_sayBefore 119 rfl) rfl (lv_at hl 2 rfl) ?_
        refine lv_isub hx hb (fh_d d_Mo_sayBefore 120 rfl) ?_
        refine lv_iload_n hx hb (fh_d d_Mo_sayBefore 121 rfl) rfl (lv_at hl 2 rfl) ?_
        refine lv_aload_n hx hb (fh_d d_Mo_sayBefore 122 rfl) rfl (lv_at hl 4 rfl) ?_
        refine fh_get (own := "FormulaSetterModel") (ref := "FormulaSetterModel") (C := "FormulaSetterModel") (T := T_Mo) (N := 53) (v := .ref (x + 23)) hx hb hT i_Mo hown hK hP mkM_o rfl 29 (by decide) (hT _ w889) (fun _ h9 => h9) rfl (fh_d d_Mo_sayBefore 123 rfl) ?_
        refine lv_iload_n hx hb (fh_d d_Mo_sayBefore 124 rfl) rfl (lv_at hl 5 rfl) ?_
        refine fn_iald (f := A 22) (k := n0) hx hb hK hP 0 mkM_a22 rfl (rfl) (by omega) (by decide) (fh_d d_Mo_sayBefore 125 rfl) ?_
        refine lv_iconst (v := 5) hx hb (fh_d d_Mo_sayBefore 126 rfl) (by decide) ?_
        refine lv_iload_n hx hb (fh_d d_Mo_sayBefore 127 rfl) rfl (lv_at hl 3 rfl) ?_
        refine lv_imul hx hb (fh_d d_Mo_sayBefore 128 rfl) ?_
        refine lv_isub hx hb (fh_d d_Mo_sayBefore 129 rfl) ?_
        refine fh_callV (cc' := c_Mo_say) (nL' := 7) (rest := []) (a := x) (As := [.int 1, .int 0, .int ((((A 31) n0) + ((A 28) n0)) + (5 * (yS s0))), .int ((((A 32) n0) + ((A 23) n0)) - (yT s0)), .int (yT s0), .int (((A 22) n0) - (5 * (yS s0)))]) X hR (m_Mo_say l D ct b RO (r - 1) n x g (rf_say A P 2 35 (((A 31) n0) + ((A 28) n0)) (((A 32) n0) + ((A 35) n0)) ((A 34) n0) (5 * (yS s0))) th co at_ wr no nu op wi he de (P + 1) (by omega) 1 0 ((((A 31) n0) + ((A 28) n0)) + (5 * (yS s0))) ((((A 32) n0) + ((A 23) n0)) - (yT s0)) (yT s0) (((A 22) n0) - (5 * (yS s0)))) w1213 w1210 w1212 v61 w9 ⟨by decide, by decide, by show _ = some 6; decide +kernel⟩ (by omega) (by decide) (fh_recv hK hP mkM_o rfl) hP hS hl.1 rfl (by exact Nat.le_of_ble_eq_true rfl) (fh_d d_Mo_sayBefore 130 rfl) ⟨Nat.le_refl _, Nat.le_refl _⟩ (fun v9 h9 n9 H locs hq hP hS => ?_)
        obtain ⟨rfl, u27, u28⟩ := hq
        rw [u27, u28] at hP
        refine W.eq (g2 := F0 m 205 ls []) rfl ?_
        refine lv_goto (tgt := 261) hx hb (fh_d d_Mo_sayBefore 131 rfl) rfl ?_
        exact fh_vret X hP hS (fh_d d_Mo_sayBefore 165 rfl) ⟨rfl, by unfold rf_sb; rw [if_neg kd1, if_neg kd2, if_pos kd5]; (try rfl), rfl⟩
      · skip
        by_cases kd8 : A 1 n0 = 8
        · skip
          by_cases hd : A 2 n0 = 46
          · skip
            refine lv_aload_n hx hb (fh_d d_Mo_sayBefore 0 rfl) rfl (lv_at hl 0 rfl) ?_
            refine fh_get (own := "FormulaSetterModel") (ref := "FormulaSetterModel") (C := "FormulaSetterModel") (T := T_Mo) (N := 53) (v := .ref (x + 21)) hx hb hT i_Mo hown hK hP mkM_o rfl 27 (by decide) (hT _ w887) (fun _ h9 => h9) rfl (fh_d d_Mo_sayBefore 1 rfl) ?_
            refine lv_iload_n hx hb (fh_d d_Mo_sayBefore 2 rfl) rfl (lv_at hl 1 rfl) ?_
            refine fn_iald (f := A 20) (k := n0) hx hb hK hP 0 mkM_a20 rfl (rfl) (by omega) (by decide) (fh_d d_Mo_sayBefore 3 rfl) ?_
            rw [show ((A 20) n0) = nI s0 from h20]
            refine fh_callS (cc' := c_Mo_zOf) (nL' := 1) (rest := []) (av := [.int (nI s0)]) X hR (m_Mo_zO l D ct b RO hR (r - 1) (by omega) n s0 hs0 (mkM ct x g A th co at_ wr no nu op (nI P) wi he de)) w1139 w1137 w1138 w9 ⟨by decide, by decide, by show _ = some 1; decide +kernel⟩ (by omega) (by decide) hP hS hl.1 rfl (by exact Nat.le_of_ble_eq_true rfl) (fh_d d_Mo_sayBefore 4 rfl) ⟨Nat.le_refl _, Nat.le_refl _⟩ (fun v9 h9 n9 H locs hq hP hS => ?_)
            obtain ⟨rfl, q29a, q29b⟩ := hq
            rw [q29a, q29b] at hP
            refine W.eq (g2 := F0 m 9 ls [.int (yS s0)]) rfl ?_
            refine lv_istore_n (lv' := [(2, .int (yS s0)), (0, .ref x), (1, .int (nI n0))]) hx hb (fh_d d_Mo_sayBefore 5 rfl) rfl hl (by decide) rfl (fun ls hl => ?_)
            refine lv_aload_n hx hb (fh_d d_Mo_sayBefore 6 rfl) rfl (lv_at hl 1 rfl) ?_
            refine fh_get (own := "FormulaSetterModel") (ref := "FormulaSetterModel") (C := "FormulaSetterModel") (T := T_Mo) (N := 53) (v := .ref (x + 21)) hx hb hT i_Mo hown hK hP mkM_o rfl 27 (by decide) (hT _ w887) (fun _ h9 => h9) rfl (fh_d d_Mo_sayBefore 7 rfl) ?_
            refine lv_iload_n hx hb (fh_d d_Mo_sayBefore 8 rfl) rfl (lv_at hl 2 rfl) ?_
            refine fn_iald (f := A 20) (k := n0) hx hb hK hP 0 mkM_a20 rfl (rfl) (by omega) (by decide) (fh_d d_Mo_sayBefore 9 rfl) ?_
            rw [show ((A 20) n0) = nI s0 from h20]
            refine fh_callS (cc' := c_Mo_tOf) (nL' := 1) (rest := []) (av := [.int (nI s0)]) X hR (m_Mo_tO l D ct b RO hR (r - 1) (by omega) n s0 hs0 (mkM ct x g A th co at_ wr no nu op (nI P) wi he de)) w1174 w1172 w1173 w9 ⟨by decide, by decide, by show _ = some 1; decide +kernel⟩ (by omega) (by decide) hP hS hl.1 rfl (by exact Nat.le_of_ble_eq_true rfl) (fh_d d_Mo_sayBefore 10 rfl) ⟨Nat.le_refl _, Nat.le_refl _⟩ (fun v9 h9 n9 H locs hq hP hS => ?_)
            obtain ⟨rfl, q30a, q30b⟩ := hq
            rw [q30a, q30b] at hP
            refine W.eq (g2 := F0 m 19 ls [.int (yT s0)]) rfl ?_
            refine lv_istore_n (lv' := [(3, .int (yT s0)), (2, .int (yS s0)), (0, .ref x), (1, .int (nI n0))]) hx hb (fh_d d_Mo_sayBefore 11 rfl) rfl hl (by decide) rfl (fun ls hl => ?_)
            refine lv_aload_n hx hb (fh_d d_Mo_sayBefore 12 rfl) rfl (lv_at hl 2 rfl) ?_
            refine fh_get (own := "FormulaSetterModel") (ref := "FormulaSetterModel") (C := "FormulaSetterModel") (T := T_Mo) (N := 53) (v := .ref (x + 32)) hx hb hT i_Mo hown hK hP mkM_o rfl 38 (by decide) (hT _ w898) (fun _ h9 => h9) rfl (fh_d d_Mo_sayBefore 13 rfl) ?_
            refine lv_iload_n hx hb (fh_d d_Mo_sayBefore 14 rfl) rfl (lv_at hl 3 rfl) ?_
            refine fn_iald (f := A 31) (k := n0) hx hb hK hP 0 mkM_a31 rfl (rfl) (by omega) (by decide) (fh_d d_Mo_sayBefore 15 rfl) ?_
            refine lv_aload_n hx hb (fh_d d_Mo_sayBefore 16 rfl) rfl (lv_at hl 2 rfl) ?_
            refine fh_get (own := "FormulaSetterModel") (ref := "FormulaSetterModel") (C := "FormulaSetterModel") (T := T_Mo) (N := 53) (v := .ref (x + 29)) hx hb hT i_Mo hown hK hP mkM_o rfl 35 (by decide) (hT _ w895) (fun _ h9 => h9) rfl (fh_d d_Mo_sayBefore 17 rfl) ?_
            refine lv_iload_n hx hb (fh_d d_Mo_sayBefore 18 rfl) rfl (lv_at hl 3 rfl) ?_
            refine fn_iald (f := A 28) (k := n0) hx hb hK hP 0 mkM_a28 rfl (rfl) (by omega) (by decide) (fh_d d_Mo_sayBefore 19 rfl) ?_
            refine lv_iadd hx hb (fh_d d_Mo_sayBefore 20 rfl) ?_
            refine lv_istore (lv' := [(4, .int (((A 31) n0) + ((A 28) n0))), (3, .int (yT s0)), (2, .int (yS s0)), (0, .ref x), (1, .int (nI n0))]) hx hb (fh_d d_Mo_sayBefore 21 rfl) hl (by decide) rfl (fun ls hl => ?_)
            refine lv_aload_n hx hb (fh_d d_Mo_sayBefore 22 rfl) rfl (lv_at hl 3 rfl) ?_
            refine fh_get (own := "FormulaSetterModel") (ref := "FormulaSetterModel") (C := "FormulaSetterModel") (T := T_Mo) (N := 53) (v := .ref (x + 33)) hx hb hT i_Mo hown hK hP mkM_o rfl 39 (by decide) (hT _ w899) (fun _ h9 => h9) rfl (fh_d d_Mo_sayBefore 23 rfl) ?_
            refine lv_iload_n hx hb (fh_d d_Mo_sayBefore 24 rfl) rfl (lv_at hl 4 rfl) ?_
            refine fn_iald (f := A 32) (k := n0) hx hb hK hP 0 mkM_a32 rfl (rfl) (by omega) (by decide) (fh_d d_Mo_sayBefore 25 rfl) ?_
            refine lv_istore (lv' := [(5, .int ((A 32) n0)), (4, .int (((A 31) n0) + ((A 28) n0))), (3, .int (yT s0)), (2, .int (yS s0)), (0, .ref x), (1, .int (nI n0))]) hx hb (fh_d d_Mo_sayBefore 26 rfl) hl (by decide) rfl (fun ls hl => ?_)
            refine lv_aload_n hx hb (fh_d d_Mo_sayBefore 27 rfl) rfl (lv_at hl 4 rfl) ?_
            refine fh_get (own := "FormulaSetterModel") (ref := "FormulaSetterModel") (C := "FormulaSetterModel") (T := T_Mo) (N := 53) (v := .ref (x + 2)) hx hb hT i_Mo hown hK hP mkM_o rfl 7 (by decide) (hT _ w867) (fun _ h9 => h9) rfl (fh_d d_Mo_sayBefore 28 rfl) ?_
            refine lv_iload_n hx hb (fh_d d_Mo_sayBefore 29 rfl) rfl (lv_at hl 5 rfl) ?_
            refine fn_iald (f := A 1) (k := n0) hx hb hK hP 0 mkM_a1 rfl (rfl) (by omega) (by decide) (fh_d d_Mo_sayBefore 30 rfl) ?_
            refine lv_iconst (v := 1) hx hb (fh_d d_Mo_sayBefore 31 rfl) (by decide) ?_
            refine lv_icmp_ne (tgt := 78) hx hb (fh_d d_Mo_sayBefore 32 rfl) rfl (fun c31 => ?_) (fun c31 => absurd c31 (kd1))
            refine lv_aload_n hx hb (fh_d d_Mo_sayBefore 48 rfl) rfl (lv_at hl 4 rfl) ?_
            refine fh_get (own := "FormulaSetterModel") (ref := "FormulaSetterModel") (C := "FormulaSetterModel") (T := T_Mo) (N := 53) (v := .ref (x + 2)) hx hb hT i_Mo hown hK hP mkM_o rfl 7 (by decide) (hT _ w867) (fun _ h9 => h9) rfl (fh_d d_Mo_sayBefore 49 rfl) ?_
            refine lv_iload_n hx hb (fh_d d_Mo_sayBefore 50 rfl) rfl (lv_at hl 5 rfl) ?_
            refine fn_iald (f := A 1) (k := n0) hx hb hK hP 0 mkM_a1 rfl (rfl) (by omega) (by decide) (fh_d d_Mo_sayBefore 51 rfl) ?_
            refine lv_iconst (v := 2) hx hb (fh_d d_Mo_sayBefore 52 rfl) (by decide) ?_
            refine lv_icmp_ne (tgt := 134) hx hb (fh_d d_Mo_sayBefore 53 rfl) rfl (fun c32 => ?_) (fun c32 => absurd c32 (kd2))
            refine lv_aload_n hx hb (fh_d d_Mo_sayBefore 81 rfl) rfl (lv_at hl 4 rfl) ?_
            refine fh_get (own := "FormulaSetterModel") (ref := "FormulaSetterModel") (C := "FormulaSetterModel") (T := T_Mo) (N := 53) (v := .ref (x + 2)) hx hb hT i_Mo hown hK hP mkM_o rfl 7 (by decide) (hT _ w867) (fun _ h9 => h9) rfl (fh_d d_Mo_sayBefore 82 rfl) ?_
            refine lv_iload_n hx hb (fh_d d_Mo_sayBefore 83 rfl) rfl (lv_at hl 5 rfl) ?_
            refine fn_iald (f := A 1) (k := n0) hx hb hK hP 0 mkM_a1 rfl (rfl) (by omega) (by decide) (fh_d d_Mo_sayBefore 84 rfl) ?_
            refine lv_iconst (v := 5) hx hb (fh_d d_Mo_sayBefore 85 rfl) (by decide) ?_
            refine lv_icmp_ne (tgt := 208) hx hb (fh_d d_Mo_sayBefore 86 rfl) rfl (fun c33 => ?_) (fun c33 => absurd c33 (kd5))
            refine lv_aload_n hx hb (fh_d d_Mo_sayBefore 132 rfl) rfl (lv_at hl 4 rfl) ?_
            refine fh_get (own := "FormulaSetterModel") (ref := "FormulaSetterModel") (C := "FormulaSetterModel") (T := T_Mo) (N := 53) (v := .ref (x + 2)) hx hb hT i_Mo hown hK hP mkM_o rfl 7 (by decide) (hT _ w867) (fun _ h9 => h9) rfl (fh_d d_Mo_sayBefore 133 rfl) ?_
            refine lv_iload_n hx hb (fh_d d_Mo_sayBefore 134 rfl) rfl (lv_at hl 5 rfl) ?_
            refine fn_iald (f := A 1) (k := n0) hx hb hK hP 0 mkM_a1 rfl (rfl) (by omega) (by decide) (fh_d d_Mo_sayBefore 135 rfl) ?_
            refine lv_bipush (v := 8) hx hb (fh_d d_Mo_sayBefore 136 rfl) (by decide) ?_
            refine lv_icmp_ne (tgt := 261) hx hb (fh_d d_Mo_sayBefore 137 rfl) rfl (fun c34 => absurd c34 (Classical.not_not.mpr (kd8))) (fun c34 => ?_)
            refine lv_aload_n hx hb (fh_d d_Mo_sayBefore 138 rfl) rfl (lv_at hl 4 rfl) ?_
            refine fh_get (own := "FormulaSetterModel") (ref := "FormulaSetterModel") (C := "FormulaSetterModel") (T := T_Mo) (N := 53) (v := .ref (x + 3)) hx hb hT i_Mo hown hK hP mkM_o rfl 8 (by decide) (hT _ w868) (fun _ h9 => h9) rfl (fh_d d_Mo_sayBefore 139 rfl) ?_
            refine lv_iload_n hx hb (fh_d d_Mo_sayBefore 140 rfl) rfl (lv_at hl 5 rfl) ?_
            refine fn_iald (f := A 2) (k := n0) hx hb hK hP 0 mkM_a2 rfl (rfl) (by omega) (by decide) (fh_d d_Mo_sayBefore 141 rfl) ?_
            refine lv_bipush (v := 46) hx hb (fh_d d_Mo_sayBefore 142 rfl) (by decide) ?_
            refine lv_icmp_eq (tgt := 261) hx hb (fh_d d_Mo_sayBefore 143 rfl) rfl (fun c35 => ?_) (fun c35 => absurd c35 (Classical.not_not.mpr (hd)))
            exact fh_vret X hP hS (fh_d d_Mo_sayBefore 165 rfl) ⟨rfl, by unfold rf_sb; rw [if_neg kd1, if_neg kd2, if_neg kd5, if_pos kd8, if_pos hd]; (try rfl), rfl⟩
          · skip
            refine lv_aload_n hx hb (fh_d d_Mo_sayBefore 0 rfl) rfl (lv_at hl 0 rfl) ?_
            refine fh_get (own := "FormulaSetterModel") (ref := "FormulaSetterModel") (C := "FormulaSetterModel") (T := T_Mo) (N := 53) (v := .ref (x + 21)) hx hb hT i_Mo hown hK hP mkM_o rfl 27 (by decide) (hT _ w887) (fun _ h9 => h9) rfl (fh_d d_Mo_sayBefore 1 rfl) ?_
            refine lv_iload_n hx hb (fh_d d_Mo_sayBefore 2 rfl) rfl (lv_at hl 1 rfl) ?_
            refine fn_iald (f := A 20) (k := n0) hx hb hK hP 0 mkM_a20 rfl (rfl) (by omega) (by decide) (fh_d d_Mo_sayBefore 3 rfl) ?_
            rw [show ((A 20) n0) = nI s0 from h20]
            refine fh_callS (cc' := c_Mo_zOf) (nL' := 1) (rest := []) (av := [.int (nI s0)]) X hR (m_Mo_zO l D ct b RO hR (r - 1) (by omega) n s0 hs0 (mkM ct x g A th co at_ wr no nu op (nI P) wi he de)) w1139 w1137 w1138 w9 ⟨by decide, by decide, by show _ = some 1; decide +kernel⟩ (by omega) (by decide) hP hS hl.1 rfl (by exact Nat.le_of_ble_eq_true rfl) (fh_d d_Mo_sayBefore 4 rfl) ⟨Nat.le_refl _, Nat.le_refl _⟩ (fun v9 h9 n9 H locs hq hP hS => ?_)
            obtain ⟨rfl, q36a, q36b⟩ := hq
            rw [q36a, q36b] at hP
            refine W.eq (g2 := F0 m 9 ls [.int (yS s0)]) rfl ?_
            refine lv_istore_n (lv' := [(2, .int (yS s0)), (0, .ref x), (1, .int (nI n0))]) hx hb (fh_d d_Mo_sayBefore 5 rfl) rfl hl (by decide) rfl (fun ls hl => ?_)
            refine lv_aload_n hx hb (fh_d d_Mo_sayBefore 6 rfl) rfl (lv_at hl 1 rfl) ?_
            refine fh_get (own := "FormulaSetterModel") (ref := "FormulaSetterModel") (C := "FormulaSetterModel") (T := T_Mo) (N := 53) (v := .ref (x + 21)) hx hb hT i_Mo hown hK hP mkM_o rfl 27 (by decide) (hT _ w887) (fun _ h9 => h9) rfl (fh_d d_Mo_sayBefore 7 rfl) ?_
            refine lv_iload_n hx hb (fh_d d_Mo_sayBefore 8 rfl) rfl (lv_at hl 2 rfl) ?_
            refine fn_iald (f := A 20) (k := n0) hx hb hK hP 0 mkM_a20 rfl (rfl) (by omega) (by decide) (fh_d d_Mo_sayBefore 9 rfl) ?_
            rw [show ((A 20) n0) = nI s0 from h20]
            refine fh_callS (cc' := c_Mo_tOf) (nL' := 1) (rest := []) (av := [.int (nI s0)]) X hR (m_Mo_tO l D ct b RO hR (r - 1) (by omega) n s0 hs0 (mkM ct x g A th co at_ wr no nu op (nI P) wi he de)) w1174 w1172 w1173 w9 ⟨by decide, by decide, by show _ = some 1; decide +kernel⟩ (by omega) (by decide) hP hS hl.1 rfl (by exact Nat.le_of_ble_eq_true rfl) (fh_d d_Mo_sayBefore 10 rfl) ⟨Nat.le_refl _, Nat.le_refl _⟩ (fun v9 h9 n9 H locs hq hP hS => ?_)
            obtain ⟨rfl, q37a, q37b⟩ := hq
            rw [q37a, q37b] at hP
            refine W.eq (g2 := F0 m 19 ls [.int (yT s0)]) rfl ?_
            refine lv_istore_n (lv' := [(3, .int (yT s0)), (2, .int (yS s0)), (0, .ref x), (1, .int (nI n0))]) hx hb (fh_d d_Mo_sayBefore 11 rfl) rfl hl (by decide) rfl (fun ls hl => ?_)
            refine lv_aload_n hx hb (fh_d d_Mo_sayBefore 12 rfl) rfl (lv_at hl 2 rfl) ?_
            refine fh_get (own := "FormulaSetterModel") (ref := "FormulaSetterModel") (C := "FormulaSetterModel") (T := T_Mo) (N := 53) (v := .ref (x + 32)) hx hb hT i_Mo hown hK hP mkM_o rfl 38 (by decide) (hT _ w898) (fun _ h9 => h9) rfl (fh_d d_Mo_sayBefore 13 rfl) ?_
            refine lv_iload_n hx hb (fh_d d_Mo_sayBefore 14 rfl) rfl (lv_at hl 3 rfl) ?_
            refine fn_iald (f := A 31) (k := n0) hx hb hK hP 0 mkM_a31 rfl (rfl) (by omega) (by decide) (fh_d d_Mo_sayBefore 15 rfl) ?_
            refine lv_aload_n hx hb (fh_d d_Mo_sayBefore 16 rfl) rfl (lv_at hl 2 rfl) ?_
            refine fh_get (own := "FormulaSetterModel") (ref := "FormulaSetterModel") (C := "FormulaSetterModel") (T := T_Mo) (N := 53) (v := .ref (x + 29)) hx hb hT i_Mo hown hK hP mkM_o rfl 35 (by decide) (hT _ w895) (fun _ h9 => h9) rfl (fh_d d_Mo_sayBefore 17 rfl) ?_
            refine lv_iload_n hx hb (fh_d d_Mo_sayBefore 18 rfl) rfl (lv_at hl 3 rfl) ?_
            refine fn_iald (f := A 28) (k := n0) hx hb hK hP 0 mkM_a28 rfl (rfl) (by omega) (by decide) (fh_d d_Mo_sayBefore 19 rfl) ?_
            refine lv_iadd hx hb (fh_d d_Mo_sayBefore 20 rfl) ?_
            refine lv_istore (lv' := [(4, .int (((A 31) n0) + ((A 28) n0))), (3, .int (yT s0)), (2, .int (yS s0)), (0, .ref x), (1, .int (nI n0))]) hx hb (fh_d d_Mo_sayBefore 21 rfl) hl (by decide) rfl (fun ls hl => ?_)
            refine lv_aload_n hx hb (fh_d d_Mo_sayBefore 22 rfl) rfl (lv_at hl 3 rfl) ?_
            refine fh_get (own := "FormulaSetterModel") (ref := "FormulaSetterModel") (C := "FormulaSetterModel") (T := T_Mo) (N := 53) (v := .ref (x + 33)) hx hb hT i_Mo hown hK hP mkM_o rfl 39 (by decide) (hT _ w899) (fun _ h9 => h9) rfl (fh_d d_Mo_sayBefore 23 rfl) ?_
            refine lv_iload_n hx hb (fh_d d_Mo_sayBefore 24 rfl) rfl (lv_at hl 4 rfl) ?_
            refine fn_iald (f := A 32) (k := n0) hx hb hK hP 0 mkM_a32 rfl (rfl) (by omega) (by decide) (fh_d d_Mo_sayBefore 25 rfl) ?_
            refine lv_istore (lv' := [(5, .int ((A 32) n0)), (4, .int (((A 31) n0) + ((A 28) n0))), (3, .int (yT s0)), (2, .int (yS s0)), (0, .ref x), (1, .int (nI n0))]) hx hb (fh_d d_Mo_sayBefore 26 rfl) hl (by decide) rfl (fun ls hl => ?_)
            refine lv_aload_n hx hb (fh_d d_Mo_sayBefore 27 rfl) rfl (lv_at hl 4 rfl) ?_
            refine fh_get (own := "FormulaSetterModel") (ref := "FormulaSetterModel") (C := "FormulaSetterModel") (T := T_Mo) (N := 53) (v := .ref (x + 2)) hx hb hT i_Mo hown hK hP mkM_o rfl 7 (by decide) (hT _ w867) (fun _ h9 => h9) rfl (fh_d d_Mo_sayBefore 28 rfl) ?_
            refine lv_iload_n hx hb (fh_d d_Mo_sayBefore 29 rfl) rfl (lv_at hl 5 rfl) ?_
            refine fn_iald (f := A 1) (k := n0) hx hb hK hP 0 mkM_a1 rfl (rfl) (by omega) (by decide) (fh_d d_Mo_sayBefore 30 rfl) ?_
            refine lv_iconst (v := 1) hx hb (fh_d d_Mo_sayBefore 31 rfl) (by decide) ?_
            refine lv_icmp_ne (tgt := 78) hx hb (fh_d d_Mo_sayBefore 32 rfl) rfl (fun c38 => ?_) (fun c38 => absurd c38 (kd1))
            refine lv_aload_n hx hb (fh_d d_Mo_sayBefore 48 rfl) rfl (lv_at hl 4 rfl) ?_
            refine fh_get (own := "FormulaSetterModel") (ref := "FormulaSetterModel") (C := "FormulaSetterModel") (T := T_Mo) (N := 53) (v := .ref (x + 2)) hx hb hT i_Mo hown hK hP mkM_o rfl 7 (by decide) (hT _ w867) (fun _ h9 => h9) rfl (fh_d d_Mo_sayBefore 49 rfl) ?_
            refine lv_iload_n hx hb (fh_d d_Mo_sayBefore 50 rfl) rfl (lv_at hl 5 rfl) ?_
            refine fn_iald (f := A 1) (k := n0) hx hb hK hP 0 mkM_a1 rfl (rfl) (by omega) (by decide) (fh_d d_Mo_sayBefore 51 rfl) ?_
            refine lv_iconst (v := 2) hx hb (fh_d d_Mo_sayBefore 52 rfl) (by decide) ?_
            refine lv_icmp_ne (tgt := 134) hx hb (fh_d d_Mo_sayBefore 53 rfl) rfl (fun c39 => ?_) (fun c39 => absurd c39 (kd2))
            refine lv_aload_n hx hb (fh_d d_Mo_sayBefore 81 rfl) rfl (lv_at hl 4 rfl) ?_
            refine fh_get (own := "FormulaSetterModel") (ref := "FormulaSetterModel") (C := "FormulaSetterModel") (T := T_Mo) (N := 53) (v := .ref (x + 2)) hx hb hT i_Mo hown hK hP mkM_o rfl 7 (by decide) (hT _ w867) (fun _ h9 => h9) rfl (fh_d d_Mo_sayBefore 82 rfl) ?_
            refine lv_iload_n hx hb (fh_d d_Mo_sayBefore 83 rfl) rfl (lv_at hl 5 rfl) ?_
            refine fn_iald (f := A 1) (k := n0) hx hb hK hP 0 mkM_a1 rfl (rfl) (by omega) (by decide) (fh_d d_Mo_sayBefore 84 rfl) ?_
            refine lv_iconst (v := 5) hx hb (fh_d d_Mo_sayBefore 85 rfl) (by decide) ?_
            refine lv_icmp_ne (tgt := 208) hx hb (fh_d d_Mo_sayBefore 86 rfl) rfl (fun c40 => ?_) (fun c40 => absurd c40 (kd5))
            refine lv_aload_n hx hb (fh_d d_Mo_sayBefore 132 rfl) rfl (lv_at hl 4 rfl) ?_
            refine fh_get (own := "FormulaSetterModel") (ref := "FormulaSetterModel") (C := "FormulaSetterModel") (T := T_Mo) (N := 53) (v := .ref (x + 2)) hx hb hT i_Mo hown hK hP mkM_o rfl 7 (by decide) (hT _ w867) (fun _ h9 => h9) rfl (fh_d d_Mo_sayBefore 133 rfl) ?_
            refine lv_iload_n hx hb (fh_d d_Mo_sayBefore 134 rfl) rfl (lv_at hl 5 rfl) ?_
            refine fn_iald (f := A 1) (k := n0) hx hb hK hP 0 mkM_a1 rfl (rfl) (by omega) (by decide) (fh_d d_Mo_sayBefore 135 rfl) ?_
            refine lv_bipush (v := 8) hx hb (fh_d d_Mo_sayBefore 136 rfl) (by decide) ?_
            refine lv_icmp_ne (tgt := 261) hx hb (fh_d d_Mo_sayBefore 137 rfl) rfl (fun c41 => absurd c41 (Classical.not_not.mpr (kd8))) (fun c41 => ?_)
            refine lv_aload_n hx hb (fh_d d_Mo_sayBefore 138 rfl) rfl (lv_at hl 4 rfl) ?_
            refine fh_get (own := "FormulaSetterModel") (ref := "FormulaSetterModel") (C := "FormulaSetterModel") (T := T_Mo) (N := 53) (v := .ref (x + 3)) hx hb hT i_Mo hown hK hP mkM_o rfl 8 (by decide) (hT _ w868) (fun _ h9 => h9) rfl (fh_d d_Mo_sayBefore 139 rfl) ?_
            refine lv_iload_n hx hb (fh_d d_Mo_sayBefore 140 rfl) rfl (lv_at hl 5 rfl) ?_
            refine fn_iald (f := A 2) (k := n0) hx hb hK hP 0 mkM_a2 rfl (rfl) (by omega) (by decide) (fh_d d_Mo_sayBefore 141 rfl) ?_
            refine lv_bipush (v := 46) hx hb (fh_d d_Mo_sayBefore 142 rfl) (by decide) ?_
            refine lv_icmp_eq (tgt := 261) hx hb (fh_d d_Mo_sayBefore 143 rfl) rfl (fun c42 => absurd c42 (hd)) (fun c42 => ?_)
            refine lv_aload_n hx hb (fh_d d_Mo_sayBefore 144 rfl) rfl (lv_at hl 4 rfl) ?_
            refine lv_iconst (v := 2) hx hb (fh_d d_Mo_sayBefore 145 rfl) (by decide) ?_
            refine lv_aload_n hx hb (fh_d d_Mo_sayBefore 146 rfl) rfl (lv_at hl 4 rfl) ?_
            refine fh_get (own := "FormulaSetterModel") (ref := "FormulaSetterModel") (C := "FormulaSetterModel") (T := T_Mo) (N := 53) (v := .ref (x + 3)) hx hb hT i_Mo hown hK hP mkM_o rfl 8 (by decide) (hT _ w868) (fun _ h9 => h9) rfl (fh_d d_Mo_sayBefore 147 rfl) ?_
            refine lv_iload_n hx hb (fh_d d_Mo_sayBefore 148 rfl) rfl (lv_at hl 5 rfl) ?_
            refine fn_iald (f := A 2) (k := n0) hx hb hK hP 0 mkM_a2 rfl (rfl) (by omega) (by decide) (fh_d d_Mo_sayBefore 149 rfl) ?_
            refine lv_iload hx hb (fh_d d_Mo_sayBefore 150 rfl) (lv_at hl 1 rfl) ?_
            refine lv_iload hx hb (fh_d d_Mo_sayBefore 151 rfl) (lv_at hl 0 rfl) ?_
            refine lv_aload_n hx hb (fh_d d_Mo_sayBefore 152 rfl) rfl (lv_at hl 4 rfl) ?_
            refine fh_get (own := "FormulaSetterModel") (ref := "FormulaSetterModel") (C := "FormulaSetterModel") (T := T_Mo) (N := 53) (v := .ref (x + 36)) hx hb hT i_Mo hown hK hP mkM_o rfl 42 (by decide) (hT _ w902) (fun _ h9 => h9) rfl (fh_d d_Mo_sayBefore 153 rfl) ?_
            refine lv_iload_n hx hb (fh_d d_Mo_sayBefore 154 rfl) rfl (lv_at hl 5 rfl) ?_
            refine fn_iald (f := A 35) (k := n0) hx hb hK hP 0 mkM_a35 rfl (rfl) (by omega) (by decide) (fh_d d_Mo_sayBefore 155 rfl) ?_
            refine lv_iadd hx hb (fh_d d_Mo_sayBefore 156 rfl) ?_
            refine lv_aload_n hx hb (fh_d d_Mo_sayBefore 157 rfl) rfl (lv_at hl 4 rfl) ?_
            refine fh_get (own := "FormulaSetterModel") (ref := "FormulaSetterModel") (C := "FormulaSetterModel") (T := T_Mo) (N := 53) (v := .ref (x + 35)) hx hb hT i_Mo hown hK hP mkM_o rfl 41 (by decide) (hT _ w901) (fun _ h9 => h9) rfl (fh_d d_Mo_sayBefore 158 rfl) ?_
            refine lv_iload_n hx hb (fh_d d_Mo_sayBefore 159 rfl) rfl (lv_at hl 5 rfl) ?_
            refine fn_iald (f := A 34) (k := n0) hx hb hK hP 0 mkM_a34 rfl (rfl) (by omega) (by decide) (fh_d d_Mo_sayBefore 160 rfl) ?_
            refine lv_iconst (v := 4) hx hb (fh_d d_Mo_sayBefore 161 rfl) (by decide) ?_
            refine lv_iload_n hx hb (fh_d d_Mo_sayBefore 162 rfl) rfl (lv_at hl 3 rfl) ?_
            refine lv_imul hx hb (fh_d d_Mo_sayBefore 163 rfl) ?_
            refine fh_callV (cc' := c_Mo_say) (nL' := 7) (rest := []) (a := x) (As := [.int 2, .int ((A 2) n0), .int (((A 31) n0) + ((A 28) n0)), .int (((A 32) n0) + ((A 35) n0)), .int ((A 34) n0), .int (4 * (yS s0))]) X hR (m_Mo_say l D ct b RO (r - 1) n x g A th co at_ wr no nu op wi he de P (by omega) 2 ((A 2) n0) (((A 31) n0) + ((A 28) n0)) (((A 32) n0) + ((A 35) n0)) ((A 34) n0) (4 * (yS s0))) w1213 w1210 w1212 v61 w9 ⟨by decide, by decide, by show _ = some 6; decide +kernel⟩ (by omega) (by decide) (fh_recv hK hP mkM_o rfl) hP hS hl.1 rfl (by exact Nat.le_of_ble_eq_true rfl) (fh_d d_Mo_sayBefore 164 rfl) ⟨Nat.le_refl _, Nat.le_refl _⟩ (fun v9 h9 n9 H locs hq hP hS => ?_)
            obtain ⟨rfl, u43, u44⟩ := hq
            rw [u43, u44] at hP
            refine W.eq (g2 := F0 m 261 ls []) rfl ?_
            exact fh_vret X hP hS (fh_d d_Mo_sayBefore 165 rfl) ⟨rfl, by unfold rf_sb; rw [if_neg kd1, if_neg kd2, if_neg kd5, if_pos kd8, if_neg hd]; (try rfl), rfl⟩
        · skip
          refine lv_aload_n hx hb (fh_d d_Mo_sayBefore 0 rfl) rfl (lv_at hl 0 rfl) ?_
          refine fh_get (own := "FormulaSetterModel") (ref := "FormulaSetterModel") (C := "FormulaSetterModel") (T := T_Mo) (N := 53) (v := .ref (x + 21)) hx hb hT i_Mo hown hK hP mkM_o rfl 27 (by decide) (hT _ w887) (fun _ h9 => h9) rfl (fh_d d_Mo_sayBefore 1 rfl) ?_
          refine lv_iload_n hx hb (fh_d d_Mo_sayBefore 2 rfl) rfl (lv_at hl 1 rfl) ?_
          refine fn_iald (f := A 20) (k := n0) hx hb hK hP 0 mkM_a20 rfl (rfl) (by omega) (by decide) (fh_d d_Mo_sayBefore 3 rfl) ?_
          rw [show ((A 20) n0) = nI s0 from h20]
          refine fh_callS (cc' := c_Mo_zOf) (nL' := 1) (rest := []) (av := [.int (nI s0)]) X hR (m_Mo_zO l D ct b RO hR (r - 1) (by omega) n s0 hs0 (mkM ct x g A th co at_ wr no nu op (nI P) wi he de)) w1139 w1137 w1138 w9 ⟨by decide, by decide, by show _ = some 1; decide +kernel⟩ (by omega) (by decide) hP hS hl.1 rfl (by exact Nat.le_of_ble_eq_true rfl) (fh_d d_Mo_sayBefore 4 rfl) ⟨Nat.le_refl _, Nat.le_refl _⟩ (fun v9 h9 n9 H locs hq hP hS => ?_)
          obtain ⟨rfl, q45a, q45b⟩ := hq
          rw [q45a, q45b] at hP
          refine W.eq (g2 := F0 m 9 ls [.int (yS s0)]) rfl ?_
          refine lv_istore_n (lv' := [(2, .int (yS s0)), (0, .ref x), (1, .int (nI n0))]) hx hb (fh_d d_Mo_sayBefore 5 rfl) rfl hl (by decide) rfl (fun ls hl => ?_)
          refine lv_aload_n hx hb (fh_d d_Mo_sayBefore 6 rfl) rfl (lv_at hl 1 rfl) ?_
          refine fh_get (own := "FormulaSetterModel") (ref := "FormulaSetterModel") (C := "FormulaSetterModel") (T := T_Mo) (N := 53) (v := .ref (x + 21)) hx hb hT i_Mo hown hK hP mkM_o rfl 27 (by decide) (hT _ w887) (fun _ h9 => h9) rfl (fh_d d_Mo_sayBefore 7 rfl) ?_
          refine lv_iload_n hx hb (fh_d d_Mo_sayBefore 8 rfl) rfl (lv_at hl 2 rfl) ?_
          refine fn_iald (f := A 20) (k := n0) hx hb hK hP 0 mkM_a20 rfl (rfl) (by omega) (by decide) (fh_d d_Mo_sayBefore 9 rfl) ?_
          rw [show ((A 20) n0) = nI s0 from h20]
          refine fh_callS (cc' := c_Mo_tOf) (nL' := 1) (rest := []) (av := [.int (nI s0)]) X hR (m_Mo_tO l D ct b RO hR (r - 1) (by omega) n s0 hs0 (mkM ct x g A th co at_ wr no nu op (nI P) wi he de)) w1174 w1172 w1173 w9 ⟨by decide, by decide, by show _ = some 1; decide +kernel⟩ (by omega) (by decide) hP hS hl.1 rfl (by exact Nat.le_of_ble_eq_true rfl) (fh_d d_Mo_sayBefore 10 rfl) ⟨Nat.le_refl _, Nat.le_refl _⟩ (fun v9 h9 n9 H locs hq hP hS => ?_)
          obtain ⟨rfl, q46a, q46b⟩ := hq
          rw [q46a, q46b] at hP
          refine W.eq (g2 := F0 m 19 ls [.int (yT s0)]) rfl ?_
          refine lv_istore_n (lv' := [(3, .int (yT s0)), (2, .int (yS s0)), (0, .ref x), (1, .int (nI n0))]) hx hb (fh_d d_Mo_sayBefore 11 rfl) rfl hl (by decide) rfl (fun ls hl => ?_)
          refine lv_aload_n hx hb (fh_d d_Mo_sayBefore 12 rfl) rfl (lv_at hl 2 rfl) ?_
          refine fh_get (own := "FormulaSetterModel") (ref := "FormulaSetterModel") (C := "FormulaSetterModel") (T := T_Mo) (N := 53) (v := .ref (x + 32)) hx hb hT i_Mo hown hK hP mkM_o rfl 38 (by decide) (hT _ w898) (fun _ h9 => h9) rfl (fh_d d_Mo_sayBefore 13 rfl) ?_
          refine lv_iload_n hx hb (fh_d d_Mo_sayBefore 14 rfl) rfl (lv_at hl 3 rfl) ?_
          refine fn_iald (f := A 31) (k := n0) hx hb hK hP 0 mkM_a31 rfl (rfl) (by omega) (by decide) (fh_d d_Mo_sayBefore 15 rfl) ?_
          refine lv_aload_n hx hb (fh_d d_Mo_sayBefore 16 rfl) rfl (lv_at hl 2 rfl) ?_
          refine fh_get (own := "FormulaSetterModel") (ref := "FormulaSetterModel") (C := "FormulaSetterModel") (T := T_Mo) (N := 53) (v := .ref (x + 29)) hx hb hT i_Mo hown hK hP mkM_o rfl 35 (by decide) (hT _ w895) (fun _ h9 => h9) rfl (fh_d d_Mo_sayBefore 17 rfl) ?_
          refine lv_iload_n hx hb (fh_d d_Mo_sayBefore 18 rfl) rfl (lv_at hl 3 rfl) ?_
          refine fn_iald (f := A 28) (k := n0) hx hb hK hP 0 mkM_a28 rfl (rfl) (by omega) (by decide) (fh_d d_Mo_sayBefore 19 rfl) ?_
          refine lv_iadd hx hb (fh_d d_Mo_sayBefore 20 rfl) ?_
          refine lv_istore (lv' := [(4, .int (((A 31) n0) + ((A 28) n0))), (3, .int (yT s0)), (2, .int (yS s0)), (0, .ref x), (1, .int (nI n0))]) hx hb (fh_d d_Mo_sayBefore 21 rfl) hl (by decide) rfl (fun ls hl => ?_)
          refine lv_aload_n hx hb (fh_d d_Mo_sayBefore 22 rfl) rfl (lv_at hl 3 rfl) ?_
          refine fh_get (own := "FormulaSetterModel") (ref := "FormulaSetterModel") (C := "FormulaSetterModel") (T := T_Mo) (N := 53) (v := .ref (x + 33)) hx hb hT i_Mo hown hK hP mkM_o rfl 39 (by decide) (hT _ w899) (fun _ h9 => h9) rfl (fh_d d_Mo_sayBefore 23 rfl) ?_
          refine lv_iload_n hx hb (fh_d d_Mo_sayBefore 24 rfl) rfl (lv_at hl 4 rfl) ?_
          refine fn_iald (f := A 32) (k := n0) hx hb hK hP 0 mkM_a32 rfl (rfl) (by omega) (by decide) (fh_d d_Mo_sayBefore 25 rfl) ?_
          refine lv_istore (lv' := [(5, .int ((A 32) n0)), (4, .int (((A 31) n0) + ((A 28) n0))), (3, .int (yT s0)), (2, .int (yS s0)), (0, .ref x), (1, .int (nI n0))]) hx hb (fh_d d_Mo_sayBefore 26 rfl) hl (by decide) rfl (fun ls hl => ?_)
          refine lv_aload_n hx hb (fh_d d_Mo_sayBefore 27 rfl) rfl (lv_at hl 4 rfl) ?_
          refine fh_get (own := "FormulaSetterModel") (ref := "FormulaSetterModel") (C := "FormulaSetterModel") (T := T_Mo) (N := 53) (v := .ref (x + 2)) hx hb hT i_Mo hown hK hP mkM_o rfl 7 (by decide) (hT _ w867) (fun _ h9 => h9) rfl (fh_d d_Mo_sayBefore 28 rfl) ?_
          refine lv_iload_n hx hb (fh_d d_Mo_sayBefore 29 rfl) rfl (lv_at hl 5 rfl) ?_
          refine fn_iald (f := A 1) (k := n0) hx hb hK hP 0 mkM_a1 rfl (rfl) (by omega) (by decide) (fh_d d_Mo_sayBefore 30 rfl) ?_
          refine lv_iconst (v := 1) hx hb (fh_d d_Mo_sayBefore 31 rfl) (by decide) ?_
          refine lv_icmp_ne (tgt := 78) hx hb (fh_d d_Mo_sayBefore 32 rfl) rfl (fun c47 => ?_) (fun c47 => absurd c47 (kd1))
          refine lv_aload_n hx hb (fh_d d_Mo_sayBefore 48 rfl) rfl (lv_at hl 4 rfl) ?_
          refine fh_get (own := "FormulaSetterModel") (ref := "FormulaSetterModel") (C := "FormulaSetterModel") (T := T_Mo) (N := 53) (v := .ref (x + 2)) hx hb hT i_Mo hown hK hP mkM_o rfl 7 (by decide) (hT _ w867) (fun _ h9 => h9) rfl (fh_d d_Mo_sayBefore 49 rfl) ?_
          refine lv_iload_n hx hb (fh_d d_Mo_sayBefore 50 rfl) rfl (lv_at hl 5 rfl) ?_
          refine fn_iald (f := A 1) (k := n0) hx hb hK hP 0 mkM_a1 rfl (rfl) (by omega) (by decide) (fh_d d_Mo_sayBefore 51 rfl) ?_
          refine lv_iconst (v := 2) hx hb (fh_d d_Mo_sayBefore 52 rfl) (by decide) ?_
          refine lv_icmp_ne (tgt := 134) hx hb (fh_d d_Mo_sayBefore 53 rfl) rfl (fun c48 => ?_) (fun c48 => absurd c48 (kd2))
          refine lv_aload_n hx hb (fh_d d_Mo_sayBefore 81 rfl) rfl (lv_at hl 4 rfl) ?_
          refine fh_get (own := "FormulaSetterModel") (ref := "FormulaSetterModel") (C := "FormulaSetterModel") (T := T_Mo) (N := 53) (v := .ref (x + 2)) hx hb hT i_Mo hown hK hP mkM_o rfl 7 (by decide) (hT _ w867) (fun _ h9 => h9) rfl (fh_d d_Mo_sayBefore 82 rfl) ?_
          refine lv_iload_n hx hb (fh_d d_Mo_sayBefore 83 rfl) rfl (lv_at hl 5 rfl) ?_
          refine fn_iald (f := A 1) (k := n0) hx hb hK hP 0 mkM_a1 rfl (rfl) (by omega) (by decide) (fh_d d_Mo_sayBefore 84 rfl) ?_
          refine lv_iconst (v := 5) hx hb (fh_d d_Mo_sayBefore 85 rfl) (by decide) ?_
          refine lv_icmp_ne (tgt := 208) hx hb (fh_d d_Mo_sayBefore 86 rfl) rfl (fun c49 => ?_) (fun c49 => absurd c49 (kd5))
          refine lv_aload_n hx hb (fh_d d_Mo_sayBefore 132 rfl) rfl (lv_at hl 4 rfl) ?_
          refine fh_get (own := "FormulaSetterModel") (ref := "FormulaSetterModel") (C := "FormulaSetterModel") (T := T_Mo) (N := 53) (v := .ref (x + 2)) hx hb hT i_Mo hown hK hP mkM_o rfl 7 (by decide) (hT _ w867) (fun _ h9 => h9) rfl (fh_d d_Mo_sayBefore 133 rfl) ?_
          refine lv_iload_n hx hb (fh_d d_Mo_sayBefore 134 rfl) rfl (lv_at hl 5 rfl) ?_
          refine fn_iald (f := A 1) (k := n0) hx hb hK hP 0 mkM_a1 rfl (rfl) (by omega) (by decide) (fh_d d_Mo_sayBefore 135 rfl) ?_
          refine lv_bipush (v := 8) hx hb (fh_d d_Mo_sayBefore 136 rfl) (by decide) ?_
          refine lv_icmp_ne (tgt := 261) hx hb (fh_d d_Mo_sayBefore 137 rfl) rfl (fun c50 => ?_) (fun c50 => absurd c50 (kd8))
          exact fh_vret X hP hS (fh_d d_Mo_sayBefore 165 rfl) ⟨rfl, by unfold rf_sb; rw [if_neg kd1, if_neg kd2, if_neg kd5, if_neg kd8]; (try rfl), rfl⟩

def rf_sh (A : Nat → Nat → Int32) (n0 s0 P : Nat) : (Nat → Nat → Int32) × Nat := if A 1 n0 = 4 then ((rf_say A P 1 0 (((A 31) n0) + ((A 28) n0)) (((A 32) n0) + ((A 35) n0)) (yT s0) ((A 22) n0), P + 1)) else (if A 1 n0 = 6 then ((rf_say A P 0 94 ((((A 31) n0) + ((A 28) n0)) + ((((A 22) n0) - (sgW 94 (yS s0))) / 2)) (((A 32) n0) + ((A 35) n0)) (yS s0) (sgW 94 (yS s0)), P + 1)) else (if A 1 n0 = 7 then ((rf_say A P 1 0 (((A 31) n0) + ((A 28) n0)) (((A 32) n0) + ((A 35) n0)) (yT s0) ((A 22) n0), P + 1)) else (if A 1 n0 = 8 then (if A 3 n0 = 46 then ((A, P)) else ((rf_say A P 2 ((A 3) n0) (((((A 31) n0) + ((A 28) n0)) + ((A 22) n0)) - (4 * (yS s0))) (((A 32) n0) + ((A 35) n0)) ((A 34) n0) (4 * (yS s0)), P + 1))) else ((A, P)))))
set_option maxHeartbeats 4000000 in
set_option maxRecDepth 100000 in
theorem m_Mo_sayBehind (l : Launch) (D : va_G) (ct : Nat → ClassId) (b : Nat) (RO : State → Prop) (hR : fh_R b RO) (r : Nat) (hr : 2 ≤ r) (n x : Nat) (g : fh_H) (A : Nat → Nat → Int32) (th co at_ wr no nu op wi he de : Int32) (n0 : Nat) (hn0 : n0 < 400) (s0 : Nat) (hs0 : s0 < 4) (h20 : A 20 n0 = nI s0) (P : Nat) (hP9 : P < 240) : fh_C l D fh_cl (fh_tys ct) b RO y_Mo_sayBehind (Cond.code y_Mo_sayBehind c_Mo_sayBehind 6 (Option.none : Option FieldType) :: fh_T) (fh_rm r 0 0) [.ref x, .int (nI n0)] (mkM ct x g A th co at_ wr no nu op (nI P) wi he de) n (fun v h' n' => v = none ∧ h' = mkM ct x g ((rf_sh A n0 s0 P).1) th co at_ wr no nu op (nI (rf_sh A n0 s0 P).2) wi he de ∧ n' = n) 0 0 := by
  refine fh_enter (by decide) (Nat.le_of_ble_eq_true rfl) [(0, .ref x), (1, .int (nI n0))] rfl ?_
  intro p e s m args below meth c H ls X hP hS hl
  have hx := X.1
  have hb := X.2.1
  have hml := X.2.2.1
  have hown : s.vm.findClass "FormulaSetterModel" = some m.cls := X.2.2.2.1
  have hT := X.2.2.2.2.1
  have hK := X.2.2.2.2.2.1
  have hRO := X.2.2.2.2.2.2.1
  have hnm : meth.name = "sayBehind" := X.2.2.2.2.2.2.2.2.2.2
  by_cases kd4 : A 1 n0 = 4
  · skip
    refine lv_aload_n hx hb (fh_d d_Mo_sayBehind 0 rfl) rfl (lv_at hl 0 rfl) ?_
    refine fh_get (own := "FormulaSetterModel") (ref := "FormulaSetterModel") (C := "FormulaSetterModel") (T := T_Mo) (N := 53) (v := .ref (x + 21)) hx hb hT i_Mo hown hK hP mkM_o rfl 27 (by decide) (hT _ w887) (fun _ h9 => h9) rfl (fh_d d_Mo_sayBehind 1 rfl) ?_
    refine lv_iload_n hx hb (fh_d d_Mo_sayBehind 2 rfl) rfl (lv_at hl 1 rfl) ?_
    refine fn_iald (f := A 20) (k := n0) hx hb hK hP 0 mkM_a20 rfl (rfl) (by omega) (by decide) (fh_d d_Mo_sayBehind 3 rfl) ?_
    rw [show ((A 20) n0) = nI s0 from h20]
    refine fh_callS (cc' := c_Mo_zOf) (nL' := 1) (rest := []) (av := [.int (nI s0)]) X hR (m_Mo_zO l D ct b RO hR (r - 1) (by omega) n s0 hs0 (mkM ct x g A th co at_ wr no nu op (nI P) wi he de)) w1139 w1137 w1138 w9 ⟨by decide, by decide, by show _ = some 1; decide +kernel⟩ (by omega) (by decide) hP hS hl.1 rfl (by exact Nat.le_of_ble_eq_true rfl) (fh_d d_Mo_sayBehind 4 rfl) ⟨Nat.le_refl _, Nat.le_refl _⟩ (fun v9 h9 n9 H locs hq hP hS => ?_)
    obtain ⟨rfl, q1a, q1b⟩ := hq
    rw [q1a, q1b] at hP
    refine W.eq (g2 := F0 m 9 ls [.int (yS s0)]) rfl ?_
    refine lv_istore_n (lv' := [(2, .int (yS s0)), (0, .ref x), (1, .int (nI n0))]) hx hb (fh_d d_Mo_sayBehind 5 rfl) rfl hl (by decide) rfl (fun ls hl => ?_)
    refine lv_aload_n hx hb (fh_d d_Mo_sayBehind 6 rfl) rfl (lv_at hl 1 rfl) ?_
    refine fh_get (own := "FormulaSetterModel") (ref := "FormulaSetterModel") (C := "FormulaSetterModel") (T := T_Mo) (N := 53) (v := .ref (x + 21)) hx hb hT i_Mo hown hK hP mkM_o rfl 27 (by decide) (hT _ w887) (fun _ h9 => h9) rfl (fh_d d_Mo_sayBehind 7 rfl) ?_
    refine lv_iload_n hx hb (fh_d d_Mo_sayBehind 8 rfl) rfl (lv_at hl 2 rfl) ?_
    refine fn_iald (f := A 20) (k := n0) hx hb hK hP 0 mkM_a20 rfl (rfl) (by omega) (by decide) (fh_d d_Mo_sayBehind 9 rfl) ?_
    rw [show ((A 20) n0) = nI s0 from h20]
    refine fh_callS (cc' := c_Mo_tOf) (nL' := 1) (rest := []) (av := [.int (nI s0)]) X hR (m_Mo_tO l D ct b RO hR (r - 1) (by omega) n s0 hs0 (mkM ct x g A th co at_ wr no nu op (nI P) wi he de)) w1174 w1172 w1173 w9 ⟨by decide, by decide, by show _ = some 1; decide +kernel⟩ (by omega) (by decide) hP hS hl.1 rfl (by exact Nat.le_of_ble_eq_true rfl) (fh_d d_Mo_sayBehind 10 rfl) ⟨Nat.le_refl _, Nat.le_refl _⟩ (fun v9 h9 n9 H locs hq hP hS => ?_)
    obtain ⟨rfl, q2a, q2b⟩ := hq
    rw [q2a, q2b] at hP
    refine W.eq (g2 := F0 m 19 ls [.int (yT s0)]) rfl ?_
    refine lv_istore_n (lv' := [(3, .int (yT s0)), (2, .int (yS s0)), (0, .ref x), (1, .int (nI n0))]) hx hb (fh_d d_Mo_sayBehind 11 rfl) rfl hl (by decide) rfl (fun ls hl => ?_)
    refine lv_aload_n hx hb (fh_d d_Mo_sayBehind 12 rfl) rfl (lv_at hl 2 rfl) ?_
    refine fh_get (own := "FormulaSetterModel") (ref := "FormulaSetterModel") (C := "FormulaSetterModel") (T := T_Mo) (N := 53) (v := .ref (x + 32)) hx hb hT i_Mo hown hK hP mkM_o rfl 38 (by decide) (hT _ w898) (fun _ h9 => h9) rfl (fh_d d_Mo_sayBehind 13 rfl) ?_
    refine lv_iload_n hx hb (fh_d d_Mo_sayBehind 14 rfl) rfl (lv_at hl 3 rfl) ?_
    refine fn_iald (f := A 31) (k := n0) hx hb hK hP 0 mkM_a31 rfl (rfl) (by omega) (by decide) (fh_d d_Mo_sayBehind 15 rfl) ?_
    refine lv_aload_n hx hb (fh_d d_Mo_sayBehind 16 rfl) rfl (lv_at hl 2 rfl) ?_
    refine fh_get (own := "FormulaSetterModel") (ref := "FormulaSetterModel") (C := "FormulaSetterModel") (T := T_Mo) (N := 53) (v := .ref (x + 29)) hx hb hT i_Mo hown hK hP mkM_o rfl 35 (by decide) (hT _ w895) (fun _ h9 => h9) rfl (fh_d d_Mo_sayBehind 17 rfl) ?_
    refine lv_iload_n hx hb (fh_d d_Mo_sayBehind 18 rfl) rfl (lv_at hl 3 rfl) ?_
    refine fn_iald (f := A 28) (k := n0) hx hb hK hP 0 mkM_a28 rfl (rfl) (by omega) (by decide) (fh_d d_Mo_sayBehind 19 rfl) ?_
    refine lv_iadd hx hb (fh_d d_Mo_sayBehind 20 rfl) ?_
    refine lv_istore (lv' := [(4, .int (((A 31) n0) + ((A 28) n0))), (3, .int (yT s0)), (2, .int (yS s0)), (0, .ref x), (1, .int (nI n0))]) hx hb (fh_d d_Mo_sayBehind 21 rfl) hl (by decide) rfl (fun ls hl => ?_)
    refine lv_aload_n hx hb (fh_d d_Mo_sayBehind 22 rfl) rfl (lv_at hl 3 rfl) ?_
    refine fh_get (own := "FormulaSetterModel") (ref := "FormulaSetterModel") (C := "FormulaSetterModel") (T := T_Mo) (N := 53) (v := .ref (x + 33)) hx hb hT i_Mo hown hK hP mkM_o rfl 39 (by decide) (hT _ w899) (fun _ h9 => h9) rfl (fh_d d_Mo_sayBehind 23 rfl) ?_
    refine lv_iload_n hx hb (fh_d d_Mo_sayBehind 24 rfl) rfl (lv_at hl 4 rfl) ?_
    refine fn_iald (f := A 32) (k := n0) hx hb hK hP 0 mkM_a32 rfl (rfl) (by omega) (by decide) (fh_d d_Mo_sayBehind 25 rfl) ?_
    refine lv_istore (lv' := [(5, .int ((A 32) n0)), (4, .int (((A 31) n0) + ((A 28) n0))), (3, .int (yT s0)), (2, .int (yS s0)), (0, .ref x), (1, .int (nI n0))]) hx hb (fh_d d_Mo_sayBehind 26 rfl) hl (by decide) rfl (fun ls hl => ?_)
    refine lv_aload_n hx hb (fh_d d_Mo_sayBehind 27 rfl) rfl (lv_at hl 4 rfl) ?_
    refine fh_get (own := "FormulaSetterModel") (ref := "FormulaSetterModel") (C := "FormulaSetterModel") (T := T_Mo) (N := 53) (v := .ref (x + 2)) hx hb hT i_Mo hown hK hP mkM_o rfl 7 (by decide) (hT _ w867) (fun _ h9 => h9) rfl (fh_d d_Mo_sayBehind 28 rfl) ?_
    refine lv_iload_n hx hb (fh_d d_Mo_sayBehind 29 rfl) rfl (lv_at hl 5 rfl) ?_
    refine fn_iald (f := A 1) (k := n0) hx hb hK hP 0 mkM_a1 rfl (rfl) (by omega) (by decide) (fh_d d_Mo_sayBehind 30 rfl) ?_
    refine lv_iconst (v := 4) hx hb (fh_d d_Mo_sayBehind 31 rfl) (by decide) ?_
    refine lv_icmp_ne (tgt := 80) hx hb (fh_d d_Mo_sayBehind 32 rfl) rfl (fun c3 => absurd c3 (Classical.not_not.mpr (kd4))) (fun c3 => ?_)
    refine lv_aload_n hx hb (fh_d d_Mo_sayBehind 33 rfl) rfl (lv_at hl 4 rfl) ?_
    refine lv_iconst (v := 1) hx hb (fh_d d_Mo_sayBehind 34 rfl) (by decide) ?_
    refine lv_iconst (v := 0) hx hb (fh_d d_Mo_sayBehind 35 rfl) (by decide) ?_
    refine lv_iload hx hb (fh_d d_Mo_sayBehind 36 rfl) (lv_at hl 1 rfl) ?_
    refine lv_iload hx hb (fh_d d_Mo_sayBehind 37 rfl) (lv_at hl 0 rfl) ?_
    refine lv_aload_n hx hb (fh_d d_Mo_sayBehind 38 rfl) rfl (lv_at hl 4 rfl) ?_
    refine fh_get (own := "FormulaSetterModel") (ref := "FormulaSetterModel") (C := "FormulaSetterModel") (T := T_Mo) (N := 53) (v := .ref (x + 36)) hx hb hT i_Mo hown hK hP mkM_o rfl 42 (by decide) (hT _ w902) (fun _ h9 => h9) rfl (fh_d d_Mo_sayBehind 39 rfl) ?_
    refine lv_iload_n hx hb (fh_d d_Mo_sayBehind 40 rfl) rfl (lv_at hl 5 rfl) ?_
    refine fn_iald (f := A 35) (k := n0) hx hb hK hP 0 mkM_a35 rfl (rfl) (by omega) (by decide) (fh_d d_Mo_sayBehind 41 rfl) ?_
    refine lv_iadd hx hb (fh_d d_Mo_sayBehind 42 rfl) ?_
    refine lv_iload_n hx hb (fh_d d_Mo_sayBehind 43 rfl) rfl (lv_at hl 2 rfl) ?_
    refine lv_aload_n hx hb (fh_d d_Mo_sayBehind 44 rfl) rfl (lv_at hl 4 rfl) ?_
    refine fh_get (own := "FormulaSetterModel") (ref := "FormulaSetterModel") (C := "FormulaSetterModel") (T := T_Mo) (N := 53) (v := .ref (x + 23)) hx hb hT i_Mo hown hK hP mkM_o rfl 29 (by decide) (hT _ w889) (fun _ h9 => h9) rfl (fh_d d_Mo_sayBehind 45 rfl) ?_
    refine lv_iload_n hx hb (fh_d d_Mo_sayBehind 46 rfl) rfl (lv_at hl 5 rfl) ?_
    refine fn_iald (f := A 22) (k := n0) hx hb hK hP 0 mkM_a22 rfl (rfl) (by omega) (by decide) (fh_d d_Mo_sayBehind 47 rfl) ?_
    refine fh_callV (cc' := c_Mo_say) (nL' := 7) (rest := []) (a := x) (As := [.int 1, .int 0, .int (((A 31) n0) + ((A 28) n0)), .int (((A 32) n0) + ((A 35) n0)), .int (yT s0), .int ((A 22) n0)]) X hR (m_Mo_say l D ct b RO (r - 1) n x g A th co at_ wr no nu op wi he de P (by omega) 1 0 (((A 31) n0) + ((A 28) n0)) (((A 32) n0) + ((A 35) n0)) (yT s0) ((A 22) n0)) w1213 w1210 w1212 v61 w9 ⟨by decide, by decide, by show _ = some 6; decide +kernel⟩ (by omega) (by decide) (fh_recv hK hP mkM_o rfl) hP hS hl.1 rfl (by exact Nat.le_of_ble_eq_true rfl) (fh_d d_Mo_sayBehind 48 rfl) ⟨Nat.le_refl _, Nat.le_refl _⟩ (fun v9 h9 n9 H locs hq hP hS => ?_)
    obtain ⟨rfl, u4, u5⟩ := hq
    rw [u4, u5] at hP
    refine W.eq (g2 := F0 m 77 ls []) rfl ?_
    refine lv_goto (tgt := 237) hx hb (fh_d d_Mo_sayBehind 49 rfl) rfl ?_
    exact fh_vret X hP hS (fh_d d_Mo_sayBehind 148 rfl) ⟨rfl, by unfold rf_sh; rw [if_pos kd4]; (try rfl), rfl⟩
  · skip
    by_cases kd6 : A 1 n0 = 6
    · skip
      refine lv_aload_n hx hb (fh_d d_Mo_sayBehind 0 rfl) rfl (lv_at hl 0 rfl) ?_
      refine fh_get (own := "FormulaSetterModel") (ref := "FormulaSetterModel") (C := "FormulaSetterModel") (T := T_Mo) (N := 53) (v := .ref (x + 21)) hx hb hT i_Mo hown hK hP mkM_o rfl 27 (by decide) (hT _ w887) (fun _ h9 => h9) rfl (fh_d d_Mo_sayBehind 1 rfl) ?_
      refine lv_iload_n hx hb (fh_d d_Mo_sayBehind 2 rfl) rfl (lv_at hl 1 rfl) ?_
      refine fn_iald (f := A 20) (k := n0) hx hb hK hP 0 mkM_a20 rfl (rfl) (by omega) (by decide) (fh_d d_Mo_sayBehind 3 rfl) ?_
      rw [show ((A 20) n0) = nI s0 from h20]
      refine fh_callS (cc' := c_Mo_zOf) (nL' := 1) (rest := []) (av := [.int (nI s0)]) X hR (m_Mo_zO l D ct b RO hR (r - 1) (by omega) n s0 hs0 (mkM ct x g A th co at_ wr no nu op (nI P) wi he de)) w1139 w1137 w1138 w9 ⟨by decide, by decide, by show _ = some 1; decide +kernel⟩ (by omega) (by decide) hP hS hl.1 rfl (by exact Nat.le_of_ble_eq_true rfl) (fh_d d_Mo_sayBehind 4 rfl) ⟨Nat.le_refl _, Nat.le_refl _⟩ (fun v9 h9 n9 H locs hq hP hS => ?_)
      obtain ⟨rfl, q6a, q6b⟩ := hq
      rw [q6a, q6b] at hP
      refine W.eq (g2 := F0 m 9 ls [.int (yS s0)]) rfl ?_
      refine lv_istore_n (lv' := [(2, .int (yS s0)), (0, .ref x), (1, .int (nI n0))]) hx hb (fh_d d_Mo_sayBehind 5 rfl) rfl hl (by decide) rfl (fun ls hl => ?_)
      refine lv_aload_n hx hb (fh_d d_Mo_sayBehind 6 rfl) rfl (lv_at hl 1 rfl) ?_
      refine fh_get (own := "FormulaSetterModel") (ref := "FormulaSetterModel") (C := "FormulaSetterModel") (T := T_Mo) (N := 53) (v := .ref (x + 21)) hx hb hT i_Mo hown hK hP mkM_o rfl 27 (by decide) (hT _ w887) (fun _ h9 => h9) rfl (fh_d d_Mo_sayBehind 7 rfl) ?_
      refine lv_iload_n hx hb (fh_d d_Mo_sayBehind 8 rfl) rfl (lv_at hl 2 rfl) ?_
      refine fn_iald (f := A 20) (k := n0) hx hb hK hP 0 mkM_a20 rfl (rfl) (by omega) (by decide) (fh_d d_Mo_sayBehind 9 rfl) ?_
      rw [show ((A 20) n0) = nI s0 from h20]
      refine fh_callS (cc' := c_Mo_tOf) (nL' := 1) (rest := []) (av := [.int (nI s0)]) X hR (m_Mo_tO l D ct b RO hR (r - 1) (by omega) n s0 hs0 (mkM ct x g A th co at_ wr no nu op (nI P) wi he de)) w1174 w1172 w1173 w9 ⟨by decide, by decide, by show _ = some 1; decide +kernel⟩ (by omega) (by decide) hP hS hl.1 rfl (by exact Nat.le_of_ble_eq_true rfl) (fh_d d_Mo_sayBehind 10 rfl) ⟨Nat.le_refl _, Nat.le_refl _⟩ (fun v9 h9 n9 H locs hq hP hS => ?_)
      obtain ⟨rfl, q7a, q7b⟩ := hq
      rw [q7a, q7b] at hP
      refine W.eq (g2 := F0 m 19 ls [.int (yT s0)]) rfl ?_
      refine lv_istore_n (lv' := [(3, .int (yT s0)), (2, .int (yS s0)), (0, .ref x), (1, .int (nI n0))]) hx hb (fh_d d_Mo_sayBehind 11 rfl) rfl hl (by decide) rfl (fun ls hl => ?_)
      refine lv_aload_n hx hb (fh_d d_Mo_sayBehind 12 rfl) rfl (lv_at hl 2 rfl) ?_
      refine fh_get (own := "FormulaSetterModel") (ref := "FormulaSetterModel") (C := "FormulaSetterModel") (T := T_Mo) (N := 53) (v := .ref (x + 32)) hx hb hT i_Mo hown hK hP mkM_o rfl 38 (by decide) (hT _ w898) (fun _ h9 => h9) rfl (fh_d d_Mo_sayBehind 13 rfl) ?_
      refine lv_iload_n hx hb (fh_d d_Mo_sayBehind 14 rfl) rfl (lv_at hl 3 rfl) ?_
      refine fn_iald (f := A 31) (k := n0) hx hb hK hP 0 mkM_a31 rfl (rfl) (by omega) (by decide) (fh_d d_Mo_sayBehind 15 rfl) ?_
      refine lv_aload_n hx hb (fh_d d_Mo_sayBehind 16 rfl) rfl (lv_at hl 2 rfl) ?_
      refine fh_get (own := "FormulaSetterModel") (ref := "FormulaSetterModel") (C := "FormulaSetterModel") (T := T_Mo) (N := 53) (v := .ref (x + 29)) hx hb hT i_Mo hown hK hP mkM_o rfl 35 (by decide) (hT _ w895) (fun _ h9 => h9) rfl (fh_d d_Mo_sayBehind 17 rfl) ?_
      refine lv_iload_n hx hb (fh_d d_Mo_sayBehind 18 rfl) rfl (lv_at hl 3 rfl) ?_
      refine fn_iald (f := A 28) (k := n0) hx hb hK hP 0 mkM_a28 rfl (rfl) (by omega) (by decide) (fh_d d_Mo_sayBehind 19 rfl) ?_
      refine lv_iadd hx hb (fh_d d_Mo_sayBehind 20 rfl) ?_
      refine lv_istore (lv' := [(4, .int (((A 31) n0) + ((A 28) n0))), (3, .int (yT s0)), (2, .int (yS s0)), (0, .ref x), (1, .int (nI n0))]) hx hb (fh_d d_Mo_sayBehind 21 rfl) hl (by decide) rfl (fun ls hl => ?_)
      refine lv_aload_n hx hb (fh_d d_Mo_sayBehind 22 rfl) rfl (lv_at hl 3 rfl) ?_
      refine fh_get (own := "FormulaSetterModel") (ref := "FormulaSetterModel") (C := "FormulaSetterModel") (T := T_Mo) (N := 53) (v := .ref (x + 33)) hx hb hT i_Mo hown hK hP mkM_o rfl 39 (by decide) (hT _ w899) (fun _ h9 => h9) rfl (fh_d d_Mo_sayBehind 23 rfl) ?_
      refine lv_iload_n hx hb (fh_d d_Mo_sayBehind 24 rfl) rfl (lv_at hl 4 rfl) ?_
      refine fn_iald (f := A 32) (k := n0) hx hb hK hP 0 mkM_a32 rfl (rfl) (by omega) (by decide) (fh_d d_Mo_sayBehind 25 rfl) ?_
      refine lv_istore (lv' := [(5, .int ((A 32) n0)), (4, .int (((A 31) n0) + ((A 28) n0))), (3, .int (yT s0)), (2, .int (yS s0)), (0, .ref x), (1, .int (nI n0))]) hx hb (fh_d d_Mo_sayBehind 26 rfl) hl (by decide) rfl (fun ls hl => ?_)
      refine lv_aload_n hx hb (fh_d d_Mo_sayBehind 27 rfl) rfl (lv_at hl 4 rfl) ?_
      refine fh_get (own := "FormulaSetterModel") (ref := "FormulaSetterModel") (C := "FormulaSetterModel") (T := T_Mo) (N := 53) (v := .ref (x + 2)) hx hb hT i_Mo hown hK hP mkM_o rfl 7 (by decide) (hT _ w867) (fun _ h9 => h9) rfl (fh_d d_Mo_sayBehind 28 rfl) ?_
      refine lv_iload_n hx hb (fh_d d_Mo_sayBehind 29 rfl) rfl (lv_at hl 5 rfl) ?_
      refine fn_iald (f := A 1) (k := n0) hx hb hK hP 0 mkM_a1 rfl (rfl) (by omega) (by decide) (fh_d d_Mo_sayBehind 30 rfl) ?_
      refine lv_iconst (v := 4) hx hb (fh_d d_Mo_sayBehind 31 rfl) (by decide) ?_
      refine lv_icmp_ne (tgt := 80) hx hb (fh_d d_Mo_sayBehind 32 rfl) rfl (fun c8 => ?_) (fun c8 => absurd c8 (kd4))
      refine lv_aload_n hx hb (fh_d d_Mo_sayBehind 50 rfl) rfl (lv_at hl 4 rfl) ?_
      refine fh_get (own := "FormulaSetterModel") (ref := "FormulaSetterModel") (C := "FormulaSetterModel") (T := T_Mo) (N := 53) (v := .ref (x + 2)) hx hb hT i_Mo hown hK hP mkM_o rfl 7 (by decide) (hT _ w867) (fun _ h9 => h9) rfl (fh_d d_Mo_sayBehind 51 rfl) ?_
      refine lv_iload_n hx hb (fh_d d_Mo_sayBehind 52 rfl) rfl (lv_at hl 5 rfl) ?_
      refine fn_iald (f := A 1) (k := n0) hx hb hK hP 0 mkM_a1 rfl (rfl) (by omega) (by decide) (fh_d d_Mo_sayBehind 53 rfl) ?_
      refine lv_bipush (v := 6) hx hb (fh_d d_Mo_sayBehind 54 rfl) (by decide) ?_
      refine lv_icmp_ne (tgt := 135) hx hb (fh_d d_Mo_sayBehind 55 rfl) rfl (fun c9 => absurd c9 (Classical.not_not.mpr (kd6))) (fun c9 => ?_)
      refine lv_aload_n hx hb (fh_d d_Mo_sayBehind 56 rfl) rfl (lv_at hl 4 rfl) ?_
      refine lv_iconst (v := 0) hx hb (fh_d d_Mo_sayBehind 57 rfl) (by decide) ?_
      refine lv_bipush (v := 94) hx hb (fh_d d_Mo_sayBehind 58 rfl) (by decide) ?_
      refine lv_iload hx hb (fh_d d_Mo_sayBehind 59 rfl) (lv_at hl 1 rfl) ?_
      refine lv_aload_n hx hb (fh_d d_Mo_sayBehind 60 rfl) rfl (lv_at hl 4 rfl) ?_
      refine fh_get (own := "FormulaSetterModel") (ref := "FormulaSetterModel") (C := "FormulaSetterModel") (T := T_Mo) (N := 53) (v := .ref (x + 23)) hx hb hT i_Mo hown hK hP mkM_o rfl 29 (by decide) (hT _ w889) (fun _ h9 => h9) rfl (fh_d d_Mo_sayBehind 61 rfl) ?_
      refine lv_iload_n hx hb (fh_d d_Mo_sayBehind 62 rfl) rfl (lv_at hl 5 rfl) ?_
      refine fn_iald (f := A 22) (k := n0) hx hb hK hP 0 mkM_a22 rfl (rfl) (by omega) (by decide) (fh_d d_Mo_sayBehind 63 rfl) ?_
      refine lv_bipush (v := 94) hx hb (fh_d d_Mo_sayBehind 64 rfl) (by decide) ?_
      refine lv_iload_n hx hb (fh_d d_Mo_sayBehind 65 rfl) rfl (lv_at hl 3 rfl) ?_
      refine fh_callS (cc' := c_Mo_signW) (nL' := 2) (rest := [.int ((A 22) n0), .int (((A 31) n0) + ((A 28) n0)), .int 94, .int 0, .ref x]) (av := [.int 94, .int (yS s0)]) X hR (m_Mo_signW l D ct b RO (r - 1) n 94 (yS s0) (mkM ct x g A th co at_ wr no nu op (nI P) wi he de)) w1154 w1152 w1153 w9 ⟨by decide, by decide, by show _ = some 2; decide +kernel⟩ (by omega) (by decide) hP hS hl.1 rfl (by exact Nat.le_of_ble_eq_true rfl) (fh_d d_Mo_sayBehind 66 rfl) ⟨Nat.le_refl _, Nat.le_refl _⟩ (fun v9 h9 n9 H locs hq hP hS => ?_)
      obtain ⟨rfl, q10a, q10b⟩ := hq
      rw [q10a, q10b] at hP
      refine W.eq (g2 := F0 m 109 ls [.int (sgW 94 (yS s0)), .int ((A 22) n0), .int (((A 31) n0) + ((A 28) n0)), .int 94, .int 0, .ref x]) rfl ?_
      refine lv_isub hx hb (fh_d d_Mo_sayBehind 67 rfl) ?_
      refine lv_iconst (v := 2) hx hb (fh_d d_Mo_sayBehind 68 rfl) (by decide) ?_
      refine lv_idiv hx hb (fh_d d_Mo_sayBehind 69 rfl) (by decide) ?_
      refine lv_iadd hx hb (fh_d d_Mo_sayBehind 70 rfl) ?_
      refine lv_iload hx hb (fh_d d_Mo_sayBehind 71 rfl) (lv_at hl 0 rfl) ?_
      refine lv_aload_n hx hb (fh_d d_Mo_sayBehind 72 rfl) rfl (lv_at hl 4 rfl) ?_
      refine fh_get (own := "FormulaSetterModel") (ref := "FormulaSetterModel") (C := "FormulaSetterModel") (T := T_Mo) (N := 53) (v := .ref (x + 36)) hx hb hT i_Mo hown hK hP mkM_o rfl 42 (by decide) (hT _ w902) (fun _ h9 => h9) rfl (fh_d d_Mo_sayBehind 73 rfl) ?_
      refine lv_iload_n hx hb (fh_d d_Mo_sayBehind 74 rfl) rfl (lv_at hl 5 rfl) ?_
      refine fn_iald (f := A 35) (k := n0) hx hb hK hP 0 mkM_a35 rfl (rfl) (by omega) (by decide) (fh_d d_Mo_sayBehind 75 rfl) ?_
      refine lv_iadd hx hb (fh_d d_Mo_sayBehind 76 rfl) ?_
      refine lv_iload_n hx hb (fh_d d_Mo_sayBehind 77 rfl) rfl (lv_at hl 3 rfl) ?_
      refine lv_bipush (v := 94) hx hb (fh_d d_Mo_sayBehind 78 rfl) (by decide) ?_
      refine lv_iload_n hx hb (fh_d d_Mo_sayBehind 79 rfl) rfl (lv_at hl 3 rfl) ?_
      refine fh_callS (cc' := c_Mo_signW) (nL' := 2) (rest := [.int (yS s0), .int (((A 32) n0) + ((A 35) n0)), .int ((((A 31) n0) + ((A 28) n0)) + ((((A 22) n0) - (sgW 94 (yS s0))) / 2)), .int 94, .int 0, .ref x]) (av := [.int 94, .int (yS s0)]) X hR (m_Mo_signW l D ct b RO (r - 1) n 94 (yS s0) (mkM ct x g A th co at_ wr no nu op (nI P) wi he de)) w1154 w1152 w1153 w9 ⟨by decide, by decide, by show _ = some 2; decide +kernel⟩ (by omega) (by decide) hP hS hl.1 rfl (by exact Nat.le_of_ble_eq_true rfl) (fh_d d_Mo_sayBehind 80 rfl) ⟨Nat.le_refl _, Nat.le_refl _⟩ (fun v9 h9 n9 H locs hq hP hS => ?_)
      obtain ⟨rfl, q11a, q11b⟩ := hq
      rw [q11a, q11b] at hP
      refine W.eq (g2 := F0 m 129 ls [.int (sgW 94 (yS s0)), .int (yS s0), .int (((A 32) n0) + ((A 35) n0)), .int ((((A 31) n0) + ((A 28) n0)) + ((((A 22) n0) - (sgW 94 (yS s0))) / 2)), .int 94, .int 0, .ref x]) rfl ?_
      refine fh_callV (cc' := c_Mo_say) (nL' := 7) (rest := []) (a := x) (As := [.int 0, .int 94, .int ((((A 31) n0) + ((A 28) n0)) + ((((A 22) n0) - (sgW 94 (yS s0))) / 2)), .int (((A 32) n0) + ((A 35) n0)), .int (yS s0), .int (sgW 94 (yS s0))]) X hR (m_Mo_say l D ct b RO (r - 1) n x g A th co at_ wr no nu op wi he de P (by omega) 0 94 ((((A 31) n0) + ((A 28) n0)) + ((((A 22) n0) - (sgW 94 (yS s0))) / 2)) (((A 32) n0) + ((A 35) n0)) (yS s0) (sgW 94 (yS s0))) w1213 w1210 w1212 v61 w9 ⟨by decide, by decide, by show _ = some 6; decide +kernel⟩ (by omega) (by decide) (fh_recv hK hP mkM_o rfl) hP hS hl.1 rfl (by exact Nat.le_of_ble_eq_true rfl) (fh_d d_Mo_sayBehind 81 rfl) ⟨Nat.le_refl _, Nat.le_refl _⟩ (fun v9 h9 n9 H locs hq hP hS => ?_)
      obtain ⟨rfl, u12, u13⟩ := hq
      rw [u12, u13] at hP
      refine W.eq (g2 := F0 m 132 ls []) rfl ?_
      refine lv_goto (tgt := 237) hx hb (fh_d d_Mo_sayBehind 82 rfl) rfl ?_
      exact fh_vret X hP hS (fh_d d_Mo_sayBehind 148 rfl) ⟨rfl, by unfold rf_sh; rw [if_neg kd4, if_pos kd6]; (try rfl), rfl⟩
    · skip
      by_cases kd7 : A 1 n0 = 7
      · skip
        refine lv_aload_n hx hb (fh_d d_Mo_sayBehind 0 rfl) rfl (lv_at hl 0 rfl) ?_
        refine fh_get (own := "FormulaSetterModel") (ref := "FormulaSetterModel") (C := "FormulaSetterModel") (T := T_Mo) (N := 53) (v := .ref (x + 21)) hx hb hT i_Mo hown hK hP mkM_o rfl 27 (by decide) (hT _ w887) (fun _ h9 => h9) rfl (fh_d d_Mo_sayBehind 1 rfl) ?_
        refine lv_iload_n hx hb (fh_d d_Mo_sayBehind 2 rfl) rfl (lv_at hl 1 rfl) ?_
        refine fn_iald (f := A 20) (k := n0) hx hb hK hP 0 mkM_a20 rfl (rfl) (by omega) (by decide) (fh_d d_Mo_sayBehind 3 rfl) ?_
        rw [show ((A 20) n0) = nI s0 from h20]
        refine fh_callS (cc' := c_Mo_zOf) (nL' := 1) (rest := []) (av := [.int (nI s0)]) X hR (m_Mo_zO l D ct b RO hR (r - 1) (by omega) n s0 hs0 (mkM ct x g A th co at_ wr no nu op (nI P) wi he de)) w1139 w1137 w1138 w9 ⟨by decide, by decide, by show _ = some 1; decide +kernel⟩ (by omega) (by decide) hP hS hl.1 rfl (by exact Nat.le_of_ble_eq_true rfl) (fh_d d_Mo_sayBehind 4 rfl) ⟨Nat.le_refl _, Nat.le_refl _⟩ (fun v9 h9 n9 H locs hq hP hS => ?_)
        obtain ⟨rfl, q14a, q14b⟩ := hq
        rw [q14a, q14b] at hP
        refine W.eq (g2 := F0 m 9 ls [.int (yS s0)]) rfl ?_
        refine lv_istore_n (lv' := [(2, .int (yS s0)), (0, .ref x), (1, .int (nI n0))]) hx hb (fh_d d_Mo_sayBehind 5 rfl) rfl hl (by decide) rfl (fun ls hl => ?_)
        refine lv_aload_n hx hb (fh_d d_Mo_sayBehind 6 rfl) rfl (lv_at hl 1 rfl) ?_
        refine fh_get (own := "FormulaSetterModel") (ref := "FormulaSetterModel") (C := "FormulaSetterModel") (T := T_Mo) (N := 53) (v := .ref (x + 21)) hx hb hT i_Mo hown hK hP mkM_o rfl 27 (by decide) (hT _ w887) (fun _ h9 => h9) rfl (fh_d d_Mo_sayBehind 7 rfl) ?_
        refine lv_iload_n hx hb (fh_d d_Mo_sayBehind 8 rfl) rfl (lv_at hl 2 rfl) ?_
        refine fn_iald (f := A 20) (k := n0) hx hb hK hP 0 mkM_a20 rfl (rfl) (by omega) (by decide) (fh_d d_Mo_sayBehind 9 rfl) ?_
        rw [show ((A 20) n0) = nI s0 from h20]
        refine fh_callS (cc' := c_Mo_tOf) (nL' := 1) (rest := []) (av := [.int (nI s0)]) X hR (m_Mo_tO l D ct b RO hR (r - 1) (by omega) n s0 hs0 (mkM ct x g A th co at_ wr no nu op (nI P) wi he de)) w1174 w1172 w1173 w9 ⟨by decide, by decide, by show _ = some 1; decide +kernel⟩ (by omega) (by decide) hP hS hl.1 rfl (by exact Nat.le_of_ble_eq_true rfl) (fh_d d_Mo_sayBehind 10 rfl) ⟨Nat.le_refl _, Nat.le_refl _⟩ (fun v9 h9 n9 H locs hq hP hS => ?_)
        obtain ⟨rfl, q15a, q15b⟩ := hq
        rw [q15a, q15b] at hP
        refine W.eq (g2 := F0 m 19 ls [.int (yT s0)]) rfl ?_
        refine lv_istore_n (lv' := [(3, .int (yT s0)), (2, .int (yS s0)), (0, .ref x), (1, .int (nI n0))]) hx hb (fh_d d_Mo_sayBehind 11 rfl) rfl hl (by decide) rfl (fun ls hl => ?_)
        refine lv_aload_n hx hb (fh_d d_Mo_sayBehind 12 rfl) rfl (lv_at hl 2 rfl) ?_
        refine fh_get (own := "FormulaSetterModel") (ref := "FormulaSetterModel") (C := "FormulaSetterModel") (T := T_Mo) (N := 53) (v := .ref (x + 32)) hx hb hT i_Mo hown hK hP mkM_o rfl 38 (by decide) (hT _ w898) (fun _ h9 => h9) rfl (fh_d d_Mo_sayBehind 13 rfl) ?_
        refine lv_iload_n hx hb (fh_d d_Mo_sayBehind 14 rfl) rfl (lv_at hl 3 rfl) ?_
        refine fn_iald (f := A 31) (k := n0) hx hb hK hP 0 mkM_a31 rfl (rfl) (by omega) (by decide) (fh_d d_Mo_sayBehind 15 rfl) ?_
        refine lv_aload_n hx hb (fh_d d_Mo_sayBehind 16 rfl) rfl (lv_at hl 2 rfl) ?_
        refine fh_get (own := "FormulaSetterModel") (ref := "FormulaSetterModel") (C := "FormulaSetterModel") (T := T_Mo) (N := 53) (v := .ref (x + 29)) hx hb hT i_Mo hown hK hP mkM_o rfl 35 (by decide) (hT _ w895) (fun _ h9 => h9) rfl (fh_d d_Mo_sayBehind 17 rfl) ?_
        refine lv_iload_n hx hb (fh_d d_Mo_sayBehind 18 rfl) rfl (lv_at hl 3 rfl) ?_
        refine fn_iald (f := A 28) (k := n0) hx hb hK hP 0 mkM_a28 rfl (rfl) (by omega) (by decide) (fh_d d_Mo_sayBehind 19 rfl) ?_
        refine lv_iadd hx hb (fh_d d_Mo_sayBehind 20 rfl) ?_
        refine lv_istore (lv' := [(4, .int (((A 31) n0) + ((A 28) n0))), (3, .int (yT s0)), (2, .int (yS s0)), (0, .ref x), (1, .int (nI n0))]) hx hb (fh_d d_Mo_sayBehind 21 rfl) hl (by decide) rfl (fun ls hl => ?_)
        refine lv_aload_n hx hb (fh_d d_Mo_sayBehind 22 rfl) rfl (lv_at hl 3 rfl) ?_
        refine fh_get (own := "FormulaSetterModel") (ref := "FormulaSetterModel") (C := "FormulaSetterModel") (T := T_Mo) (N := 53) (v := .ref (x + 33)) hx hb hT i_Mo hown hK hP mkM_o rfl 39 (by decide) (hT _ w899) (fun _ h9 => h9) rfl (fh_d d_Mo_sayBehind 23 rfl) ?_
        refine lv_iload_n hx hb (fh_d d_Mo_sayBehind 24 rfl) rfl (lv_at hl 4 rfl) ?_
        refine fn_iald (f := A 32) (k := n0) hx hb hK hP 0 mkM_a32 rfl (rfl) (by omega) (by decide) (fh_d d_Mo_sayBehind 25 rfl) ?_
        refine lv_istore (lv' := [(5, .int ((A 32) n0)), (4, .int (((A 31) n0) + ((A 28) n0))), (3, .int (yT s0)), (2, .int (yS s0)), (0, .ref x), (1, .int (nI n0))]) hx hb (fh_d d_Mo_sayBehind 26 rfl) hl (by decide) rfl (fun ls hl => ?_)
        refine lv_aload_n hx hb (fh_d d_Mo_sayBehind 27 rfl) rfl (lv_at hl 4 rfl) ?_
        refine fh_get (own := "FormulaSetterModel") (ref := "FormulaSetterModel") (C := "FormulaSetterModel") (T := T_Mo) (N := 53) (v := .ref (x + 2)) hx hb hT i_Mo hown hK hP mkM_o rfl 7 (by decide) (hT _ w867) (fun _ h9 => h9) rfl (fh_d d_Mo_sayBehind 28 rfl) ?_
        refine lv_iload_n hx hb (fh_d d_Mo_sayBehind 29 rfl) rfl (lv_at hl 5 rfl) ?_
        refine fn_iald (f := A 1) (k := n0) hx hb hK hP 0 mkM_a1 rfl (rfl) (by omega) (by decide) (fh_d d_Mo_sayBehind 30 rfl) ?_
        refine lv_iconst (v := 4) hx hb (fh_d d_Mo_sayBehind 31 rfl) (by decide) ?_
        refine lv_icmp_ne (tgt := 80) hx hb (fh_d d_Mo_sayBehind 32 rfl) rfl (fun c16 => ?_) (fun c16 => absurd c16 (kd4))
        refine lv_aload_n hx hb (fh_d d_Mo_sayBehind 50 rfl) rfl (lv_at hl 4 rfl) ?_
        refine fh_get (own := "FormulaSetterModel") (ref := "FormulaSetterModel") (C := "FormulaSetterModel") (T := T_Mo) (N := 53) (v := .ref (x + 2)) hx hb hT i_Mo hown hK hP mkM_o rfl 7 (by decide) (hT _ w867) (fun _ h9 => h9) rfl (fh_d d_Mo_sayBehind 51 rfl) ?_
        refine lv_iload_n hx hb (fh_d d_Mo_sayBehind 52 rfl) rfl (lv_at hl 5 rfl) ?_
        refine fn_iald (f := A 1) (k := n0) hx hb hK hP 0 mkM_a1 rfl (rfl) (by omega) (by decide) (fh_d d_Mo_sayBehind 53 rfl) ?_
        refine lv_bipush (v := 6) hx hb (fh_d d_Mo_sayBehind 54 rfl) (by decide) ?_
        refine lv_icmp_ne (tgt := 135) hx hb (fh_d d_Mo_sayBehind 55 rfl) rfl (fun c17 => ?_) (fun c17 => absurd c17 (kd6))
        refine lv_aload_n hx hb (fh_d d_Mo_sayBehind 83 rfl) rfl (lv_at hl 4 rfl) ?_
        refine fh_get (own := "FormulaSetterModel") (ref := "FormulaSetterModel") (C := "FormulaSetterModel") (T := T_Mo) (N := 53) (v := .ref (x + 2)) hx hb hT i_Mo hown hK hP mkM_o rfl 7 (by decide) (hT _ w867) (fun _ h9 => h9) rfl (fh_d d_Mo_sayBehind 84 rfl) ?_
        refine lv_iload_n hx hb (fh_d d_Mo_sayBehind 85 rfl) rfl (lv_at hl 5 rfl) ?_
        refine fn_iald (f := A 1) (k := n0) hx hb hK hP 0 mkM_a1 rfl (rfl) (by omega) (by decide) (fh_d d_Mo_sayBehind 86 rfl) ?_
        refine lv_bipush (v := 7) hx hb (fh_d d_Mo_sayBehind 87 rfl) (by decide) ?_
        refine lv_icmp_ne (tgt := 173) hx hb (fh_d d_Mo_sayBehind 88 rfl) rfl (fun c18 => absurd c18 (Classical.not_not.mpr (kd7))) (fun c18 => ?_)
        refine lv_aload_n hx hb (fh_d d_Mo_sayBehind 89 rfl) rfl (lv_at hl 4 rfl) ?_
        refine lv_iconst (v := 1) hx hb (fh_d d_Mo_sayBehind 90 rfl) (by decide) ?_
        refine lv_iconst (v := 0) hx hb (fh_d d_Mo_sayBehind 91 rfl) (by decide) ?_
        refine lv_iload hx hb (fh_d d_Mo_sayBehind 92 rfl) (lv_at hl 1 rfl) ?_
        refine lv_iload hx hb (fh_d d_Mo_sayBehind 93 rfl) (lv_at hl 0 rfl) ?_
        refine lv_aload_n hx hb (fh_d d_Mo_sayBehind 94 rfl) rfl (lv_at hl 4 rfl) ?_
        refine fh_get (own := "FormulaSetterModel") (ref := "FormulaSetterModel") (C := "FormulaSetterModel") (T := T_Mo) (N := 53) (v := .ref (x + 36)) hx hb hT i_Mo hown hK hP mkM_o rfl 42 (by decide) (hT _ w902) (fun _ h9 => h9) rfl (fh_d d_Mo_sayBehind 95 rfl) ?_
        refine lv_iload_n hx hb (fh_d d_Mo_sayBehind 96 rfl) rfl (lv_at hl 5 rfl) ?_
        refine fn_iald (f := A 35) (k := n0) hx hb hK hP 0 mkM_a35 rfl (rfl) (by omega) (by decide) (fh_d d_Mo_sayBehind 97 rfl) ?_
        refine lv_iadd hx hb (fh_d d_Mo_sayBehind 98 rfl) ?_
        refine lv_iload_n hx hb (fh_d d_Mo_sayBehind 99 rfl) rfl (lv_at hl 2 rfl) ?_
        refine lv_aload_n hx hb (fh_d d_Mo_sayBehind 100 rfl) rfl (lv_at hl 4 rfl) ?_
        refine fh_get (own := "FormulaSetterModel") (ref := "FormulaSetterModel") (C := "FormulaSetterModel") (T := T_Mo) (N := 53) (v := .ref (x + 23)) hx hb hT i_Mo hown hK hP mkM_o rfl 29 (by decide) (hT _ w889) (fun _ h9 => h9) rfl (fh_d d_Mo_sayBehind 101 rfl) ?_
        refine lv_iload_n hx hb (fh_d d_Mo_sayBehind 102 rfl) rfl (lv_at hl 5 rfl) ?_
        refine fn_iald (f := A 22) (k := n0) hx hb hK hP 0 mkM_a22 rfl (rfl) (by omega) (by decide) (fh_d d_Mo_sayBehind 103 rfl) ?_
        refine fh_callV (cc' := c_Mo_say) (nL' := 7) (rest := []) (a := x) (As := [.int 1, .int 0, .int (((A 31) n0) + ((A 28) n0)), .int (((A 32) n0) + ((A 35) n0)), .int (yT s0), .int ((A 22) n0)]) X hR (m_Mo_say l D ct b RO (r - 1) n x g A th co at_ wr no nu op wi he de P (by omega) 1 0 (((A 31) n0) + ((A 28) n0)) (((A 32) n0) + ((A 35) n0)) (yT s0) ((A 22) n0)) w1213 w1210 w1212 v61 w9 ⟨by decide, by decide, by show _ = some 6; decide +kernel⟩ (by omega) (by decide) (fh_recv hK hP mkM_o rfl) hP hS hl.1 rfl (by exact Nat.le_of_ble_eq_true rfl) (fh_d d_Mo_sayBehind 104 rfl) ⟨Nat.le_refl _, Nat.le_refl _⟩ (fun v9 h9 n9 H locs hq hP hS => ?_)
        obtain ⟨rfl, u19, u20⟩ := hq
        rw [u19, u20] at hP
        refine W.eq (g2 := F0 m 170 ls []) rfl ?_
        refine lv_goto (tgt := 237) hx hb (fh_d d_Mo_sayBehind 105 rfl) rfl ?_
        exact fh_vret X hP hS (fh_d d_Mo_sayBehind 148 rfl) ⟨rfl, by unfold rf_sh; rw [if_neg kd4, if_neg kd6, if_pos kd7]; (try rfl), rfl⟩
      · skip
        by_cases kd8 : A 1 n0 = 8
        · skip
          by_cases hd : A 3 n0 = 46
          · skip
            refine lv_aload_n hx hb (fh_d d_Mo_sayBehind 0 rfl) rfl (lv_at hl 0 rfl) ?_
            refine fh_get (own := "FormulaSetterModel") (ref := "FormulaSetterModel") (C := "FormulaSetterModel") (T := T_Mo) (N := 53) (v := .ref (x + 21)) hx hb hT i_Mo hown hK hP mkM_o rfl 27 (by decide) (hT _ w887) (fun _ h9 => h9) rfl (fh_d d_Mo_sayBehind 1 rfl) ?_
            refine lv_iload_n hx hb (fh_d d_Mo_sayBehind 2 rfl) rfl (lv_at hl 1 rfl) ?_
            refine fn_iald (f := A 20) (k := n0) hx hb hK hP 0 mkM_a20 rfl (rfl) (by omega) (by decide) (fh_d d_Mo_sayBehind 3 rfl) ?_
            rw [show ((A 20) n0) = nI s0 from h20]
            refine fh_callS (cc' := c_Mo_zOf) (nL' := 1) (rest := []) (av := [.int (nI s0)]) X hR (m_Mo_zO l D ct b RO hR (r - 1) (by omega) n s0 hs0 (mkM ct x g A th co at_ wr no nu op (nI P) wi he de)) w1139 w1137 w1138 w9 ⟨by decide, by decide, by show _ = some 1; decide +kernel⟩ (by omega) (by decide) hP hS hl.1 rfl (by exact Nat.le_of_ble_eq_true rfl) (fh_d d_Mo_sayBehind 4 rfl) ⟨Nat.le_refl _, Nat.le_refl _⟩ (fun v9 h9 n9 H locs hq hP hS => ?_)
            obtain ⟨rfl, q21a, q21b⟩ := hq
            rw [q21a, q21b] at hP
            refine W.eq (g2 := F0 m 9 ls [.int (yS s0)]) rfl ?_
            refine lv_istore_n (lv' := [(2, .int (yS s0)), (0, .ref x), (1, .int (nI n0))]) hx hb (fh_d d_Mo_sayBehind 5 rfl) rfl hl (by decide) rfl (fun ls hl => ?_)
            refine lv_aload_n hx hb (fh_d d_Mo_sayBehind 6 rfl) rfl (lv_at hl 1 rfl) ?_
            refine fh_get (own := "FormulaSetterModel") (ref := "FormulaSetterModel") (C := "FormulaSetterModel") (T := T_Mo) (N := 53) (v := .ref (x + 21)) hx hb hT i_Mo hown hK hP mkM_o rfl 27 (by decide) (hT _ w887) (fun _ h9 => h9) rfl (fh_d d_Mo_sayBehind 7 rfl) ?_
            refine lv_iload_n hx hb (fh_d d_Mo_sayBehind 8 rfl) rfl (lv_at hl 2 rfl) ?_
            refine fn_iald (f := A 20) (k := n0) hx hb hK hP 0 mkM_a20 rfl (rfl) (by omega) (by decide) (fh_d d_Mo_sayBehind 9 rfl) ?_
            rw [show ((A 20) n0) = nI s0 from h20]
            refine fh_callS (cc' := c_Mo_tOf) (nL' := 1) (rest := []) (av := [.int (nI s0)]) X hR (m_Mo_tO l D ct b RO hR (r - 1) (by omega) n s0 hs0 (mkM ct x g A th co at_ wr no nu op (nI P) wi he de)) w1174 w1172 w1173 w9 ⟨by decide, by decide, by show _ = some 1; decide +kernel⟩ (by omega) (by decide) hP hS hl.1 rfl (by exact Nat.le_of_ble_eq_true rfl) (fh_d d_Mo_sayBehind 10 rfl) ⟨Nat.le_refl _, Nat.le_refl _⟩ (fun v9 h9 n9 H locs hq hP hS => ?_)
            obtain ⟨rfl, q22a, q22b⟩ := hq
            rw [q22a, q22b] at hP
            refine W.eq (g2 := F0 m 19 ls [.int (yT s0)]) rfl ?_
            refine lv_istore_n (lv' := [(3, .int (yT s0)), (2, .int (yS s0)), (0, .ref x), (1, .int (nI n0))]) hx hb (fh_d d_Mo_sayBehind 11 rfl) rfl hl (by decide) rfl (fun ls hl => ?_)
            refine lv_aload_n hx hb (fh_d d_Mo_sayBehind 12 rfl) rfl (lv_at hl 2 rfl) ?_
            refine fh_get (own := "FormulaSetterModel") (ref := "FormulaSetterModel") (C := "FormulaSetterModel") (T := T_Mo) (N := 53) (v := .ref (x + 32)) hx hb hT i_Mo hown hK hP mkM_o rfl 38 (by decide) (hT _ w898) (fun _ h9 => h9) rfl (fh_d d_Mo_sayBehind 13 rfl) ?_
            refine lv_iload_n hx hb (fh_d d_Mo_sayBehind 14 rfl) rfl (lv_at hl 3 rfl) ?_
            refine fn_iald (f := A 31) (k := n0) hx hb hK hP 0 mkM_a31 rfl (rfl) (by omega) (by decide) (fh_d d_Mo_sayBehind 15 rfl) ?_
            refine lv_aload_n hx hb (fh_d d_Mo_sayBehind 16 rfl) rfl (lv_at hl 2 rfl) ?_
            refine fh_get (own := "FormulaSetterModel") (ref := "FormulaSetterModel") (C := "FormulaSetterModel") (T := T_Mo) (N := 53) (v := .ref (x + 29)) hx hb hT i_Mo hown hK hP mkM_o rfl 35 (by decide) (hT _ w895) (fun _ h9 => h9) rfl (fh_d d_Mo_sayBehind 17 rfl) ?_
            refine lv_iload_n hx hb (fh_d d_Mo_sayBehind 18 rfl) rfl (lv_at hl 3 rfl) ?_
            refine fn_iald (f := A 28) (k := n0) hx hb hK hP 0 mkM_a28 rfl (rfl) (by omega) (by decide) (fh_d d_Mo_sayBehind 19 rfl) ?_
            refine lv_iadd hx hb (fh_d d_Mo_sayBehind 20 rfl) ?_
            refine lv_istore (lv' := [(4, .int (((A 31) n0) + ((A 28) n0))), (3, .int (yT s0)), (2, .int (yS s0)), (0, .ref x), (1, .int (nI n0))]) hx hb (fh_d d_Mo_sayBehind 21 rfl) hl (by decide) rfl (fun ls hl => ?_)
            refine lv_aload_n hx hb (fh_d d_Mo_sayBehind 22 rfl) rfl (lv_at hl 3 rfl) ?_
            refine fh_get (own := "FormulaSetterModel") (ref := "FormulaSetterModel") (C := "FormulaSetterModel") (T := T_Mo) (N := 53) (v := .ref (x + 33)) hx hb hT i_Mo hown hK hP mkM_o rfl 39 (by decide) (hT _ w899) (fun _ h9 => h9) rfl (fh_d d_Mo_sayBehind 23 rfl) ?_
            refine lv_iload_n hx hb (fh_d d_Mo_sayBehind 24 rfl) rfl (lv_at hl 4 rfl) ?_
            refine fn_iald (f := A 32) (k := n0) hx hb hK hP 0 mkM_a32 rfl (rfl) (by omega) (by decide) (fh_d d_Mo_sayBehind 25 rfl) ?_
            refine lv_istore (lv' := [(5, .int ((A 32) n0)), (4, .int (((A 31) n0) + ((A 28) n0))), (3, .int (yT s0)), (2, .int (yS s0)), (0, .ref x), (1, .int (nI n0))]) hx hb (fh_d d_Mo_sayBehind 26 rfl) hl (by decide) rfl (fun ls hl => ?_)
            refine lv_aload_n hx hb (fh_d d_Mo_sayBehind 27 rfl) rfl (lv_at hl 4 rfl) ?_
            refine fh_get (own := "FormulaSetterModel") (ref := "FormulaSetterModel") (C := "FormulaSetterModel") (T := T_Mo) (N := 53) (v := .ref (x + 2)) hx hb hT i_Mo hown hK hP mkM_o rfl 7 (by decide) (hT _ w867) (fun _ h9 => h9) rfl (fh_d d_Mo_sayBehind 28 rfl) ?_
            refine lv_iload_n hx hb (fh_d d_Mo_sayBehind 29 rfl) rfl (lv_at hl 5 rfl) ?_
            refine fn_iald (f := A 1) (k := n0) hx hb hK hP 0 mkM_a1 rfl (rfl) (by omega) (by decide) (fh_d d_Mo_sayBehind 30 rfl) ?_
            refine lv_iconst (v := 4) hx hb (fh_d d_Mo_sayBehind 31 rfl) (by decide) ?_
            refine lv_icmp_ne (tgt := 80) hx hb (fh_d d_Mo_sayBehind 32 rfl) rfl (fun c23 => ?_) (fun c23 => absurd c23 (kd4))
            refine lv_aload_n hx hb (fh_d d_Mo_sayBehind 50 rfl) rfl (lv_at hl 4 rfl) ?_
            refine fh_get (own := "FormulaSetterModel") (ref := "FormulaSetterModel") (C := "FormulaSetterModel") (T := T_Mo) (N := 53) (v := .ref (x + 2)) hx hb hT i_Mo hown hK hP mkM_o rfl 7 (by decide) (hT _ w867) (fun _ h9 => h9) rfl (fh_d d_Mo_sayBehind 51 rfl) ?_
            refine lv_iload_n hx hb (fh_d d_Mo_sayBehind 52 rfl) rfl (lv_at hl 5 rfl) ?_
            refine fn_iald (f := A 1) (k := n0) hx hb hK hP 0 mkM_a1 rfl (rfl) (by omega) (by decide) (fh_d d_Mo_sayBehind 53 rfl) ?_
            refine lv_bipush (v := 6) hx hb (fh_d d_Mo_sayBehind 54 rfl) (by decide) ?_
            refine lv_icmp_ne (tgt := 135) hx hb (fh_d d_Mo_sayBehind 55 rfl) rfl (fun c24 => ?_) (fun c24 => absurd c24 (kd6))
            refine lv_aload_n hx hb (fh_d d_Mo_sayBehind 83 rfl) rfl (lv_at hl 4 rfl) ?_
            refine fh_get (own := "FormulaSetterModel") (ref := "FormulaSetterModel") (C := "FormulaSetterModel") (T := T_Mo) (N := 53) (v := .ref (x + 2)) hx hb hT i_Mo hown hK hP mkM_o rfl 7 (by decide) (hT _ w867) (fun _ h9 => h9) rfl (fh_d d_Mo_sayBehind 84 rfl) ?_
            refine lv_iload_n hx hb (fh_d d_Mo_sayBehind 85 rfl) rfl (lv_at hl 5 rfl) ?_
            refine fn_iald (f := A 1) (k := n0) hx hb hK hP 0 mkM_a1 rfl (rfl) (by omega) (by decide) (fh_d d_Mo_sayBehind 86 rfl) ?_
            refine lv_bipush (v := 7) hx hb (fh_d d_Mo_sayBehind 87 rfl) (by decide) ?_
            refine lv_icmp_ne (tgt := 173) hx hb (fh_d d_Mo_sayBehind 88 rfl) rfl (fun c25 => ?_) (fun c25 => absurd c25 (kd7))
            refine lv_aload_n hx hb (fh_d d_Mo_sayBehind 106 rfl) rfl (lv_at hl 4 rfl) ?_
            refine fh_get (own := "FormulaSetterModel") (ref := "FormulaSetterModel") (C := "FormulaSetterModel") (T := T_Mo) (N := 53) (v := .ref (x + 2)) hx hb hT i_Mo hown hK hP mkM_o rfl 7 (by decide) (hT _ w867) (fun _ h9 => h9) rfl (fh_d d_Mo_sayBehind 107 rfl) ?_
            refine lv_iload_n hx hb (fh_d d_Mo_sayBehind 108 rfl) rfl (lv_at hl 5 rfl) ?_
            refine fn_iald (f := A 1) (k := n0) hx hb hK hP 0 mkM_a1 rfl (rfl) (by omega) (by decide) (fh_d d_Mo_sayBehind 109 rfl) ?_
            refine lv_bipush (v := 8) hx hb (fh_d d_Mo_sayBehind 110 rfl) (by decide) ?_
            refine lv_icmp_ne (tgt := 237) hx hb (fh_d d_Mo_sayBehind 111 rfl) rfl (fun c26 => absurd c26 (Classical.not_not.mpr (kd8))) (fun c26 => ?_)
            refine lv_aload_n hx hb (fh_d d_Mo_sayBehind 112 rfl) rfl (lv_at hl 4 rfl) ?_
            refine fh_get (own := "FormulaSetterModel") (ref := "FormulaSetterModel") (C := "FormulaSetterModel") (T := T_Mo) (N := 53) (v := .ref (x + 4)) hx hb hT i_Mo hown hK hP mkM_o rfl 9 (by decide) (hT _ w869) (fun _ h9 => h9) rfl (fh_d d_Mo_sayBehind 113 rfl) ?_
            refine lv_iload_n hx hb (fh_d d_Mo_sayBehind 114 rfl) rfl (lv_at hl 5 rfl) ?_
            refine fn_iald (f := A 3) (k := n0) hx hb hK hP 0 mkM_a3 rfl (rfl) (by omega) (by decide) (fh_d d_Mo_sayBehind 115 rfl) ?_
            refine lv_bipush (v := 46) hx hb (fh_d d_Mo_sayBehind 116 rfl) (by decide) ?_
            refine lv_icmp_eq (tgt := 237) hx hb (fh_d d_Mo_sayBehind 117 rfl) rfl (fun c27 => ?_) (fun c27 => absurd c27 (Classical.not_not.mpr (hd)))
            exact fh_vret X hP hS (fh_d d_Mo_sayBehind 148 rfl) ⟨rfl, by unfold rf_sh; rw [if_neg kd4, if_neg kd6, if_neg kd7, if_pos kd8, if_pos hd]; (try rfl), rfl⟩
          · skip
            refine lv_aload_n hx hb (fh_d d_Mo_sayBehind 0 rfl) rfl (lv_at hl 0 rfl) ?_
            refine fh_get (own := "FormulaSetterModel") (ref := "FormulaSetterModel") (C := "FormulaSetterModel") (T := T_Mo) (N := 53) (v := .ref (x + 21)) hx hb hT i_Mo hown hK hP mkM_o rfl 27 (by decide) (hT _ w887) (fun _ h9 => h9) rfl (fh_d d_Mo_sayBehind 1 rfl) ?_
            refine lv_iload_n hx hb (fh_d d_Mo_sayBehind 2 rfl) rfl (lv_at hl 1 rfl) ?_
            refine fn_iald (f := A 20) (k := n0) hx hb hK hP 0 mkM_a20 rfl (rfl) (by omega) (by decide) (fh_d d_Mo_sayBehind 3 rfl) ?_
            rw [show ((A 20) n0) = nI s0 from h20]
            refine fh_callS (cc' := c_Mo_zOf) (nL' := 1) (rest := []) (av := [.int (nI s0)]) X hR (m_Mo_zO l D ct b RO hR (r - 1) (by omega) n s0 hs0 (mkM ct x g A th co at_ wr no nu op (nI P) wi he de)) w1139 w1137 w1138 w9 ⟨by decide, by decide, by show _ = some 1; decide +kernel⟩ (by omega) (by decide) hP hS hl.1 rfl (by exact Nat.le_of_ble_eq_true rfl) (fh_d d_Mo_sayBehind 4 rfl) ⟨Nat.le_refl _, Nat.le_refl _⟩ (fun v9 h9 n9 H locs hq hP hS => ?_)
            obtain ⟨rfl, q28a, q28b⟩ := hq
            rw [q28a, q28b] at hP
            refine W.eq (g2 := F0 m 9 ls [.int (yS s0)]) rfl ?_
            refine lv_istore_n (lv' := [(2, .int (yS s0)), (0, .ref x), (1, .int (nI n0))]) hx hb (fh_d d_Mo_sayBehind 5 rfl) rfl hl (by decide) rfl (fun ls hl => ?_)
            refine lv_aload_n hx hb (fh_d d_Mo_sayBehind 6 rfl) rfl (lv_at hl 1 rfl) ?_
            refine fh_get (own := "FormulaSetterModel") (ref := "FormulaSetterModel") (C := "FormulaSetterModel") (T := T_Mo) (N := 53) (v := .ref (x + 21)) hx hb hT i_Mo hown hK hP mkM_o rfl 27 (by decide) (hT _ w887) (fun _ h9 => h9) rfl (fh_d d_Mo_sayBehind 7 rfl) ?_
            refine lv_iload_n hx hb (fh_d d_Mo_sayBehind 8 rfl) rfl (lv_at hl 2 rfl) ?_
            refine fn_iald (f := A 20) (k := n0) hx hb hK hP 0 mkM_a20 rfl (rfl) (by omega) (by decide) (fh_d d_Mo_sayBehind 9 rfl) ?_
            rw [show ((A 20) n0) = nI s0 from h20]
            refine fh_callS (cc' := c_Mo_tOf) (nL' := 1) (rest := []) (av := [.int (nI s0)]) X hR (m_Mo_tO l D ct b RO hR (r - 1) (by omega) n s0 hs0 (mkM ct x g A th co at_ wr no nu op (nI P) wi he de)) w1174 w1172 w1173 w9 ⟨by decide, by decide, by show _ = some 1; decide +kernel⟩ (by omega) (by decide) hP hS hl.1 rfl (by exact Nat.le_of_ble_eq_true rfl) (fh_d d_Mo_sayBehind 10 rfl) ⟨Nat.le_refl _, Nat.le_refl _⟩ (fun v9 h9 n9 H locs hq hP hS => ?_)
            obtain ⟨rfl, q29a, q29b⟩ := hq
            rw [q29a, q29b] at hP
            refine W.eq (g2 := F0 m 19 ls [.int (yT s0)]) rfl ?_
            refine lv_istore_n (lv' := [(3, .int (yT s0)), (2, .int (yS s0)), (0, .ref x), (1, .int (nI n0))]) hx hb (fh_d d_Mo_sayBehind 11 rfl) rfl hl (by decide) rfl (fun ls hl => ?_)
            refine lv_aload_n hx hb (fh_d d_Mo_sayBehind 12 rfl) rfl (lv_at hl 2 rfl) ?_
            refine fh_get (own := "FormulaSetterModel") (ref := "FormulaSetterModel") (C := "FormulaSetterModel") (T := T_Mo) (N := 53) (v := .ref (x + 32)) hx hb hT i_Mo hown hK hP mkM_o rfl 38 (by decide) (hT _ w898) (fun _ h9 => h9) rfl (fh_d d_Mo_sayBehind 13 rfl) ?_
            refine lv_iload_n hx hb (fh_d d_Mo_sayBehind 14 rfl) rfl (lv_at hl 3 rfl) ?_
            refine fn_iald (f := A 31) (k := n0) hx hb hK hP 0 mkM_a31 rfl (rfl) (by omega) (by decide) (fh_d d_Mo_sayBehind 15 rfl) ?_
            refine lv_aload_n hx hb (fh_d d_Mo_sayBehind 16 rfl) rfl (lv_at hl 2 rfl) ?_
            refine fh_get (own := "FormulaSetterModel") (ref := "FormulaSetterModel") (C := "FormulaSetterModel") (T := T_Mo) (N := 53) (v := .ref (x + 29)) hx hb hT i_Mo hown hK hP mkM_o rfl 35 (by decide) (hT _ w895) (fun _ h9 => h9) rfl (fh_d d_Mo_sayBehind 17 rfl) ?_
            refine lv_iload_n hx hb (fh_d d_Mo_sayBehind 18 rfl) rfl (lv_at hl 3 rfl) ?_
            refine fn_iald (f := A 28) (k := n0) hx hb hK hP 0 mkM_a28 rfl (rfl) (by omega) (by decide) (fh_d d_Mo_sayBehind 19 rfl) ?_
            refine lv_iadd hx hb (fh_d d_Mo_sayBehind 20 rfl) ?_
            refine lv_istore (lv' := [(4, .int (((A 31) n0) + ((A 28) n0))), (3, .int (yT s0)), (2, .int (yS s0)), (0, .ref x), (1, .int (nI n0))]) hx hb (fh_d d_Mo_sayBehind 21 rfl) hl (by decide) rfl (fun ls hl => ?_)
            refine lv_aload_n hx hb (fh_d d_Mo_sayBehind 22 rfl) rfl (lv_at hl 3 rfl) ?_
            refine fh_get (own := "FormulaSetterModel") (ref := "FormulaSetterModel") (C := "FormulaSetterModel") (T := T_Mo) (N := 53) (v := .ref (x + 33)) hx hb hT i_Mo hown hK hP mkM_o rfl 39 (by decide) (hT _ w899) (fun _ h9 => h9) rfl (fh_d d_Mo_sayBehind 23 rfl) ?_
            refine lv_iload_n hx hb (fh_d d_Mo_sayBehind 24 rfl) rfl (lv_at hl 4 rfl) ?_
            refine fn_iald (f := A 32) (k := n0) hx hb hK hP 0 mkM_a32 rfl (rfl) (by omega) (by decide) (fh_d d_Mo_sayBehind 25 rfl) ?_
            refine lv_istore (lv' := [(5, .int ((A 32) n0)), (4, .int (((A 31) n0) + ((A 28) n0))), (3, .int (yT s0)), (2, .int (yS s0)), (0, .ref x), (1, .int (nI n0))]) hx hb (fh_d d_Mo_sayBehind 26 rfl) hl (by decide) rfl (fun ls hl => ?_)
            refine lv_aload_n hx hb (fh_d d_Mo_sayBehind 27 rfl) rfl (lv_at hl 4 rfl) ?_
            refine fh_get (own := "FormulaSetterModel") (ref := "FormulaSetterModel") (C := "FormulaSetterModel") (T := T_Mo) (N := 53) (v := .ref (x + 2)) hx hb hT i_Mo hown hK hP mkM_o rfl 7 (by decide) (hT _ w867) (fun _ h9 => h9) rfl (fh_d d_Mo_sayBehind 28 rfl) ?_
            refine lv_iload_n hx hb (fh_d d_Mo_sayBehind 29 rfl) rfl (lv_at hl 5 rfl) ?_
            refine fn_iald (f := A 1) (k := n0) hx hb hK hP 0 mkM_a1 rfl (rfl) (by omega) (by decide) (fh_d d_Mo_sayBehind 30 rfl) ?_
            refine lv_iconst (v := 4) hx hb (fh_d d_Mo_sayBehind 31 rfl) (by decide) ?_
            refine lv_icmp_ne (tgt := 80) hx hb (fh_d d_Mo_sayBehind 32 rfl) rfl (fun c30 => ?_) (fun c30 => absurd c30 (kd4))
            refine lv_aload_n hx hb (fh_d d_Mo_sayBehind 50 rfl) rfl (lv_at hl 4 rfl) ?_
            refine fh_get (own := "FormulaSetterModel") (ref := "FormulaSetterModel") (C := "FormulaSetterModel") (T := T_Mo) (N := 53) (v := .ref (x + 2)) hx hb hT i_Mo hown hK hP mkM_o rfl 7 (by decide) (hT _ w867) (fun _ h9 => h9) rfl (fh_d d_Mo_sayBehind 51 rfl) ?_
            refine lv_iload_n hx hb (fh_d d_Mo_sayBehind 52 rfl) rfl (lv_at hl 5 rfl) ?_
            refine fn_iald (f := A 1) (k := n0) hx hb hK hP 0 mkM_a1 rfl (rfl) (by omega) (by decide) (fh_d d_Mo_sayBehind 53 rfl) ?_
            refine lv_bipush (v := 6) hx hb (fh_d d_Mo_sayBehind 54 rfl) (by decide) ?_
            refine lv_icmp_ne (tgt := 135) hx hb (fh_d d_Mo_sayBehind 55 rfl) rfl (fun c31 => ?_) (fun c31 => absurd c31 (kd6))
            refine lv_aload_n hx hb (fh_d d_Mo_sayBehind 83 rfl) rfl (lv_at hl 4 rfl) ?_
            refine fh_get (own := "FormulaSetterModel") (ref := "FormulaSetterModel") (C := "FormulaSetterModel") (T := T_Mo) (N := 53) (v := .ref (x + 2)) hx hb hT i_Mo hown hK hP mkM_o rfl 7 (by decide) (hT _ w867) (fun _ h9 => h9) rfl (fh_d d_Mo_sayBehind 84 rfl) ?_
            refine lv_iload_n hx hb (fh_d d_Mo_sayBehind 85 rfl) rfl (lv_at hl 5 rfl) ?_
            refine fn_iald (f := A 1) (k := n0) hx hb hK hP 0 mkM_a1 rfl (rfl) (by omega) (by decide) (fh_d d_Mo_sayBehind 86 rfl) ?_
            refine lv_bipush (v := 7) hx hb (fh_d d_Mo_sayBehind 87 rfl) (by decide) ?_
            refine lv_icmp_ne (tgt := 173) hx hb (fh_d d_Mo_sayBehind 88 rfl) rfl (fun c32 => ?_) (fun c32 => absurd c32 (kd7))
            refine lv_aload_n hx hb (fh_d d_Mo_sayBehind 106 rfl) rfl (lv_at hl 4 rfl) ?_
            refine fh_get (own := "FormulaSetterModel") (ref := "FormulaSetterModel") (C := "FormulaSetterModel") (T := T_Mo) (N := 53) (v := .ref (x + 2)) hx hb hT i_Mo hown hK hP mkM_o rfl 7 (by decide) (hT _ w867) (fun _ h9 => h9) rfl (fh_d d_Mo_sayBehind 107 rfl) ?_
            refine lv_iload_n hx hb (fh_d d_Mo_sayBehind 108 rfl) rfl (lv_at hl 5 rfl) ?_
            refine fn_iald (f := A 1) (k := n0) hx hb hK hP 0 mkM_a1 rfl (rfl) (by omega) (by decide) (fh_d d_Mo_sayBehind 109 rfl) ?_
            refine lv_bipush (v := 8) hx hb (fh_d d_Mo_sayBehind 110 rfl) (by decide) ?_
            refine lv_icmp_ne (tgt := 237) hx hb (fh_d d_Mo_sayBehind 111 rfl) rfl (fun c33 => absurd c33 (Classical.not_not.mpr (kd8))) (fun c33 => ?_)
            refine lv_aload_n hx hb (fh_d d_Mo_sayBehind 112 rfl) rfl (lv_at hl 4 rfl) ?_
            refine fh_get (own := "FormulaSetterModel") (ref := "FormulaSetterModel") (C := "FormulaSetterModel") (T := T_Mo) (N := 53) (v := .ref (x + 4)) hx hb hT i_Mo hown hK hP mkM_o rfl 9 (by decide) (hT _ w869) (fun _ h9 => h9) rfl (fh_d d_Mo_sayBehind 113 rfl) ?_
            refine lv_iload_n hx hb (fh_d d_Mo_sayBehind 114 rfl) rfl (lv_at hl 5 rfl) ?_
            refine fn_iald (f := A 3) (k := n0) hx hb hK hP 0 mkM_a3 rfl (rfl) (by omega) (by decide) (fh_d d_Mo_sayBehind 115 rfl) ?_
            refine lv_bipush (v := 46) hx hb (fh_d d_Mo_sayBehind 116 rfl) (by decide) ?_
            refine lv_icmp_eq (tgt := 237) hx hb (fh_d d_Mo_sayBehind 117 rfl) rfl (fun c34 => absurd c34 (hd)) (fun c34 => ?_)
            refine lv_aload_n hx hb (fh_d d_Mo_sayBehind 118 rfl) rfl (lv_at hl 4 rfl) ?_
            refine lv_iconst (v := 2) hx hb (fh_d d_Mo_sayBehind 119 rfl) (by decide) ?_
            refine lv_aload_n hx hb (fh_d d_Mo_sayBehind 120 rfl) rfl (lv_at hl 4 rfl) ?_
            refine fh_get (own := "FormulaSetterModel") (ref := "FormulaSetterModel") (C := "FormulaSetterModel") (T := T_Mo) (N := 53) (v := .ref (x + 4)) hx hb hT i_Mo hown hK hP mkM_o rfl 9 (by decide) (hT _ w869) (fun _ h9 => h9) rfl (fh_d d_Mo_sayBehind 121 rfl) ?_
            refine lv_iload_n hx hb (fh_d d_Mo_sayBehind 122 rfl) rfl (lv_at hl 5 rfl) ?_
            refine fn_iald (f := A 3) (k := n0) hx hb hK hP 0 mkM_a3 rfl (rfl) (by omega) (by decide) (fh_d d_Mo_sayBehind 123 rfl) ?_
            refine lv_iload hx hb (fh_d d_Mo_sayBehind 124 rfl) (lv_at hl 1 rfl) ?_
            refine lv_aload_n hx hb (fh_d d_Mo_sayBehind 125 rfl) rfl (lv_at hl 4 rfl) ?_
            refine fh_get (own := "FormulaSetterModel") (ref := "FormulaSetterModel") (C := "FormulaSetterModel") (T := T_Mo) (N := 53) (v := .ref (x + 23)) hx hb hT i_Mo hown hK hP mkM_o rfl 29 (by decide) (hT _ w889) (fun _ h9 => h9) rfl (fh_d d_Mo_sayBehind 126 rfl) ?_
            refine lv_iload_n hx hb (fh_d d_Mo_sayBehind 127 rfl) rfl (lv_at hl 5 rfl) ?_
            refine fn_iald (f := A 22) (k := n0) hx hb hK hP 0 mkM_a22 rfl (rfl) (by omega) (by decide) (fh_d d_Mo_sayBehind 128 rfl) ?_
            refine lv_iadd hx hb (fh_d d_Mo_sayBehind 129 rfl) ?_
            refine lv_iconst (v := 4) hx hb (fh_d d_Mo_sayBehind 130 rfl) (by decide) ?_
            refine lv_iload_n hx hb (fh_d d_Mo_sayBehind 131 rfl) rfl (lv_at hl 3 rfl) ?_
            refine lv_imul hx hb (fh_d d_Mo_sayBehind 132 rfl) ?_
            refine lv_isub hx hb (fh_d d_Mo_sayBehind 133 rfl) ?_
            refine lv_iload hx hb (fh_d d_Mo_sayBehind 134 rfl) (lv_at hl 0 rfl) ?_
            refine lv_aload_n hx hb (fh_d d_Mo_sayBehind 135 rfl) rfl (lv_at hl 4 rfl) ?_
            refine fh_get (own := "FormulaSetterModel") (ref := "FormulaSetterModel") (C := "FormulaSetterModel") (T := T_Mo) (N := 53) (v := .ref (x + 36)) hx hb hT i_Mo hown hK hP mkM_o rfl 42 (by decide) (hT _ w902) (fun _ h9 => h9) rfl (fh_d d_Mo_sayBehind 136 rfl) ?_
            refine lv_iload_n hx hb (fh_d d_Mo_sayBehind 137 rfl) rfl (lv_at hl 5 rfl) ?_
            refine fn_iald (f := A 35) (k := n0) hx hb hK hP 0 mkM_a35 rfl (rfl) (by omega) (by decide) (fh_d d_Mo_sayBehind 138 rfl) ?_
            refine lv_iadd hx hb (fh_d d_Mo_sayBehind 139 rfl) ?_
            refine lv_aload_n hx hb (fh_d d_Mo_sayBehind 140 rfl) rfl (lv_at hl 4 rfl) ?_
            refine fh_get (own := "FormulaSetterModel") (ref := "FormulaSetterModel") (C := "FormulaSetterModel") (T := T_Mo) (N := 53) (v := .ref (x + 35)) hx hb hT i_Mo hown hK hP mkM_o rfl 41 (by decide) (hT _ w901) (fun _ h9 => h9) rfl (fh_d d_Mo_sayBehind 141 rfl) ?_
            refine lv_iload_n hx hb (fh_d d_Mo_sayBehind 142 rfl) rfl (lv_at hl 5 rfl) ?_
            refine fn_iald (f := A 34) (k := n0) hx hb hK hP 0 mkM_a34 rfl (rfl) (by omega) (by decide) (fh_d d_Mo_sayBehind 143 rfl) ?_
            refine lv_iconst (v := 4) hx hb (fh_d d_Mo_sayBehind 144 rfl) (by decide) ?_
            refine lv_iload_n hx hb (fh_d d_Mo_sayBehind 145 rfl) rfl (lv_at hl 3 rfl) ?_
            refine lv_imul hx hb (fh_d d_Mo_sayBehind 146 rfl) ?_
            refine fh_callV (cc' := c_Mo_say) (nL' := 7) (rest := []) (a := x) (As := [.int 2, .int ((A 3) n0), .int (((((A 31) n0) + ((A 28) n0)) + ((A 22) n0)) - (4 * (yS s0))), .int (((A 32) n0) + ((A 35) n0)), .int ((A 34) n0), .int (4 * (yS s0))]) X hR (m_Mo_say l D ct b RO (r - 1) n x g A th co at_ wr no nu op wi he de P (by omega) 2 ((A 3) n0) (((((A 31) n0) + ((A 28) n0)) + ((A 22) n0)) - (4 * (yS s0))) (((A 32) n0) + ((A 35) n0)) ((A 34) n0) (4 * (yS s0))) w1213 w1210 w1212 v61 w9 ⟨by decide, by decide, by show _ = some 6; decide +kernel⟩ (by omega) (by decide) (fh_recv hK hP mkM_o rfl) hP hS hl.1 rfl (by exact Nat.le_of_ble_eq_true rfl) (fh_d d_Mo_sayBehind 147 rfl) ⟨Nat.le_refl _, Nat.le_refl _⟩ (fun v9 h9 n9 H locs hq hP hS => ?_)
            obtain ⟨rfl, u35, u36⟩ := hq
            rw [u35, u36] at hP
            refine W.eq (g2 := F0 m 237 ls []) rfl ?_
            exact fh_vret X hP hS (fh_d d_Mo_sayBehind 148 rfl) ⟨rfl, by unfold rf_sh; rw [if_neg kd4, if_neg kd6, if_neg kd7, if_pos kd8, if_neg hd]; (try rfl), rfl⟩
        · skip
          refine lv_aload_n hx hb (fh_d d_Mo_sayBehind 0 rfl) rfl (lv_at hl 0 rfl) ?_
          refine fh_get (own := "FormulaSetterModel") (ref := "FormulaSetterModel") (C := "FormulaSetterModel") (T := T_Mo) (N := 53) (v := .ref (x + 21)) hx hb hT i_Mo hown hK hP mkM_o rfl 27 (by decide) (hT _ w887) (fun _ h9 => h9) rfl (fh_d d_Mo_sayBehind 1 rfl) ?_
          refine lv_iload_n hx hb (fh_d d_Mo_sayBehind 2 rfl) rfl (lv_at hl 1 rfl) ?_
          refine fn_iald (f := A 20) (k := n0) hx hb hK hP 0 mkM_a20 rfl (rfl) (by omega) (by decide) (fh_d d_Mo_sayBehind 3 rfl) ?_
          rw [show ((A 20) n0) = nI s0 from h20]
          refine fh_callS (cc' := c_Mo_zOf) (nL' := 1) (rest := []) (av := [.int (nI s0)]) X hR (m_Mo_zO l D ct b RO hR (r - 1) (by omega) n s0 hs0 (mkM ct x g A th co at_ wr no nu op (nI P) wi he de)) w1139 w1137 w1138 w9 ⟨by decide, by decide, by show _ = some 1; decide +kernel⟩ (by omega) (by decide) hP hS hl.1 rfl (by exact Nat.le_of_ble_eq_true rfl) (fh_d d_Mo_sayBehind 4 rfl) ⟨Nat.le_refl _, Nat.le_refl _⟩ (fun v9 h9 n9 H locs hq hP hS => ?_)
          obtain ⟨rfl, q37a, q37b⟩ := hq
          rw [q37a, q37b] at hP
          refine W.eq (g2 := F0 m 9 ls [.int (yS s0)]) rfl ?_
          refine lv_istore_n (lv' := [(2, .int (yS s0)), (0, .ref x), (1, .int (nI n0))]) hx hb (fh_d d_Mo_sayBehind 5 rfl) rfl hl (by decide) rfl (fun ls hl => ?_)
          refine lv_aload_n hx hb (fh_d d_Mo_sayBehind 6 rfl) rfl (lv_at hl 1 rfl) ?_
          refine fh_get (own := "FormulaSetterModel") (ref := "FormulaSetterModel") (C := "FormulaSetterModel") (T := T_Mo) (N := 53) (v := .ref (x + 21)) hx hb hT i_Mo hown hK hP mkM_o rfl 27 (by decide) (hT _ w887) (fun _ h9 => h9) rfl (fh_d d_Mo_sayBehind 7 rfl) ?_
          refine lv_iload_n hx hb (fh_d d_Mo_sayBehind 8 rfl) rfl (lv_at hl 2 rfl) ?_
          refine fn_iald (f := A 20) (k := n0) hx hb hK hP 0 mkM_a20 rfl (rfl) (by omega) (by decide) (fh_d d_Mo_sayBehind 9 rfl) ?_
          rw [show ((A 20) n0) = nI s0 from h20]
          refine fh_callS (cc' := c_Mo_tOf) (nL' := 1) (rest := []) (av := [.int (nI s0)]) X hR (m_Mo_tO l D ct b RO hR (r - 1) (by omega) n s0 hs0 (mkM ct x g A th co at_ wr no nu op (nI P) wi he de)) w1174 w1172 w1173 w9 ⟨by decide, by decide, by show _ = some 1; decide +kernel⟩ (by omega) (by decide) hP hS hl.1 rfl (by exact Nat.le_of_ble_eq_true rfl) (fh_d d_Mo_sayBehind 10 rfl) ⟨Nat.le_refl _, Nat.le_refl _⟩ (fun v9 h9 n9 H locs hq hP hS => ?_)
          obtain ⟨rfl, q38a, q38b⟩ := hq
          rw [q38a, q38b] at hP
          refine W.eq (g2 := F0 m 19 ls [.int (yT s0)]) rfl ?_
          refine lv_istore_n (lv' := [(3, .int (yT s0)), (2, .int (yS s0)), (0, .ref x), (1, .int (nI n0))]) hx hb (fh_d d_Mo_sayBehind 11 rfl) rfl hl (by decide) rfl (fun ls hl => ?_)
          refine lv_aload_n hx hb (fh_d d_Mo_sayBehind 12 rfl) rfl (lv_at hl 2 rfl) ?_
          refine fh_get (own := "FormulaSetterModel") (ref := "FormulaSetterModel") (C := "FormulaSetterModel") (T := T_Mo) (N := 53) (v := .ref (x + 32)) hx hb hT i_Mo hown hK hP mkM_o rfl 38 (by decide) (hT _ w898) (fun _ h9 => h9) rfl (fh_d d_Mo_sayBehind 13 rfl) ?_
          refine lv_iload_n hx hb (fh_d d_Mo_sayBehind 14 rfl) rfl (lv_at hl 3 rfl) ?_
          refine fn_iald (f := A 31) (k := n0) hx hb hK hP 0 mkM_a31 rfl (rfl) (by omega) (by decide) (fh_d d_Mo_sayBehind 15 rfl) ?_
          refine lv_aload_n hx hb (fh_d d_Mo_sayBehind 16 rfl) rfl (lv_at hl 2 rfl) ?_
          refine fh_get (own := "FormulaSetterModel") (ref := "FormulaSetterModel") (C := "FormulaSetterModel") (T := T_Mo) (N := 53) (v := .ref (x + 29)) hx hb hT i_Mo hown hK hP mkM_o rfl 35 (by decide) (hT _ w895) (fun _ h9 => h9) rfl (fh_d d_Mo_sayBehind 17 rfl) ?_
          refine lv_iload_n hx hb (fh_d d_Mo_sayBehind 18 rfl) rfl (lv_at hl 3 rfl) ?_
          refine fn_iald (f := A 28) (k := n0) hx hb hK hP 0 mkM_a28 rfl (rfl) (by omega) (by decide) (fh_d d_Mo_sayBehind 19 rfl) ?_
          refine lv_iadd hx hb (fh_d d_Mo_sayBehind 20 rfl) ?_
          refine lv_istore (lv' := [(4, .int (((A 31) n0) + ((A 28) n0))), (3, .int (yT s0)), (2, .int (yS s0)), (0, .ref x), (1, .int (nI n0))]) hx hb (fh_d d_Mo_sayBehind 21 rfl) hl (by decide) rfl (fun ls hl => ?_)
          refine lv_aload_n hx hb (fh_d d_Mo_sayBehind 22 rfl) rfl (lv_at hl 3 rfl) ?_
          refine fh_get (own := "FormulaSetterModel") (ref := "FormulaSetterModel") (C := "FormulaSetterModel") (T := T_Mo) (N := 53) (v := .ref (x + 33)) hx hb hT i_Mo hown hK hP mkM_o rfl 39 (by decide) (hT _ w899) (fun _ h9 => h9) rfl (fh_d d_Mo_sayBehind 23 rfl) ?_
          refine lv_iload_n hx hb (fh_d d_Mo_sayBehind 24 rfl) rfl (lv_at hl 4 rfl) ?_
          refine fn_iald (f := A 32) (k := n0) hx hb hK hP 0 mkM_a32 rfl (rfl) (by omega) (by decide) (fh_d d_Mo_sayBehind 25 rfl) ?_
          refine lv_istore (lv' := [(5, .int ((A 32) n0)), (4, .int (((A 31) n0) + ((A 28) n0))), (3, .int (yT s0)), (2, .int (yS s0)), (0, .ref x), (1, .int (nI n0))]) hx hb (fh_d d_Mo_sayBehind 26 rfl) hl (by decide) rfl (fun ls hl => ?_)
          refine lv_aload_n hx hb (fh_d d_Mo_sayBehind 27 rfl) rfl (lv_at hl 4 rfl) ?_
          refine fh_get (own := "FormulaSetterModel") (ref := "FormulaSetterModel") (C := "FormulaSetterModel") (T := T_Mo) (N := 53) (v := .ref (x + 2)) hx hb hT i_Mo hown hK hP mkM_o rfl 7 (by decide) (hT _ w867) (fun _ h9 => h9) rfl (fh_d d_Mo_sayBehind 28 rfl) ?_
          refine lv_iload_n hx hb (fh_d d_Mo_sayBehind 29 rfl) rfl (lv_at hl 5 rfl) ?_
          refine fn_iald (f := A 1) (k := n0) hx hb hK hP 0 mkM_a1 rfl (rfl) (by omega) (by decide) (fh_d d_Mo_sayBehind 30 rfl) ?_
          refine lv_iconst (v := 4) hx hb (fh_d d_Mo_sayBehind 31 rfl) (by decide) ?_
          refine lv_icmp_ne (tgt := 80) hx hb (fh_d d_Mo_sayBehind 32 rfl) rfl (fun c39 => ?_) (fun c39 => absurd c39 (kd4))
          refine lv_aload_n hx hb (fh_d d_Mo_sayBehind 50 rfl) rfl (lv_at hl 4 rfl) ?_
          refine fh_get (own := "FormulaSetterModel") (ref := "FormulaSetterModel") (C := "FormulaSetterModel") (T := T_Mo) (N := 53) (v := .ref (x + 2)) hx hb hT i_Mo hown hK hP mkM_o rfl 7 (by decide) (hT _ w867) (fun _ h9 => h9) rfl (fh_d d_Mo_sayBehind 51 rfl) ?_
          refine lv_iload_n hx hb (fh_d d_Mo_sayBehind 52 rfl) rfl (lv_at hl 5 rfl) ?_
          refine fn_iald (f := A 1) (k := n0) hx hb hK hP 0 mkM_a1 rfl (rfl) (by omega) (by decide) (fh_d d_Mo_sayBehind 53 rfl) ?_
          refine lv_bipush (v := 6) hx hb (fh_d d_Mo_sayBehind 54 rfl) (by decide) ?_
          refine lv_icmp_ne (tgt := 135) hx hb (fh_d d_Mo_sayBehind 55 rfl) rfl (fun c40 => ?_) (fun c40 => absurd c40 (kd6))
          refine lv_aload_n hx hb (fh_d d_Mo_sayBehind 83 rfl) rfl (lv_at hl 4 rfl) ?_
          refine fh_get (own := "FormulaSetterModel") (ref := "FormulaSetterModel") (C := "FormulaSetterModel") (T := T_Mo) (N := 53) (v := .ref (x + 2)) hx hb hT i_Mo hown hK hP mkM_o rfl 7 (by decide) (hT _ w867) (fun _ h9 => h9) rfl (fh_d d_Mo_sayBehind 84 rfl) ?_
          refine lv_iload_n hx hb (fh_d d_Mo_sayBehind 85 rfl) rfl (lv_at hl 5 rfl) ?_
          refine fn_iald (f := A 1) (k := n0) hx hb hK hP 0 mkM_a1 rfl (rfl) (by omega) (by decide) (fh_d d_Mo_sayBehind 86 rfl) ?_
          refine lv_bipush (v := 7) hx hb (fh_d d_Mo_sayBehind 87 rfl) (by decide) ?_
          refine lv_icmp_ne (tgt := 173) hx hb (fh_d d_Mo_sayBehind 88 rfl) rfl (fun c41 => ?_) (fun c41 => absurd c41 (kd7))
          refine lv_aload_n hx hb (fh_d d_Mo_sayBehind 106 rfl) rfl (lv_at hl 4 rfl) ?_
          refine fh_get (own := "FormulaSetterModel") (ref := "FormulaSetterModel") (C := "FormulaSetterModel") (T := T_Mo) (N := 53) (v := .ref (x + 2)) hx hb hT i_Mo hown hK hP mkM_o rfl 7 (by decide) (hT _ w867) (fun _ h9 => h9) rfl (fh_d d_Mo_sayBehind 107 rfl) ?_
          refine lv_iload_n hx hb (fh_d d_Mo_sayBehind 108 rfl) rfl (lv_at hl 5 rfl) ?_
          refine fn_iald (f := A 1) (k := n0) hx hb hK hP 0 mkM_a1 rfl (rfl) (by omega) (by decide) (fh_d d_Mo_sayBehind 109 rfl) ?_
          refine lv_bipush (v := 8) hx hb (fh_d d_Mo_sayBehind 110 rfl) (by decide) ?_
          refine lv_icmp_ne (tgt := 237) hx hb (fh_d d_Mo_sayBehind 111 rfl) rfl (fun c42 => ?_) (fun c42 => absurd c42 (kd8))
          exact fh_vret X hP hS (fh_d d_Mo_sayBehind 148 rfl) ⟨rfl, by unfold rf_sh; rw [if_neg kd4, if_neg kd6, if_neg kd7, if_neg kd8]; (try rfl), rfl⟩
