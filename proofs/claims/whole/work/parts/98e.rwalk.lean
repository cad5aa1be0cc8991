/-! The reference: walk. Printed by wip/whole/gen/p98e.py -/
def rf_wk (A : Nat → Nat → Int32) (T n0 s0 sp cu f0 nx o1 t2 u lo P : Nat) : (Nat → Nat → Int32) × Nat × Nat := if sp = 0 then (if A 1 n0 = 0 then (if cu = 0 then (if f0 = 0 then ((up2 (up2 A 40 (upd (A 40) T (nI f0))) 39 (upd (A 39) T 2), T + 1, P)) else ((rf_ent (up2 A 40 (upd (A 40) T (nI f0))) (T + 1) (nI f0), T + 1 + 1, P))) else (if nx = 0 then ((up2 (up2 A 40 (upd (A 40) T (nI nx))) 39 (upd (A 39) T 2), T + 1, P)) else ((rf_ent (up2 A 40 (upd (A 40) T (nI nx))) (T + 1) (nI nx), T + 1 + 1, P)))) else (if A 1 n0 = 9 then (if cu = 0 then (if f0 = 0 then ((up2 (up2 A 40 (upd (A 40) T (nI f0))) 39 (upd (A 39) T 2), T + 1, P)) else ((rf_ent (up2 A 40 (upd (A 40) T (nI f0))) (T + 1) (nI f0), T + 1 + 1, P))) else (if nx = 0 then ((up2 (up2 A 40 (upd (A 40) T (nI nx))) 39 (upd (A 39) T 2), T + 1, P)) else ((rf_ent (up2 A 40 (upd (A 40) T (nI nx))) (T + 1) (nI nx), T + 1 + 1, P)))) else (if o1 = 0 then (((rf_sb (up2 A 39 (upd (A 39) T (0 + 1))) n0 s0 P).1, T + 1, (rf_sb (up2 A 39 (upd (A 39) T (0 + 1))) n0 s0 P).2)) else ((rf_ent ((rf_sb (up2 A 39 (upd (A 39) T (0 + 1))) n0 s0 P).1) (T + 1) (nI o1), T + 1 + 1, (rf_sb (up2 A 39 (upd (A 39) T (0 + 1))) n0 s0 P).2))))) else (if sp = 1 then (if t2 = 0 then (((rf_sh (up2 A 39 (upd (A 39) T (1 + 1))) n0 s0 P).1, T + 1, (rf_sh (up2 A 39 (upd (A 39) T (1 + 1))) n0 s0 P).2)) else ((rf_ent ((rf_sh (up2 A 39 (upd (A 39) T (1 + 1))) n0 s0 P).1) (T + 1) (nI t2), T + 1 + 1, (rf_sh (up2 A 39 (upd (A 39) T (1 + 1))) n0 s0 P).2))) else (if sp = 2 then (if u = 0 then ((up2 A 39 (upd (A 39) T (2 + 1)), T + 1, P)) else ((rf_ent (up2 A 39 (upd (A 39) T (2 + 1))) (T + 1) (nI u), T + 1 + 1, P))) else (if sp = 3 then (if lo = 0 then ((up2 A 39 (upd (A 39) T (3 + 1)), T + 1, P)) else ((rf_ent (up2 A 39 (upd (A 39) T (3 + 1))) (T + 1) (nI lo), T + 1 + 1, P))) else ((up2 A 39 (upd (A 39) T (4 + 1)), T, P)))))
set_option maxHeartbeats 4000000 in
set_option maxRecDepth 100000 in
theorem m_Mo_walk (l : Launch) (D : va_G) (ct : Nat → ClassId) (b : Nat) (RO : State → Prop) (hR : fh_R b RO) (r : Nat) (hr : 3 ≤ r) (n x : Nat) (g : fh_H) (A : Nat → Nat → Int32) (th co at_ wr no nu wi he de : Int32) (T n0 s0 sp cu f0 nx o1 t2 u lo P : Nat) (hT9 : T < 39) (h17 : A 17 T = nI n0) (h39 : A 39 T = nI sp) (h40 : A 40 T = nI cu) (hsp : sp ≤ 4) (hcu : cu < 400) (hn0 : n0 < 400) (hs0 : s0 < 4) (h20 : A 20 n0 = nI s0) (hf0 : f0 < 400 ∧ A 6 n0 = nI f0) (hnx : nx < 400 ∧ A 7 cu = nI nx) (ho1 : o1 < 400 ∧ A 10 n0 = nI o1) (ht2 : t2 < 400 ∧ A 11 n0 = nI t2) (hu : u < 400 ∧ A 12 n0 = nI u) (hlo : lo < 400 ∧ A 13 n0 = nI lo) (hP9 : P < 240) : fh_C l D fh_cl (fh_tys ct) b RO y_Mo_walk (Cond.code y_Mo_walk c_Mo_walk 5 (Option.none : Option FieldType) :: fh_T) (fh_rm r 0 0) [.ref x] (mkM ct x g A th co at_ wr no nu (nI (T + 1)) (nI P) wi he de) n (fun v h' n' => v = none ∧ h' = mkM ct x g ((rf_wk A T n0 s0 sp cu f0 nx o1 t2 u lo P).1) th co at_ wr no nu (nI (rf_wk A T n0 s0 sp cu f0 nx o1 t2 u lo P).2.1) (nI (rf_wk A T n0 s0 sp cu f0 nx o1 t2 u lo P).2.2) wi he de ∧ n' = n) 0 0 := by
  refine fh_enter (by decide) (Nat.le_of_ble_eq_true rfl) [(0, .ref x)] rfl ?_
  intro p e s m args below meth c H ls X hP hS hl
  have hx := X.1
  have hb := X.2.1
  have hml := X.2.2.1
  have hown : s.vm.findClass "FormulaSetterModel" = some m.cls := X.2.2.2.1
  have hT := X.2.2.2.2.1
  have hK := X.2.2.2.2.2.1
  have hRO := X.2.2.2.2.2.2.1
  have hnm : meth.name = "walk" := X.2.2.2.2.2.2.2.2.2.2
  by_cases hsp0 : sp = 0
  · skip
    by_cases kd0 : A 1 n0 = 0
    · skip
      by_cases hc0 : cu = 0
      · skip
        by_cases h0_f0 : f0 = 0
        · skip
          refine lv_aload_n hx hb (fh_d d_Mo_walk 0 rfl) rfl (lv_at hl 0 rfl) ?_
          refine fh_get (own := "FormulaSetterModel") (ref := "FormulaSetterModel") (C := "FormulaSetterModel") (T := T_Mo) (N := 53) (v := .int (nI (T + 1))) hx hb hT i_Mo hown hK hP mkM_o rfl 22 (by decide) (hT _ w882) (fun _ h9 => h9) rfl (fh_d d_Mo_walk 1 rfl) ?_
          refine lv_iconst (v := 1) hx hb (fh_d d_Mo_walk 2 rfl) (by decide) ?_
          refine lv_isub hx hb (fh_d d_Mo_walk 3 rfl) ?_
          refine lv_istore_n (lv' := [(1, .int ((nI (T + 1)) - 1)), (0, .ref x)]) hx hb (fh_d d_Mo_walk 4 rfl) rfl hl (by decide) rfl (fun ls hl => ?_)
          refine lv_aload_n hx hb (fh_d d_Mo_walk 5 rfl) rfl (lv_at hl 1 rfl) ?_
          refine fh_get (own := "FormulaSetterModel") (ref := "FormulaSetterModel") (C := "FormulaSetterModel") (T := T_Mo) (N := 53) (v := .ref (x + 18)) hx hb hT i_Mo hown hK hP mkM_o rfl 24 (by decide) (hT _ w884) (fun _ h9 => h9) rfl (fh_d d_Mo_walk 6 rfl) ?_
          refine lv_iload_n hx hb (fh_d d_Mo_walk 7 rfl) rfl (lv_at hl 0 rfl) ?_
          refine fn_iald (f := A 17) (k := T) hx hb hK hP 0 mkM_a17 rfl (nI_pred T) (by omega) (by decide) (fh_d d_Mo_walk 8 rfl) ?_
          rw [show ((A 17) T) = nI n0 from h17]
          refine lv_istore_n (lv' := [(2, .int (nI n0)), (1, .int ((nI (T + 1)) - 1)), (0, .ref x)]) hx hb (fh_d d_Mo_walk 9 rfl) rfl hl (by decide) rfl (fun ls hl => ?_)
          refine lv_aload_n hx hb (fh_d d_Mo_walk 10 rfl) rfl (lv_at hl 2 rfl) ?_
          refine fh_get (own := "FormulaSetterModel") (ref := "FormulaSetterModel") (C := "FormulaSetterModel") (T := T_Mo) (N := 53) (v := .ref (x + 40)) hx hb hT i_Mo hown hK hP mkM_o rfl 46 (by decide) (hT _ w906) (fun _ h9 => h9) rfl (fh_d d_Mo_walk 11 rfl) ?_
          refine lv_iload_n hx hb (fh_d d_Mo_walk 12 rfl) rfl (lv_at hl 1 rfl) ?_
          refine fn_iald (f := A 39) (k := T) hx hb hK hP 0 mkM_a39 rfl (nI_pred T) (by omega) (by decide) (fh_d d_Mo_walk 13 rfl) ?_
          rw [show ((A 39) T) = 0 from h39.trans (by rw [hsp0]; rfl)]
          refine lv_istore_n (lv' := [(3, .int 0), (2, .int (nI n0)), (1, .int ((nI (T + 1)) - 1)), (0, .ref x)]) hx hb (fh_d d_Mo_walk 14 rfl) rfl hl (by decide) rfl (fun ls hl => ?_)
          refine lv_iload_n hx hb (fh_d d_Mo_walk 15 rfl) rfl (lv_at hl 0 rfl) ?_
          refine lv_if_ne (tgt := 108) hx hb (fh_d d_Mo_walk 16 rfl) rfl (fun c1 => absurd c1 (Classical.not_not.mpr (by decide))) (fun c1 => ?_)
          refine lv_aload_n hx hb (fh_d d_Mo_walk 17 rfl) rfl (lv_at hl 3 rfl) ?_
          refine fh_get (own := "FormulaSetterModel") (ref := "FormulaSetterModel") (C := "FormulaSetterModel") (T := T_Mo) (N := 53) (v := .ref (x + 2)) hx hb hT i_Mo hown hK hP mkM_o rfl 7 (by decide) (hT _ w867) (fun _ h9 => h9) rfl (fh_d d_Mo_walk 18 rfl) ?_
          refine lv_iload_n hx hb (fh_d d_Mo_walk 19 rfl) rfl (lv_at hl 1 rfl) ?_
          refine fn_iald (f := A 1) (k := n0) hx hb hK hP 0 mkM_a1 rfl (rfl) (by omega) (by decide) (fh_d d_Mo_walk 20 rfl) ?_
          refine lv_if_eq (tgt := 45) hx hb (fh_d d_Mo_walk 21 rfl) rfl (fun c2 => ?_) (fun c2 => absurd c2 (Classical.not_not.mpr (kd0)))
          refine lv_aload_n hx hb (fh_d d_Mo_walk 28 rfl) rfl (lv_at hl 3 rfl) ?_
          refine fh_get (own := "FormulaSetterModel") (ref := "FormulaSetterModel") (C := "FormulaSetterModel") (T := T_Mo) (N := 53) (v := .ref (x + 41)) hx hb hT i_Mo hown hK hP mkM_o rfl 47 (by decide) (hT _ w907) (fun _ h9 => h9) rfl (fh_d d_Mo_walk 29 rfl) ?_
          refine lv_iload_n hx hb (fh_d d_Mo_walk 30 rfl) rfl (lv_at hl 2 rfl) ?_
          refine lv_aload_n hx hb (fh_d d_Mo_walk 31 rfl) rfl (lv_at hl 3 rfl) ?_
          refine fh_get (own := "FormulaSetterModel") (ref := "FormulaSetterModel") (C := "FormulaSetterModel") (T := T_Mo) (N := 53) (v := .ref (x + 41)) hx hb hT i_Mo hown hK hP mkM_o rfl 47 (by decide) (hT _ w907) (fun _ h9 => h9) rfl (fh_d d_Mo_walk 32 rfl) ?_
          refine lv_iload_n hx hb (fh_d d_Mo_walk 33 rfl) rfl (lv_at hl 2 rfl) ?_
          refine fn_iald (f := A 40) (k := T) hx hb hK hP 0 mkM_a40 rfl (nI_pred T) (by omega) (by decide) (fh_d d_Mo_walk 34 rfl) ?_
          rw [show ((A 40) T) = nI cu from h40]
          refine lv_if_ne (tgt := 68) hx hb (fh_d d_Mo_walk 35 rfl) rfl (fun c3 => absurd c3 (Classical.not_not.mpr (by rw [hc0]; rfl))) (fun c3 => ?_)
          refine lv_aload_n hx hb (fh_d d_Mo_walk 36 rfl) rfl (lv_at hl 3 rfl) ?_
          refine fh_get (own := "FormulaSetterModel") (ref := "FormulaSetterModel") (C := "FormulaSetterModel") (T := T_Mo) (N := 53) (v := .ref (x + 7)) hx hb hT i_Mo hown hK hP mkM_o rfl 12 (by decide) (hT _ w872) (fun _ h9 => h9) rfl (fh_d d_Mo_walk 37 rfl) ?_
          refine lv_iload_n hx hb (fh_d d_Mo_walk 38 rfl) rfl (lv_at hl 1 rfl) ?_
          refine fn_iald (f := A 6) (k := n0) hx hb hK hP 0 mkM_a6 rfl (rfl) (by omega) (by decide) (fh_d d_Mo_walk 39 rfl) ?_
          rw [show ((A 6) n0) = nI f0 from hf0.2]
          refine lv_goto (tgt := 79) hx hb (fh_d d_Mo_walk 40 rfl) rfl ?_
          refine fn_iast (f := A 40) (k := T) hx hb hK hP hS 0 mkM_a40 rfl (nI_pred T) (by omega) (by decide) (fh_d d_Mo_walk 48 rfl) (fun H locs hP hS => ?_)
          replace hP := fh_P.eq (h' := mkM ct x g (up2 A 40 (upd (A 40) T (nI f0))) th co at_ wr no nu (nI (T + 1)) (nI P) wi he de) hP mkM_u40
          refine lv_aload_n hx hb (fh_d d_Mo_walk 49 rfl) rfl (lv_at hl 3 rfl) ?_
          refine fh_get (own := "FormulaSetterModel") (ref := "FormulaSetterModel") (C := "FormulaSetterModel") (T := T_Mo) (N := 53) (v := .ref (x + 41)) hx hb hT i_Mo hown hK hP mkM_o rfl 47 (by decide) (hT _ w907) (fun _ h9 => h9) rfl (fh_d d_Mo_walk 50 rfl) ?_
          refine lv_iload_n hx hb (fh_d d_Mo_walk 51 rfl) rfl (lv_at hl 2 rfl) ?_
          refine fn_iald (f := upd (A 40) T (nI f0)) (k := T) hx hb hK hP 0 mkM_a40 rfl (nI_pred T) (by omega) (by decide) (fh_d d_Mo_walk 52 rfl) ?_
          rw [show ((upd (A 40) T (nI f0)) T) = (nI f0) from upd_s]
          refine lv_if_le (tgt := 100) hx hb (fh_d d_Mo_walk 53 rfl) rfl (fun c4 => ?_) (fun c4 => absurd c4 (fun z => z (by rw [h0_f0]; decide)))
          refine lv_aload_n hx hb (fh_d d_Mo_walk 61 rfl) rfl (lv_at hl 3 rfl) ?_
          refine fh_get (own := "FormulaSetterModel") (ref := "FormulaSetterModel") (C := "FormulaSetterModel") (T := T_Mo) (N := 53) (v := .ref (x + 40)) hx hb hT i_Mo hown hK hP mkM_o rfl 46 (by decide) (hT _ w906) (fun _ h9 => h9) rfl (fh_d d_Mo_walk 62 rfl) ?_
          refine lv_iload_n hx hb (fh_d d_Mo_walk 63 rfl) rfl (lv_at hl 2 rfl) ?_
          refine lv_iconst (v := 2) hx hb (fh_d d_Mo_walk 64 rfl) (by decide) ?_
          refine fn_iast (f := A 39) (k := T) hx hb hK hP hS 0 mkM_a39 rfl (nI_pred T) (by omega) (by decide) (fh_d d_Mo_walk 65 rfl) (fun H locs hP hS => ?_)
          replace hP := fh_P.eq (h' := mkM ct x g (up2 (up2 A 40 (upd (A 40) T (nI f0))) 39 (upd (A 39) T 2)) th co at_ wr no nu (nI (T + 1)) (nI P) wi he de) hP mkM_u39
          exact fh_vret X hP hS (fh_d d_Mo_walk 66 rfl) ⟨rfl, by unfold rf_wk; rw [if_pos hsp0, if_pos kd0, if_pos hc0, if_pos h0_f0], rfl⟩
        · skip
          refine lv_aload_n hx hb (fh_d d_Mo_walk 0 rfl) rfl (lv_at hl 0 rfl) ?_
          refine fh_get (own := "FormulaSetterModel") (ref := "FormulaSetterModel") (C := "FormulaSetterModel") (T := T_Mo) (N := 53) (v := .int (nI (T + 1))) hx hb hT i_Mo hown hK hP mkM_o rfl 22 (by decide) (hT _ w882) (fun _ h9 => h9) rfl (fh_d d_Mo_walk 1 rfl) ?_
          refine lv_iconst (v := 1) hx hb (fh_d d_Mo_walk 2 rfl) (by decide) ?_
          refine lv_isub hx hb (fh_d d_Mo_walk 3 rfl) ?_
          refine lv_istore_n (lv' := [(1, .int ((nI (T + 1)) - 1)), (0, .ref x)]) hx hb (fh_d d_Mo_walk 4 rfl) rfl hl (by decide) rfl (fun ls hl => ?_)
          refine lv_aload_n hx hb (fh_d d_Mo_walk 5 rfl) rfl (lv_at hl 1 rfl) ?_
          refine fh_get (own := "FormulaSetterModel") (ref := "FormulaSetterModel") (C := "FormulaSetterModel") (T := T_Mo) (N := 53) (v := .ref (x + 18)) hx hb hT i_Mo hown hK hP mkM_o rfl 24 (by decide) (hT _ w884) (fun _ h9 => h9) rfl (fh_d d_Mo_walk 6 rfl) ?_
          refine lv_iload_n hx hb (fh_d d_Mo_walk 7 rfl) rfl (lv_at hl 0 rfl) ?_
          refine fn_iald (f := A 17) (k := T) hx hb hK hP 0 mkM_a17 rfl (nI_pred T) (by omega) (by decide) (fh_d d_Mo_walk 8 rfl) ?_
          rw [show ((A 17) T) = nI n0 from h17]
          refine lv_istore_n (lv' := [(2, .int (nI n0)), (1, .int ((nI (T + 1)) - 1)), (0, .ref x)]) hx hb (fh_d d_Mo_walk 9 rfl) rfl hl (by decide) rfl (fun ls hl => ?_)
          refine lv_aload_n hx hb (fh_d d_Mo_walk 10 rfl) rfl (lv_at hl 2 rfl) ?_
          refine fh_get (own := "FormulaSetterModel") (ref := "FormulaSetterModel") (C := "FormulaSetterModel") (T := T_Mo) (N := 53) (v := .ref (x + 40)) hx hb hT i_Mo hown hK hP mkM_o rfl 46 (by decide) (hT _ w906) (fun _ h9 => h9) rfl (fh_d d_Mo_walk 11 rfl) ?_
          refine lv_iload_n hx hb (fh_d d_Mo_walk 12 rfl) rfl (lv_at hl 1 rfl) ?_
          refine fn_iald (f := A 39) (k := T) hx hb hK hP 0 mkM_a39 rfl (nI_pred T) (by omega) (by decide) (fh_d d_Mo_walk 13 rfl) ?_
          rw [show ((A 39) T) = 0 from h39.trans (by rw [hsp0]; rfl)]
          refine lv_istore_n (lv' := [(3, .int 0), (2, .int (nI n0)), (1, .int ((nI (T + 1)) - 1)), (0, .ref x)]) hx hb (fh_d d_Mo_walk 14 rfl) rfl hl (by decide) rfl (fun ls hl => ?_)
          refine lv_iload_n hx hb (fh_d d_Mo_walk 15 rfl) rfl (lv_at hl 0 rfl) ?_
          refine lv_if_ne (tgt := 108) hx hb (fh_d d_Mo_walk 16 rfl) rfl (fun c5 => absurd c5 (Classical.not_not.mpr (by decide))) (fun c5 => ?_)
          refine lv_aload_n hx hb (fh_d d_Mo_walk 17 rfl) rfl (lv_at hl 3 rfl) ?_
          refine fh_get (own := "FormulaSetterModel") (ref := "FormulaSetterModel") (C := "FormulaSetterModel") (T := T_Mo) (N := 53) (v := .ref (x + 2)) hx hb hT i_Mo hown hK hP mkM_o rfl 7 (by decide) (hT _ w867) (fun _ h9 => h9) rfl (fh_d d_Mo_walk 18 rfl) ?_
          refine lv_iload_n hx hb (fh_d d_Mo_walk 19 rfl) rfl (lv_at hl 1 rfl) ?_
          refine fn_iald (f := A 1) (k := n0) hx hb hK hP 0 mkM_a1 rfl (rfl) (by omega) (by decide) (fh_d d_Mo_walk 20 rfl) ?_
          refine lv_if_eq (tgt := 45) hx hb (fh_d d_Mo_walk 21 rfl) rfl (fun c6 => ?_) (fun c6 => absurd c6 (Classical.not_not.mpr (kd0)))
          refine lv_aload_n hx hb (fh_d d_Mo_walk 28 rfl) rfl (lv_at hl 3 rfl) ?_
          refine fh_get (own := "FormulaSetterModel") (ref := "FormulaSetterModel") (C := "FormulaSetterModel") (T := T_Mo) (N := 53) (v := .ref (x + 41)) hx hb hT i_Mo hown hK hP mkM_o rfl 47 (by decide) (hT _ w907) (fun _ h9 => h9) rfl (fh_d d_Mo_walk 29 rfl) ?_
          refine lv_iload_n hx hb (fh_d d_Mo_walk 30 rfl) rfl (lv_at hl 2 rfl) ?_
          refine lv_aload_n hx hb (fh_d d_Mo_walk 31 rfl) rfl (lv_at hl 3 rfl) ?_
          refine fh_get (own := "FormulaSetterModel") (ref := "FormulaSetterModel") (C := "FormulaSetterModel") (T := T_Mo) (N := 53) (v := .ref (x + 41)) hx hb hT i_Mo hown hK hP mkM_o rfl 47 (by decide) (hT _ w907) (fun _ h9 => h9) rfl (fh_d d_Mo_walk 32 rfl) ?_
          refine lv_iload_n hx hb (fh_d d_Mo_walk 33 rfl) rfl (lv_at hl 2 rfl) ?_
          refine fn_iald (f := A 40) (k := T) hx hb hK hP 0 mkM_a40 rfl (nI_pred T) (by omega) (by decide) (fh_d d_Mo_walk 34 rfl) ?_
          rw [show ((A 40) T) = nI cu from h40]
          refine lv_if_ne (tgt := 68) hx hb (fh_d d_Mo_walk 35 rfl) rfl (fun c7 => absurd c7 (Classical.not_not.mpr (by rw [hc0]; rfl))) (fun c7 => ?_)
          refine lv_aload_n hx hb (fh_d d_Mo_walk 36 rfl) rfl (lv_at hl 3 rfl) ?_
          refine fh_get (own := "FormulaSetterModel") (ref := "FormulaSetterModel") (C := "FormulaSetterModel") (T := T_Mo) (N := 53) (v := .ref (x + 7)) hx hb hT i_Mo hown hK hP mkM_o rfl 12 (by decide) (hT _ w872) (fun _ h9 => h9) rfl (fh_d d_Mo_walk 37 rfl) ?_
          refine lv_iload_n hx hb (fh_d d_Mo_walk 38 rfl) rfl (lv_at hl 1 rfl) ?_
          refine fn_iald (f := A 6) (k := n0) hx hb hK hP 0 mkM_a6 rfl (rfl) (by omega) (by decide) (fh_d d_Mo_walk 39 rfl) ?_
          rw [show ((A 6) n0) = nI f0 from hf0.2]
          refine lv_goto (tgt := 79) hx hb (fh_d d_Mo_walk 40 rfl) rfl ?_
          refine fn_iast (f := A 40) (k := T) hx hb hK hP hS 0 mkM_a40 rfl (nI_pred T) (by omega) (by decide) (fh_d d_Mo_walk 48 rfl) (fun H locs hP hS => ?_)
          replace hP := fh_P.eq (h' := mkM ct x g (up2 A 40 (upd (A 40) T (nI f0))) th co at_ wr no nu (nI (T + 1)) (nI P) wi he de) hP mkM_u40
          refine lv_aload_n hx hb (fh_d d_Mo_walk 49 rfl) rfl (lv_at hl 3 rfl) ?_
          refine fh_get (own := "FormulaSetterModel") (ref := "FormulaSetterModel") (C := "FormulaSetterModel") (T := T_Mo) (N := 53) (v := .ref (x + 41)) hx hb hT i_Mo hown hK hP mkM_o rfl 47 (by decide) (hT _ w907) (fun _ h9 => h9) rfl (fh_d d_Mo_walk 50 rfl) ?_
          refine lv_iload_n hx hb (fh_d d_Mo_walk 51 rfl) rfl (lv_at hl 2 rfl) ?_
          refine fn_iald (f := upd (A 40) T (nI f0)) (k := T) hx hb hK hP 0 mkM_a40 rfl (nI_pred T) (by omega) (by decide) (fh_d d_Mo_walk 52 rfl) ?_
          rw [show ((upd (A 40) T (nI f0)) T) = (nI f0) from upd_s]
          refine lv_if_le (tgt := 100) hx hb (fh_d d_Mo_walk 53 rfl) rfl (fun c8 => absurd c8 (nI_np ⟨Nat.pos_of_ne_zero h0_f0, hf0.1⟩)) (fun c8 => ?_)
          refine lv_aload_n hx hb (fh_d d_Mo_walk 54 rfl) rfl (lv_at hl 3 rfl) ?_
          refine lv_aload_n hx hb (fh_d d_Mo_walk 55 rfl) rfl (lv_at hl 3 rfl) ?_
          refine fh_get (own := "FormulaSetterModel") (ref := "FormulaSetterModel") (C := "FormulaSetterModel") (T := T_Mo) (N := 53) (v := .ref (x + 41)) hx hb hT i_Mo hown hK hP mkM_o rfl 47 (by decide) (hT _ w907) (fun _ h9 => h9) rfl (fh_d d_Mo_walk 56 rfl) ?_
          refine lv_iload_n hx hb (fh_d d_Mo_walk 57 rfl) rfl (lv_at hl 2 rfl) ?_
          refine fn_iald (f := upd (A 40) T (nI f0)) (k := T) hx hb hK hP 0 mkM_a40 rfl (nI_pred T) (by omega) (by decide) (fh_d d_Mo_walk 58 rfl) ?_
          rw [show ((upd (A 40) T (nI f0)) T) = (nI f0) from upd_s]
          refine fh_callV (cc' := c_Mo_enter) (nL' := 2) (rest := []) (a := x) (As := [.int (nI f0)]) X hR (m_Mo_enter l D ct b RO (r - 1) n x g (up2 A 40 (upd (A 40) T (nI f0))) th co at_ wr no nu (nI P) wi he de (nI f0) (T + 1) (by omega)) w1201 w1198 w1200 v58 w9 ⟨by decide, by decide, by show _ = some 1; decide +kernel⟩ (by omega) (by decide) (fh_recv hK hP mkM_o rfl) hP hS hl.1 rfl (by exact Nat.le_of_ble_eq_true rfl) (fh_d d_Mo_walk 59 rfl) ⟨Nat.le_refl _, Nat.le_refl _⟩ (fun v9 h9 n9 H locs hq hP hS => ?_)
          obtain ⟨rfl, u9, u10⟩ := hq
          rw [u9, u10] at hP
          refine W.eq (g2 := F0 m 99 ls []) rfl ?_
          exact fh_vret X hP hS (fh_d d_Mo_walk 60 rfl) ⟨rfl, by unfold rf_wk; rw [if_pos hsp0, if_pos kd0, if_pos hc0, if_neg h0_f0], rfl⟩
      · skip
        by_cases h0_nx : nx = 0
        · skip
          refine lv_aload_n hx hb (fh_d d_Mo_walk 0 rfl) rfl (lv_at hl 0 rfl) ?_
          refine fh_get (own := "FormulaSetterModel") (ref := "FormulaSetterModel") (C := "FormulaSetterModel") (T := T_Mo) (N := 53) (v := .int (nI (T + 1))) hx hb hT i_Mo hown hK hP mkM_o rfl 22 (by decide) (hT _ w882) (fun _ h9 => h9) rfl (fh_d d_Mo_walk 1 rfl) ?_
          refine lv_iconst (v := 1) hx hb (fh_d d_Mo_walk 2 rfl) (by decide) ?_
          refine lv_isub hx hb (fh_d d_Mo_walk 3 rfl) ?_
          refine lv_istore_n (lv' := [(1, .int ((nI (T + 1)) - 1)), (0, .ref x)]) hx hb (fh_d d_Mo_walk 4 rfl) rfl hl (by decide) rfl (fun ls hl => ?_)
          refine lv_aload_n hx hb (fh_d d_Mo_walk 5 rfl) rfl (lv_at hl 1 rfl) ?_
          refine fh_get (own := "FormulaSetterModel") (ref := "FormulaSetterModel") (C := "FormulaSetterModel") (T := T_Mo) (N := 53) (v := .ref (x + 18)) hx hb hT i_Mo hown hK hP mkM_o rfl 24 (by decide) (hT _ w884) (fun _ h9 => h9) rfl (fh_d d_Mo_walk 6 rfl) ?_
          refine lv_iload_n hx hb (fh_d d_Mo_walk 7 rfl) rfl (lv_at hl 0 rfl) ?_
          refine fn_iald (f := A 17) (k := T) hx hb hK hP 0 mkM_a17 rfl (nI_pred T) (by omega) (by decide) (fh_d d_Mo_walk 8 rfl) ?_
          rw [show ((A 17) T) = nI n0 from h17]
          refine lv_istore_n (lv' := [(2, .int (nI n0)), (1, .int ((nI (T + 1)) - 1)), (0, .ref x)]) hx hb (fh_d d_Mo_walk 9 rfl) rfl hl (by decide) rfl (fun ls hl => ?_)
          refine lv_aload_n hx hb (fh_d d_Mo_walk 10 rfl) rfl (lv_at hl 2 rfl) ?_
          refine fh_get (own := "FormulaSetterModel") (ref := "FormulaSetterModel") (C := "FormulaSetterModel") (T := T_Mo) (N := 53) (v := .ref (x + 40)) hx hb hT i_Mo hown hK hP mkM_o rfl 46 (by decide) (hT _ w906) (fun _ h9 => h9) rfl (fh_d d_Mo_walk 11 rfl) ?_
          refine lv_iload_n hx hb (fh_d d_Mo_walk 12 rfl) rfl (lv_at hl 1 rfl) ?_
          refine fn_iald (f := A 39) (k := T) hx hb hK hP 0 mkM_a39 rfl (nI_pred T) (by omega) (by decide) (fh_d d_Mo_walk 13 rfl) ?_
          rw [show ((A 39) T) = 0 from h39.trans (by rw [hsp0]; rfl)]
          refine lv_istore_n (lv' := [(3, .int 0), (2, .int (nI n0)), (1, .int ((nI (T + 1)) - 1)), (0, .ref x)]) hx hb (fh_d d_Mo_walk 14 rfl) rfl hl (by decide) rfl (fun ls hl => ?_)
          refine lv_iload_n hx hb (fh_d d_Mo_walk 15 rfl) rfl (lv_at hl 0 rfl) ?_
          refine lv_if_ne (tgt := 108) hx hb (fh_d d_Mo_walk 16 rfl) rfl (fun c11 => absurd c11 (Classical.not_not.mpr (by decide))) (fun c11 => ?_)
          refine lv_aload_n hx hb (fh_d d_Mo_walk 17 rfl) rfl (lv_at hl 3 rfl) ?_
          refine fh_get (own := "FormulaSetterModel") (ref := "FormulaSetterModel") (C := "FormulaSetterModel") (T := T_Mo) (N := 53) (v := .ref (x + 2)) hx hb hT i_Mo hown hK hP mkM_o rfl 7 (by decide) (hT _ w867) (fun _ h9 => h9) rfl (fh_d d_Mo_walk 18 rfl) ?_
          refine lv_iload_n hx hb (fh_d d_Mo_walk 19 rfl) rfl (lv_at hl 1 rfl) ?_
          refine fn_iald (f := A 1) (k := n0) hx hb hK hP 0 mkM_a1 rfl (rfl) (by omega) (by decide) (fh_d d_Mo_walk 20 rfl) ?_
          refine lv_if_eq (tgt := 45) hx hb (fh_d d_Mo_walk 21 rfl) rfl (fun c12 => ?_) (fun c12 => absurd c12 (Classical.not_not.mpr (kd0)))
          refine lv_aload_n hx hb (fh_d d_Mo_walk 28 rfl) rfl (lv_at hl 3 rfl) ?_
          refine fh_get (own := "FormulaSetterModel") (ref := "FormulaSetterModel") (C := "FormulaSetterModel") (T := T_Mo) (N := 53) (v := .ref (x + 41)) hx hb hT i_Mo hown hK hP mkM_o rfl 47 (by decide) (hT _ w907) (fun _ h9 => h9) rfl (fh_d d_Mo_walk 29 rfl) ?_
          refine lv_iload_n hx hb (fh_d d_Mo_walk 30 rfl) rfl (lv_at hl 2 rfl) ?_
          refine lv_aload_n hx hb (fh_d d_Mo_walk 31 rfl) rfl (lv_at hl 3 rfl) ?_
          refine fh_get (own := "FormulaSetterModel") (ref := "FormulaSetterModel") (C := "FormulaSetterModel") (T := T_Mo) (N := 53) (v := .ref (x + 41)) hx hb hT i_Mo hown hK hP mkM_o rfl 47 (by decide) (hT _ w907) (fun _ h9 => h9) rfl (fh_d d_Mo_walk 32 rfl) ?_
          refine lv_iload_n hx hb (fh_d d_Mo_walk 33 rfl) rfl (lv_at hl 2 rfl) ?_
          refine fn_iald (f := A 40) (k := T) hx hb hK hP 0 mkM_a40 rfl (nI_pred T) (by omega) (by decide) (fh_d d_Mo_walk 34 rfl) ?_
          rw [show ((A 40) T) = nI cu from h40]
          refine lv_if_ne (tgt := 68) hx hb (fh_d d_Mo_walk 35 rfl) rfl (fun c13 => ?_) (fun c13 => absurd c13 (fun y => hc0 (nI_z4 hcu y)))
          refine lv_aload_n hx hb (fh_d d_Mo_walk 41 rfl) rfl (lv_at hl 3 rfl) ?_
          refine fh_get (own := "FormulaSetterModel") (ref := "FormulaSetterModel") (C := "FormulaSetterModel") (T := T_Mo) (N := 53) (v := .ref (x + 8)) hx hb hT i_Mo hown hK hP mkM_o rfl 13 (by decide) (hT _ w873) (fun _ h9 => h9) rfl (fh_d d_Mo_walk 42 rfl) ?_
          refine lv_aload_n hx hb (fh_d d_Mo_walk 43 rfl) rfl (lv_at hl 3 rfl) ?_
          refine fh_get (own := "FormulaSetterModel") (ref := "FormulaSetterModel") (C := "FormulaSetterModel") (T := T_Mo) (N := 53) (v := .ref (x + 41)) hx hb hT i_Mo hown hK hP mkM_o rfl 47 (by decide) (hT _ w907) (fun _ h9 => h9) rfl (fh_d d_Mo_walk 44 rfl) ?_
          refine lv_iload_n hx hb (fh_d d_Mo_walk 45 rfl) rfl (lv_at hl 2 rfl) ?_
          refine fn_iald (f := A 40) (k := T) hx hb hK hP 0 mkM_a40 rfl (nI_pred T) (by omega) (by decide) (fh_d d_Mo_walk 46 rfl) ?_
          rw [show ((A 40) T) = nI cu from h40]
          refine fn_iald (f := A 7) (k := cu) hx hb hK hP 0 mkM_a7 rfl (rfl) (by omega) (by decide) (fh_d d_Mo_walk 47 rfl) ?_
          rw [show ((A 7) cu) = nI nx from hnx.2]
          refine fn_iast (f := A 40) (k := T) hx hb hK hP hS 0 mkM_a40 rfl (nI_pred T) (by omega) (by decide) (fh_d d_Mo_walk 48 rfl) (fun H locs hP hS => ?_)
          replace hP := fh_P.eq (h' := mkM ct x g (up2 A 40 (upd (A 40) T (nI nx))) th co at_ wr no nu (nI (T + 1)) (nI P) wi he de) hP mkM_u40
          refine lv_aload_n hx hb (fh_d d_Mo_walk 49 rfl) rfl (lv_at hl 3 rfl) ?_
          refine fh_get (own := "FormulaSetterModel") (ref := "FormulaSetterModel") (C := "FormulaSetterModel") (T := T_Mo) (N := 53) (v := .ref (x + 41)) hx hb hT i_Mo hown hK hP mkM_o rfl 47 (by decide) (hT _ w907) (fun _ h9 => h9) rfl (fh_d d_Mo_walk 50 rfl) ?_
          refine lv_iload_n hx hb (fh_d d_Mo_walk 51 rfl) rfl (lv_at hl 2 rfl) ?_
          refine fn_iald (f := upd (A 40) T (nI nx)) (k := T) hx hb hK hP 0 mkM_a40 rfl (nI_pred T) (by omega) (by decide) (fh_d d_Mo_walk 52 rfl) ?_
          rw [show ((upd (A 40) T (nI nx)) T) = (nI nx) from upd_s]
          refine lv_if_le (tgt := 100) hx hb (fh_d d_Mo_walk 53 rfl) rfl (fun c14 => ?_) (fun c14 => absurd c14 (fun z => z (by rw [h0_nx]; decide)))
          refine lv_aload_n hx hb (fh_d d_Mo_walk 61 rfl) rfl (lv_at hl 3 rfl) ?_
          refine fh_get (own := "FormulaSetterModel") (ref := "FormulaSetterModel") (C := "FormulaSetterModel") (T := T_Mo) (N := 53) (v := .ref (x + 40)) hx hb hT i_Mo hown hK hP mkM_o rfl 46 (by decide) (hT _ w906) (fun _ h9 => h9) rfl (fh_d d_Mo_walk 62 rfl) ?_
          refine lv_iload_n hx hb (fh_d d_Mo_walk 63 rfl) rfl (lv_at hl 2 rfl) ?_
          refine lv_iconst (v := 2) hx hb (fh_d d_Mo_walk 64 rfl) (by decide) ?_
          refine fn_iast (f := A 39) (k := T) hx hb hK hP hS 0 mkM_a39 rfl (nI_pred T) (by omega) (by decide) (fh_d d_Mo_walk 65 rfl) (fun H locs hP hS => ?_)
          replace hP := fh_P.eq (h' := mkM ct x g (up2 (up2 A 40 (upd (A 40) T (nI nx))) 39 (upd (A 39) T 2)) th co at_ wr no nu (nI (T + 1)) (nI P) wi he de) hP mkM_u39
          exact fh_vret X hP hS (fh_d d_Mo_walk 66 rfl) ⟨rfl, by unfold rf_wk; rw [if_pos hsp0, if_pos kd0, if_neg hc0, if_pos h0_nx], rfl⟩
        · skip
          refine lv_aload_n hx hb (fh_d d_Mo_walk 0 rfl) rfl (lv_at hl 0 rfl) ?_
          refine fh_get (own := "FormulaSetterModel") (ref := "FormulaSetterModel") (C := "FormulaSetterModel") (T := T_Mo) (N := 53) (v := .int (nI (T + 1))) hx hb hT i_Mo hown hK hP mkM_o rfl 22 (by decide) (hT _ w882) (fun _ h9 => h9) rfl (fh_d d_Mo_walk 1 rfl) ?_
          refine lv_iconst (v := 1) hx hb (fh_d d_Mo_walk 2 rfl) (by decide) ?_
          refine lv_isub hx hb (fh_d d_Mo_walk 3 rfl) ?_
          refine lv_istore_n (lv' := [(1, .int ((nI (T + 1)) - 1)), (0, .ref x)]) hx hb (fh_d d_Mo_walk 4 rfl) rfl hl (by decide) rfl (fun ls hl => ?_)
          refine lv_aload_n hx hb (fh_d d_Mo_walk 5 rfl) rfl (lv_at hl 1 rfl) ?_
          refine fh_get (own := "FormulaSetterModel") (ref := "FormulaSetterModel") (C := "FormulaSetterModel") (T := T_Mo) (N := 53) (v := .ref (x + 18)) hx hb hT i_Mo hown hK hP mkM_o rfl 24 (by decide) (hT _ w884) (fun _ h9 => h9) rfl (fh_d d_Mo_walk 6 rfl) ?_
          refine lv_iload_n hx hb (fh_d d_Mo_walk 7 rfl) rfl (lv_at hl 0 rfl) ?_
          refine fn_iald (f := A 17) (k := T) hx hb hK hP 0 mkM_a17 rfl (nI_pred T) (by omega) (by decide) (fh_d d_Mo_walk 8 rfl) ?_
          rw [show ((A 17) T) = nI n0 from h17]
          refine lv_istore_n (lv' := [(2, .int (nI n0)), (1, .int ((nI (T + 1)) - 1)), (0, .ref x)]) hx hb (fh_d d_Mo_walk 9 rfl) rfl hl (by decide) rfl (fun ls hl => ?_)
          refine lv_aload_n hx hb (fh_d d_Mo_walk 10 rfl) rfl (lv_at hl 2 rfl) ?_
          refine fh_get (own := "FormulaSetterModel") (ref := "FormulaSetterModel") (C := "FormulaSetterModel") (T := T_Mo) (N := 53) (v := .ref (x + 40)) hx hb hT i_Mo hown hK hP mkM_o rfl 46 (by decide) (hT _ w906) (fun _ h9 => h9) rfl (fh_d d_Mo_walk 11 rfl) ?_
          refine lv_iload_n hx hb (fh_d d_Mo_walk 12 rfl) rfl (lv_at hl 1 rfl) ?_
          refine fn_iald (f := A 39) (k := T) hx hb hK hP 0 mkM_a39 rfl (nI_pred T) (by omega) (by decide) (fh_d d_Mo_walk 13 rfl) ?_
          rw [show ((A 39) T) = 0 from h39.trans (by rw [hsp0]; rfl)]
          refine lv_istore_n (lv' := [(3, .int 0), (2, .int (nI n0)), (1, .int ((nI (T + 1)) - 1)), (0, .ref x)]) hx hb (fh_d d_Mo_walk 14 rfl) rfl hl (by decide) rfl (fun ls hl => ?_)
          refine lv_iload_n hx hb (fh_d d_Mo_walk 15 rfl) rfl (lv_at hl 0 rfl) ?_
          refine lv_if_ne (tgt := 108) hx hb (fh_d d_Mo_walk 16 rfl) rfl (fun c15 => absurd c15 (Classical.not_not.mpr (by decide))) (fun c15 => ?_)
          refine lv_aload_n hx hb (fh_d d_Mo_walk 17 rfl) rfl (lv_at hl 3 rfl) ?_
          refine fh_get (own := "FormulaSetterModel") (ref := "FormulaSetterModel") (C := "FormulaSetterModel") (T := T_Mo) (N := 53) (v := .ref (x + 2)) hx hb hT i_Mo hown hK hP mkM_o rfl 7 (by decide) (hT _ w867) (fun _ h9 => h9) rfl (fh_d d_Mo_walk 18 rfl) ?_
          refine lv_iload_n hx hb (fh_d d_Mo_walk 19 rfl) rfl (lv_at hl 1 rfl) ?_
          refine fn_iald (f := A 1) (k := n0) hx hb hK hP 0 mkM_a1 rfl (rfl) (by omega) (by decide) (fh_d d_Mo_walk 20 rfl) ?_
          refine lv_if_eq (tgt := 45) hx hb (fh_d d_Mo_walk 21 rfl) rfl (fun c16 => ?_) (fun c16 => absurd c16 (Classical.not_not.mpr (kd0)))
          refine lv_aload_n hx hb (fh_d d_Mo_walk 28 rfl) rfl (lv_at hl 3 rfl) ?_
          refine fh_get (own := "FormulaSetterModel") (ref := "FormulaSetterModel") (C := "FormulaSetterModel") (T := T_Mo) (N := 53) (v := .ref (x + 41)) hx hb hT i_Mo hown hK hP mkM_o rfl 47 (by decide) (hT _ w907) (fun _ h9 => h9) rfl (fh_d d_Mo_walk 29 rfl) ?_
          refine lv_iload_n hx hb (fh_d d_Mo_walk 30 rfl) rfl (lv_at hl 2 rfl) ?_
          refine lv_aload_n hx hb (fh_d d_Mo_walk 31 rfl) rfl (lv_at hl 3 rfl) ?_
          refine fh_get (own := "FormulaSetterModel") (ref := "FormulaSetterModel") (C := "FormulaSetterModel") (T := T_Mo) (N := 53) (v := .ref (x + 41)) hx hb hT i_Mo hown hK hP mkM_o rfl 47 (by decide) (hT _ w907) (fun _ h9 => h9) rfl (fh_d d_Mo_walk 32 rfl) ?_
          refine lv_iload_n hx hb (fh_d d_Mo_walk 33 rfl) rfl (lv_at hl 2 rfl) ?_
          refine fn_iald (f := A 40) (k := T) hx hb hK hP 0 mkM_a40 rfl (nI_pred T) (by omega) (by decide) (fh_d d_Mo_walk 34 rfl) ?_
          rw [show ((A 40) T) = nI cu from h40]
          refine lv_if_ne (tgt := 68) hx hb (fh_d d_Mo_walk 35 rfl) rfl (fun c17 => ?_) (fun c17 => absurd c17 (fun y => hc0 (nI_z4 hcu y)))
          refine lv_aload_n hx hb (fh_d d_Mo_walk 41 rfl) rfl (lv_at hl 3 rfl) ?_
          refine fh_get (own := "FormulaSetterModel") (ref := "FormulaSetterModel") (C := "FormulaSetterModel") (T := T_Mo) (N := 53) (v := .ref (x + 8)) hx hb hT i_Mo hown hK hP mkM_o rfl 13 (by decide) (hT _ w873) (fun _ h9 => h9) rfl (fh_d d_Mo_walk 42 rfl) ?_
          refine lv_aload_n hx hb (fh_d d_Mo_walk 43 rfl) rfl (lv_at hl 3 rfl) ?_
          refine fh_get (own := "FormulaSetterModel") (ref := "FormulaSetterModel") (C := "FormulaSetterModel") (T := T_Mo) (N := 53) (v := .ref (x + 41)) hx hb hT i_Mo hown hK hP mkM_o rfl 47 (by decide) (hT _ w907) (fun _ h9 => h9) rfl (fh_d d_Mo_walk 44 rfl) ?_
          refine lv_iload_n hx hb (fh_d d_Mo_walk 45 rfl) rfl (lv_at hl 2 rfl) ?_
          refine fn_iald (f := A 40) (k := T) hx hb hK hP 0 mkM_a40 rfl (nI_pred T) (by omega) (by decide) (fh_d d_Mo_walk 46 rfl) ?_
          rw [show ((A 40) T) = nI cu from h40]
          refine fn_iald (f := A 7) (k := cu) hx hb hK hP 0 mkM_a7 rfl (rfl) (by omega) (by decide) (fh_d d_Mo_walk 47 rfl) ?_
          rw [show ((A 7) cu) = nI nx from hnx.2]
          refine fn_iast (f := A 40) (k := T) hx hb hK hP hS 0 mkM_a40 rfl (nI_pred T) (by omega) (by decide) (fh_d d_Mo_walk 48 rfl) (fun H locs hP hS => ?_)
          replace hP := fh_P.eq (h' := mkM ct x g (up2 A 40 (upd (A 40) T (nI nx))) th co at_ wr no nu (nI (T + 1)) (nI P) wi he de) hP mkM_u40
          refine lv_aload_n hx hb (fh_d d_Mo_walk 49 rfl) rfl (lv_at hl 3 rfl) ?_
          refine fh_get (own := "FormulaSetterModel") (ref := "FormulaSetterModel") (C := "FormulaSetterModel") (T := T_Mo) (N := 53) (v := .ref (x + 41)) hx hb hT i_Mo hown hK hP mkM_o rfl 47 (by decide) (hT _ w907) (fun _ h9 => h9) rfl (fh_d d_Mo_walk 50 rfl) ?_
          refine lv_iload_n hx hb (fh_d d_Mo_walk 51 rfl) rfl (lv_at hl 2 rfl) ?_
          refine fn_iald (f := upd (A 40) T (nI nx)) (k := T) hx hb hK hP 0 mkM_a40 rfl (nI_pred T) (by omega) (by decide) (fh_d d_Mo_walk 52 rfl) ?_
          rw [show ((upd (A 40) T (nI nx)) T) = (nI nx) from upd_s]
          refine lv_if_le (tgt := 100) hx hb (fh_d d_Mo_walk 53 rfl) rfl (fun c18 => absurd c18 (nI_np ⟨Nat.pos_of_ne_zero h0_nx, hnx.1⟩)) (fun c18 => ?_)
          refine lv_aload_n hx hb (fh_d d_Mo_walk 54 rfl) rfl (lv_at hl 3 rfl) ?_
          refine lv_aload_n hx hb (fh_d d_Mo_walk 55 rfl) rfl (lv_at hl 3 rfl) ?_
          refine fh_get (own := "FormulaSetterModel") (ref := "FormulaSetterModel") (C := "FormulaSetterModel") (T := T_Mo) (N := 53) (v := .ref (x + 41)) hx hb hT i_Mo hown hK hP mkM_o rfl 47 (by decide) (hT _ w907) (fun _ h9 => h9) rfl (fh_d d_Mo_walk 56 rfl) ?_
          refine lv_iload_n hx hb (fh_d d_Mo_walk 57 rfl) rfl (lv_at hl 2 rfl) ?_
          refine fn_iald (f := upd (A 40) T (nI nx)) (k := T) hx hb hK hP 0 mkM_a40 rfl (nI_pred T) (by omega) (by decide) (fh_d d_Mo_walk 58 rfl) ?_
          rw [show ((upd (A 40) T (nI nx)) T) = (nI nx) from upd_s]
          refine fh_callV (cc' := c_Mo_enter) (nL' := 2) (rest := []) (a := x) (As := [.int (nI nx)]) X hR (m_Mo_enter l D ct b RO (r - 1) n x g (up2 A 40 (upd (A 40) T (nI nx))) th co at_ wr no nu (nI P) wi he de (nI nx) (T + 1) (by omega)) w1201 w1198 w1200 v58 w9 ⟨by decide, by decide, by show _ = some 1; decide +kernel⟩ (by omega) (by decide) (fh_recv hK hP mkM_o rfl) hP hS hl.1 rfl (by exact Nat.le_of_ble_eq_true rfl) (fh_d d_Mo_walk 59 rfl) ⟨Nat.le_refl _, Nat.le_refl _⟩ (fun v9 h9 n9 H locs hq hP hS => ?_)
          obtain ⟨rfl, u19, u20⟩ := hq
          rw [u19, u20] at hP
          refine W.eq (g2 := F0 m 99 ls []) rfl ?_
          exact fh_vret X hP hS (fh_d d_Mo_walk 60 rfl) ⟨rfl, by unfold rf_wk; rw [if_pos hsp0, if_pos kd0, if_neg hc0, if_neg h0_nx], rfl⟩
    · skip
      by_cases kd9 : A 1 n0 = 9
      · skip
        by_cases hc0 : cu = 0
        · skip
          by_cases h0_f0 : f0 = 0
          · skip
            refine lv_aload_n hx hb (fh_d d_Mo_walk 0 rfl) rfl (lv_at hl 0 rfl) ?_
            refine fh_get (own := "FormulaSetterModel") (ref := "FormulaSetterModel") (C := "FormulaSetterModel") (T := T_Mo) (N := 53) (v := .int (nI (T + 1))) hx hb hT i_Mo hown hK hP mkM_o rfl 22 (by decide) (hT _ w882) (fun _ h9 => h9) rfl (fh_d d_Mo_walk 1 rfl) ?_
            refine lv_iconst (v := 1) hx hb (fh_d d_Mo_walk 2 rfl) (by decide) ?_
            refine lv_isub hx hb (fh_d d_Mo_walk 3 rfl) ?_
            refine lv_istore_n (lv' := [(1, .int ((nI (T + 1)) - 1)), (0, .ref x)]) hx hb (fh_d d_Mo_walk 4 rfl) rfl hl (by decide) rfl (fun ls hl => ?_)
            refine lv_aload_n hx hb (fh_d d_Mo_walk 5 rfl) rfl (lv_at hl 1 rfl) ?_
            refine fh_get (own := "FormulaSetterModel") (ref := "FormulaSetterModel") (C := "FormulaSetterModel") (T := T_Mo) (N := 53) (v := .ref (x + 18)) hx hb hT i_Mo hown hK hP mkM_o rfl 24 (by decide) (hT _ w884) (fun _ h9 => h9) rfl (fh_d d_Mo_walk 6 rfl) ?_
            refine lv_iload_n hx hb (fh_d d_Mo_walk 7 rfl) rfl (lv_at hl 0 rfl) ?_
            refine fn_iald (f := A 17) (k := T) hx hb hK hP 0 mkM_a17 rfl (nI_pred T) (by omega) (by decide) (fh_d d_Mo_walk 8 rfl) ?_
            rw [show ((A 17) T) = nI n0 from h17]
            refine lv_istore_n (lv' := [(2, .int (nI n0)), (1, .int ((nI (T + 1)) - 1)), (0, .ref x)]) hx hb (fh_d d_Mo_walk 9 rfl) rfl hl (by decide) rfl (fun ls hl => ?_)
            refine lv_aload_n hx hb (fh_d d_Mo_walk 10 rfl) rfl (lv_at hl 2 rfl) ?_
            refine fh_get (own := "FormulaSetterModel") (ref := "FormulaSetterModel") (C := "FormulaSetterModel") (T := T_Mo) (N := 53) (v := .ref (x + 40)) hx hb hT i_Mo hown hK hP mkM_o rfl 46 (by decide) (hT _ w906) (fun _ h9 => h9) rfl (fh_d d_Mo_walk 11 rfl) ?_
            refine lv_iload_n hx hb (fh_d d_Mo_walk 12 rfl) rfl (lv_at hl 1 rfl) ?_
            refine fn_iald (f := A 39) (k := T) hx hb hK hP 0 mkM_a39 rfl (nI_pred T) (by omega) (by decide) (fh_d d_Mo_walk 13 rfl) ?_
            rw [show ((A 39) T) = 0 from h39.trans (by rw [hsp0]; rfl)]
            refine lv_istore_n (lv' := [(3, .int 0), (2, .int (nI n0)), (1, .int ((nI (T + 1)) - 1)), (0, .ref x)]) hx hb (fh_d d_Mo_walk 14 rfl) rfl hl (by decide) rfl (fun ls hl => ?_)
            refine lv_iload_n hx hb (fh_d d_Mo_walk 15 rfl) rfl (lv_at hl 0 rfl) ?_
            refine lv_if_ne (tgt := 108) hx hb (fh_d d_Mo_walk 16 rfl) rfl (fun c21 => absurd c21 (Classical.not_not.mpr (by decide))) (fun c21 => ?_)
            refine lv_aload_n hx hb (fh_d d_Mo_walk 17 rfl) rfl (lv_at hl 3 rfl) ?_
            refine fh_get (own := "FormulaSetterModel") (ref := "FormulaSetterModel") (C := "FormulaSetterModel") (T := T_Mo) (N := 53) (v := .ref (x + 2)) hx hb hT i_Mo hown hK hP mkM_o rfl 7 (by decide) (hT _ w867) (fun _ h9 => h9) rfl (fh_d d_Mo_walk 18 rfl) ?_
            refine lv_iload_n hx hb (fh_d d_Mo_walk 19 rfl) rfl (lv_at hl 1 rfl) ?_
            refine fn_iald (f := A 1) (k := n0) hx hb hK hP 0 mkM_a1 rfl (rfl) (by omega) (by decide) (fh_d d_Mo_walk 20 rfl) ?_
            refine lv_if_eq (tgt := 45) hx hb (fh_d d_Mo_walk 21 rfl) rfl (fun c22 => absurd c22 (kd0)) (fun c22 => ?_)
            refine lv_aload_n hx hb (fh_d d_Mo_walk 22 rfl) rfl (lv_at hl 3 rfl) ?_
            refine fh_get (own := "FormulaSetterModel") (ref := "FormulaSetterModel") (C := "FormulaSetterModel") (T := T_Mo) (N := 53) (v := .ref (x + 2)) hx hb hT i_Mo hown hK hP mkM_o rfl 7 (by decide) (hT _ w867) (fun _ h9 => h9) rfl (fh_d d_Mo_walk 23 rfl) ?_
            refine lv_iload_n hx hb (fh_d d_Mo_walk 24 rfl) rfl (lv_at hl 1 rfl) ?_
            refine fn_iald (f := A 1) (k := n0) hx hb hK hP 0 mkM_a1 rfl (rfl) (by omega) (by decide) (fh_d d_Mo_walk 25 rfl) ?_
            refine lv_bipush (v := 9) hx hb (fh_d d_Mo_walk 26 rfl) (by decide) ?_
            refine lv_icmp_ne (tgt := 108) hx hb (fh_d d_Mo_walk 27 rfl) rfl (fun c23 => absurd c23 (Classical.not_not.mpr (kd9))) (fun c23 => ?_)
            refine lv_aload_n hx hb (fh_d d_Mo_walk 28 rfl) rfl (lv_at hl 3 rfl) ?_
            refine fh_get (own := "FormulaSetterModel") (ref := "FormulaSetterModel") (C := "FormulaSetterModel") (T := T_Mo) (N := 53) (v := .ref (x + 41)) hx hb hT i_Mo hown hK hP mkM_o rfl 47 (by decide) (hT _ w907) (fun _ h9 => h9) rfl (fh_d d_Mo_walk 29 rfl) ?_
            refine lv_iload_n hx hb (fh_d d_Mo_walk 30 rfl) rfl (lv_at hl 2 rfl) ?_
            refine lv_aload_n hx hb (fh_d d_Mo_walk 31 rfl) rfl (lv_at hl 3 rfl) ?_
            refine fh_get (own := "FormulaSetterModel") (ref := "FormulaSetterModel") (C := "FormulaSetterModel") (T := T_Mo) (N := 53) (v := .ref (x + 41)) hx hb hT i_Mo hown hK hP mkM_o rfl 47 (by decide) (hT _ w907) (fun _ h9 => h9) rfl (fh_d d_Mo_walk 32 rfl) ?_
            refine lv_iload_n hx hb (fh_d d_Mo_walk 33 rfl) rfl (lv_at hl 2 rfl) ?_
            refine fn_iald (f := A 40) (k := T) hx hb hK hP 0 mkM_a40 rfl (nI_pred T) (by omega) (by decide) (fh_d d_Mo_walk 34 rfl) ?_
            rw [show ((A 40) T) = nI cu from h40]
            refine lv_if_ne (tgt := 68) hx hb (fh_d d_Mo_walk 35 rfl) rfl (fun c24 => absurd c24 (Classical.not_not.mpr (by rw [hc0]; rfl))) (fun c24 => ?_)
            refine lv_aload_n hx hb (fh_d d_Mo_walk 36 rfl) rfl (lv_at hl 3 rfl) ?_
            refine fh_get (own := "FormulaSetterModel") (ref := "FormulaSetterModel") (C := "FormulaSetterModel") (T := T_Mo) (N := 53) (v := .ref (x + 7)) hx hb hT i_Mo hown hK hP mkM_o rfl 12 (by decide) (hT _ w872) (fun _ h9 => h9) rfl (fh_d d_Mo_walk 37 rfl) ?_
            refine lv_iload_n hx hb (fh_d d_Mo_walk 38 rfl) rfl (lv_at hl 1 rfl) ?_
            refine fn_iald (f := A 6) (k := n0) hx hb hK hP 0 mkM_a6 rfl (rfl) (by omega) (by decide) (fh_d d_Mo_walk 39 rfl) ?_
            rw [show ((A 6) n0) = nI f0 from hf0.2]
            refine lv_goto (tgt := 79) hx hb (fh_d d_Mo_walk 40 rfl) rfl ?_
            refine fn_iast (f := A 40) (k := T) hx hb hK hP hS 0 mkM_a40 rfl (nI_pred T) (by omega) (by decide) (fh_d d_Mo_walk 48 rfl) (fun H locs hP hS => ?_)
            replace hP := fh_P.eq (h' := mkM ct x g (up2 A 40 (upd (A 40) T (nI f0))) th co at_ wr no nu (nI (T + 1)) (nI P) wi he de) hP mkM_u40
            refine lv_aload_n hx hb (fh_d d_Mo_walk 49 rfl) rfl (lv_at hl 3 rfl) ?_
            refine fh_get (own := "FormulaSetterModel") (ref := "FormulaSetterModel") (C := "FormulaSetterModel") (T := T_Mo) (N := 53) (v := .ref (x + 41)) hx hb hT i_Mo hown hK hP mkM_o rfl 47 (by decide) (hT _ w907) (fun _ h9 => h9) rfl (fh_d d_Mo_walk 50 rfl) ?_
            refine lv_iload_n hx hb (fh_d d_Mo_walk 51 rfl) rfl (lv_at hl 2 rfl) ?_
            refine fn_iald (f := upd (A 40) T (nI f0)) (k := T) hx hb hK hP 0 mkM_a40 rfl (nI_pred T) (by omega) (by decide) (fh_d d_Mo_walk 52 rfl) ?_
            rw [show ((upd (A 40) T (nI f0)) T) = (nI f0) from upd_s]
            refine lv_if_le (tgt := 100) hx hb (fh_d d_Mo_walk 53 rfl) rfl (fun c25 => ?_) (fun c25 => absurd c25 (fun z => z (by rw [h0_f0]; decide)))
            refine lv_aload_n hx hb (fh_d d_Mo_walk 61 rfl) rfl (lv_at hl 3 rfl) ?_
            refine fh_get (own := "FormulaSetterModel") (ref := "FormulaSetterModel") (C := "FormulaSetterModel") (T := T_Mo) (N := 53) (v := .ref (x + 40)) hx hb hT i_Mo hown hK hP mkM_o rfl 46 (by decide) (hT _ w906) (fun _ h9 => h9) rfl (fh_d d_Mo_walk 62 rfl) ?_
            refine lv_iload_n hx hb (fh_d d_Mo_walk 63 rfl) rfl (lv_at hl 2 rfl) ?_
            refine lv_iconst (v := 2) hx hb (fh_d d_Mo_walk 64 rfl) (by decide) ?_
            refine fn_iast (f := A 39) (k := T) hx hb hK hP hS 0 mkM_a39 rfl (nI_pred T) (by omega) (by decide) (fh_d d_Mo_walk 65 rfl) (fun H locs hP hS => ?_)
            replace hP := fh_P.eq (h' := mkM ct x g (up2 (up2 A 40 (upd (A 40) T (nI f0))) 39 (upd (A 39) T 2)) th co at_ wr no nu (nI (T + 1)) (nI P) wi he de) hP mkM_u39
            exact fh_vret X hP hS (fh_d d_Mo_walk 66 rfl) ⟨rfl, by unfold rf_wk; rw [if_pos hsp0, if_neg kd0, if_pos kd9, if_pos hc0, if_pos h0_f0], rfl⟩
          · skip
            refine lv_aload_n hx hb (fh_d d_Mo_walk 0 rfl) rfl (lv_at hl 0 rfl) ?_
            refine fh_get (own := "FormulaSetterModel") (ref := "FormulaSetterModel") (C := "FormulaSetterModel") (T := T_Mo) (N := 53) (v := .int (nI (T + 1))) hx hb hT i_Mo hown hK hP mkM_o rfl 22 (by decide) (hT _ w882) (fun _ h9 => h9) rfl (fh_d d_Mo_walk 1 rfl) ?_
            refine lv_iconst (v := 1) hx hb (fh_d d_Mo_walk 2 rfl) (by decide) ?_
            refine lv_isub hx hb (fh_d d_Mo_walk 3 rfl) ?_
            refine lv_istore_n (lv' := [(1, .int ((nI (T + 1)) - 1)), (0, .ref x)]) hx hb (fh_d d_Mo_walk 4 rfl) rfl hl (by decide) rfl (fun ls hl => ?_)
            refine lv_aload_n hx hb (fh_d d_Mo_walk 5 rfl) rfl (lv_at hl 1 rfl) ?_
            refine fh_get (own := "FormulaSetterModel") (ref := "FormulaSetterModel") (C := "FormulaSetterModel") (T := T_Mo) (N := 53) (v := .ref (x + 18)) hx hb hT i_Mo hown hK hP mkM_o rfl 24 (by decide) (hT _ w884) (fun _ h9 => h9) rfl (fh_d d_Mo_walk 6 rfl) ?_
            refine lv_iload_n hx hb (fh_d d_Mo_walk 7 rfl) rfl (lv_at hl 0 rfl) ?_
            refine fn_iald (f := A 17) (k := T) hx hb hK hP 0 mkM_a17 rfl (nI_pred T) (by omega) (by decide) (fh_d d_Mo_walk 8 rfl) ?_
            rw [show ((A 17) T) = nI n0 from h17]
            refine lv_istore_n (lv' := [(2, .int (nI n0)), (1, .int ((nI (T + 1)) - 1)), (0, .ref x)]) hx hb (fh_d d_Mo_walk 9 rfl) rfl hl (by decide) rfl (fun ls hl => ?_)
            refine lv_aload_n hx hb (fh_d d_Mo_walk 10 rfl) rfl (lv_at hl 2 rfl) ?_
            refine fh_get (own := "FormulaSetterModel") (ref := "FormulaSetterModel") (C := "FormulaSetterModel") (T := T_Mo) (N := 53) (v := .ref (x + 40)) hx hb hT i_Mo hown hK hP mkM_o rfl 46 (by decide) (hT _ w906) (fun _ h9 => h9) rfl (fh_d d_Mo_walk 11 rfl) ?_
            refine lv_iload_n hx hb (fh_d d_Mo_walk 12 rfl) rfl (lv_at hl 1 rfl) ?_
            refine fn_iald (f := A 39) (k := T) hx hb hK hP 0 mkM_a39 rfl (nI_pred T) (by omega) (by decide) (fh_d d_Mo_walk 13 rfl) ?_
            rw [show ((A 39) T) = 0 from h39.trans (by rw [hsp0]; rfl)]
            refine lv_istore_n (lv' := [(3, .int 0), (2, .int (nI n0)), (1, .int ((nI (T + 1)) - 1)), (0, .ref x)]) hx hb (fh_d d_Mo_walk 14 rfl) rfl hl (by decide) rfl (fun ls hl => ?_)
            refine lv_iload_n hx hb (fh_d d_Mo_walk 15 rfl) rfl (lv_at hl 0 rfl) ?_
            refine lv_if_ne (tgt := 108) hx hb (fh_d d_Mo_walk 16 rfl) rfl (fun c26 => absurd c26 (Classical.not_not.mpr (by decide))) (fun c26 => ?_)
            refine lv_aload_n hx hb (fh_d d_Mo_walk 17 rfl) rfl (lv_at hl 3 rfl) ?_
            refine fh_get (own := "FormulaSetterModel") (ref := "FormulaSetterModel") (C := "FormulaSetterModel") (T := T_Mo) (N := 53) (v := .ref (x + 2)) hx hb hT i_Mo hown hK hP mkM_o rfl 7 (by decide) (hT _ w867) (fun _ h9 => h9) rfl (fh_d d_Mo_walk 18 rfl) ?_
            refine lv_iload_n hx hb (fh_d d_Mo_walk 19 rfl) rfl (lv_at hl 1 rfl) ?_
            refine fn_iald (f := A 1) (k := n0) hx hb hK hP 0 mkM_a1 rfl (rfl) (by omega) (by decide) (fh_d d_Mo_walk 20 rfl) ?_
            refine lv_if_eq (tgt := 45) hx hb (fh_d d_Mo_walk 21 rfl) rfl (fun c27 => absurd c27 (kd0)) (fun c27 => ?_)
            refine lv_aload_n hx hb (fh_d d_Mo_walk 22 rfl) rfl (lv_at hl 3 rfl) ?_
            refine fh_get (own := "FormulaSetterModel") (ref := "FormulaSetterModel") (C := "FormulaSetterModel") (T := T_Mo) (N := 53) (v := .ref (x + 2)) hx hb hT i_Mo hown hK hP mkM_o rfl 7 (by decide) (hT _ w867) (fun _ h9 => h9) rfl (fh_d d_Mo_walk 23 rfl) ?_
            refine lv_iload_n hx hb (fh_d d_Mo_walk 24 rfl) rfl (lv_at hl 1 rfl) ?_
            refine fn_iald (f := A 1) (k := n0) hx hb hK hP 0 mkM_a1 rfl (rfl) (by omega) (by decide) (fh_d d_Mo_walk 25 rfl) ?_
            refine lv_bipush (v := 9) hx hb (fh_d d_Mo_walk 26 rfl) (by decide) ?_
            refine lv_icmp_ne (tgt := 108) hx hb (fh_d d_Mo_walk 27 rfl) rfl (fun c28 => absurd c28 (Classical.not_not.mpr (kd9))) (fun c28 => ?_)
            refine lv_aload_n hx hb (fh_d d_Mo_walk 28 rfl) rfl (lv_at hl 3 rfl) ?_
            refine fh_get (own := "FormulaSetterModel") (ref := "FormulaSetterModel") (C := "FormulaSetterModel") (T := T_Mo) (N := 53) (v := .ref (x + 41)) hx hb hT i_Mo hown hK hP mkM_o rfl 47 (by decide) (hT _ w907) (fun _ h9 => h9) rfl (fh_d d_Mo_walk 29 rfl) ?_
            refine lv_iload_n hx hb (fh_d d_Mo_walk 30 rfl) rfl (lv_at hl 2 rfl) ?_
            refine lv_aload_n hx hb (fh_d d_Mo_walk 31 rfl) rfl (lv_at hl 3 rfl) ?_
            refine fh_get (own := "FormulaSetterModel") (ref := "FormulaSetterModel") (C := "FormulaSetterModel") (T := T_Mo) (N := 53) (v := .ref (x + 41)) hx hb hT i_Mo hown hK hP mkM_o rfl 47 (by decide) (hT _ w907) (fun _ h9 => h9) rfl (fh_d d_Mo_walk 32 rfl) ?_
            refine lv_iload_n hx hb (fh_d d_Mo_walk 33 rfl) rfl (lv_at hl 2 rfl) ?_
            refine fn_iald (f := A 40) (k := T) hx hb hK hP 0 mkM_a40 rfl (nI_pred T) (by omega) (by decide) (fh_d d_Mo_walk 34 rfl) ?_
            rw [show ((A 40) T) = nI cu from h40]
            refine lv_if_ne (tgt := 68) hx hb (fh_d d_Mo_walk 35 rfl) rfl (fun c29 => absurd c29 (Classical.not_not.mpr (by rw [hc0]; rfl))) (fun c29 => ?_)
            refine lv_aload_n hx hb (fh_d d_Mo_walk 36 rfl) rfl (lv_at hl 3 rfl) ?_
            refine fh_get (own := "FormulaSetterModel") (ref := "FormulaSetterModel") (C := "FormulaSetterModel") (T := T_Mo) (N := 53) (v := .ref (x + 7)) hx hb hT i_Mo hown hK hP mkM_o rfl 12 (by decide) (hT _ w872) (fun _ h9 => h9) rfl (fh_d d_Mo_walk 37 rfl) ?_
            refine lv_iload_n hx hb (fh_d d_Mo_walk 38 rfl) rfl (lv_at hl 1 rfl) ?_
            refine fn_iald (f := A 6) (k := n0) hx hb hK hP 0 mkM_a6 rfl (rfl) (by omega) (by decide) (fh_d d_Mo_walk 39 rfl) ?_
            rw [show ((A 6) n0) = nI f0 from hf0.2]
            refine lv_goto (tgt := 79) hx hb (fh_d d_Mo_walk 40 rfl) rfl ?_
            refine fn_iast (f := A 40) (k := T) hx hb hK hP hS 0 mkM_a40 rfl (nI_pred T) (by omega) (by decide) (fh_d d_Mo_walk 48 rfl) (fun H locs hP hS => ?_)
            replace hP := fh_P.eq (h' := mkM ct x g (up2 A 40 (upd (A 40) T (nI f0))) th co at_ wr no nu (nI (T + 1)) (nI P) wi he de) hP mkM_u40
            refine lv_aload_n hx hb (fh_d d_Mo_walk 49 rfl) rfl (lv_at hl 3 rfl) ?_
            refine fh_get (own := "FormulaSetterModel") (ref := "FormulaSetterModel") (C := "FormulaSetterModel") (T := T_Mo) (N := 53) (v := .ref (x + 41)) hx hb hT i_Mo hown hK hP mkM_o rfl 47 (by decide) (hT _ w907) (fun _ h9 => h9) rfl (fh_d d_Mo_walk 50 rfl) ?_
            refine lv_iload_n hx hb (fh_d d_Mo_walk 51 rfl) rfl (lv_at hl 2 rfl) ?_
            refine fn_iald (f := upd (A 40) T (nI f0)) (k := T) hx hb hK hP 0 mkM_a40 rfl (nI_pred T) (by omega) (by decide) (fh_d d_Mo_walk 52 rfl) ?_
            rw [show ((upd (A 40) T (nI f0)) T) = (nI f0) from upd_s]
            refine lv_if_le (tgt := 100) hx hb (fh_d d_Mo_walk 53 rfl) rfl (fun c30 => absurd c30 (nI_np ⟨Nat.pos_of_ne_zero h0_f0, hf0.1⟩)) (fun c30 => ?_)
            refine lv_aload_n hx hb (fh_d d_Mo_walk 54 rfl) rfl (lv_at hl 3 rfl) ?_
            refine lv_aload_n hx hb (fh_d d_Mo_walk 55 rfl) rfl (lv_at hl 3 rfl) ?_
            refine fh_get (own := "FormulaSetterModel") (ref := "FormulaSetterModel") (C := "FormulaSetterModel") (T := T_Mo) (N := 53) (v := .ref (x + 41)) hx hb hT i_Mo hown hK hP mkM_o rfl 47 (by decide) (hT _ w907) (fun _ h9 => h9) rfl (fh_d d_Mo_walk 56 rfl) ?_
            refine lv_iload_n hx hb (fh_d d_Mo_walk 57 rfl) rfl (lv_at hl 2 rfl) ?_
            refine fn_iald (f := upd (A 40) T (nI f0)) (k := T) hx hb hK hP 0 mkM_a40 rfl (nI_pred T) (by omega) (by decide) (fh_d d_Mo_walk 58 rfl) ?_
            rw [show ((upd (A 40) T (nI f0)) T) = (nI f0) from upd_s]
            refine fh_callV (cc' := c_Mo_enter) (nL' := 2) (rest := []) (a := x) (As := [.int (nI f0)]) X hR (m_Mo_enter l D ct b RO (r - 1) n x g (up2 A 40 (upd (A 40) T (nI f0))) th co at_ wr no nu (nI P) wi he de (nI f0) (T + 1) (by omega)) w1201 w1198 w1200 v58 w9 ⟨by decide, by decide, by show _ = some 1; decide +kernel⟩ (by omega) (by decide) (fh_recv hK hP mkM_o rfl) hP hS hl.1 rfl (by exact Nat.le_of_ble_eq_true rfl) (fh_d d_Mo_walk 59 rfl) ⟨Nat.le_refl _, Nat.le_refl _⟩ (fun v9 h9 n9 H locs hq hP hS => ?_)
            obtain ⟨rfl, u31, u32⟩ := hq
            rw [u31, u32] at hP
            refine W.eq (g2 := F0 m 99 ls []) rfl ?_
            exact fh_vret X hP hS (fh_d d_Mo_walk 60 rfl) ⟨rfl, by unfold rf_wk; rw [if_pos hsp0, if_neg kd0, if_pos kd9, if_pos hc0, if_neg h0_f0], rfl⟩
        · skip
          by_cases h0_nx : nx = 0
          · skip
            refine lv_aload_n hx hb (fh_d d_Mo_walk 0 rfl) rfl (lv_at hl 0 rfl) ?_
            refine fh_get (own := "FormulaSetterModel") (ref := "FormulaSetterModel") (C := "FormulaSetterModel") (T := T_Mo) (N := 53) (v := .int (nI (T + 1))) hx hb hT i_Mo hown hK hP mkM_o rfl 22 (by decide) (hT _ w882) (fun _ h9 => h9) rfl (fh_d d_Mo_walk 1 rfl) ?_
            refine lv_iconst (v := 1) hx hb (fh_d d_Mo_walk 2 rfl) (by decide) ?_
            refine lv_isub hx hb (fh_d d_Mo_walk 3 rfl) ?_
            refine lv_istore_n (lv' := [(1, .int ((nI (T + 1)) - 1)), (0, .ref x)]) hx hb (fh_d d_Mo_walk 4 rfl) rfl hl (by decide) rfl (fun ls hl => ?_)
            refine lv_aload_n hx hb (fh_d d_Mo_walk 5 rfl) rfl (lv_at hl 1 rfl) ?_
            refine fh_get (own := "FormulaSetterModel") (ref := "FormulaSetterModel") (C := "FormulaSetterModel") (T := T_Mo) (N := 53) (v := .ref (x + 18)) hx hb hT i_Mo hown hK hP mkM_o rfl 24 (by decide) (hT _ w884) (fun _ h9 => h9) rfl (fh_d d_Mo_walk 6 rfl) ?_
            refine lv_iload_n hx hb (fh_d d_Mo_walk 7 rfl) rfl (lv_at hl 0 rfl) ?_
            refine fn_iald (f := A 17) (k := T) hx hb hK hP 0 mkM_a17 rfl (nI_pred T) (by omega) (by decide) (fh_d d_Mo_walk 8 rfl) ?_
            rw [show ((A 17) T) = nI n0 from h17]
            refine lv_istore_n (lv' := [(2, .int (nI n0)), (1, .int ((nI (T + 1)) - 1)), (0, .ref x)]) hx hb (fh_d d_Mo_walk 9 rfl) rfl hl (by decide) rfl (fun ls hl => ?_)
            refine lv_aload_n hx hb (fh_d d_Mo_walk 10 rfl) rfl (lv_at hl 2 rfl) ?_
            refine fh_get (own := "FormulaSetterModel") (ref := "FormulaSetterModel") (C := "FormulaSetterModel") (T := T_Mo) (N := 53) (v := .ref (x + 40)) hx hb hT i_Mo hown hK hP mkM_o rfl 46 (by decide) (hT _ w906) (fun _ h9 => h9) rfl (fh_d d_Mo_walk 11 rfl) ?_
            refine lv_iload_n hx hb (fh_d d_Mo_walk 12 rfl) rfl (lv_at hl 1 rfl) ?_
            refine fn_iald (f := A 39) (k := T) hx hb hK hP 0 mkM_a39 rfl (nI_pred T) (by omega) (by decide) (fh_d d_Mo_walk 13 rfl) ?_
            rw [show ((A 39) T) = 0 from h39.trans (by rw [hsp0]; rfl)]
            refine lv_istore_n (lv' := [(3, .int 0), (2, .int (nI n0)), (1, .int ((nI (T + 1)) - 1)), (0, .ref x)]) hx hb (fh_d d_Mo_walk 14 rfl) rfl hl (by decide) rfl (fun ls hl => ?_)
            refine lv_iload_n hx hb (fh_d d_Mo_walk 15 rfl) rfl (lv_at hl 0 rfl) ?_
            refine lv_if_ne (tgt := 108) hx hb (fh_d d_Mo_walk 16 rfl) rfl (fun c33 => absurd c33 (Classical.not_not.mpr (by decide))) (fun c33 => ?_)
            refine lv_aload_n hx hb (fh_d d_Mo_walk 17 rfl) rfl (lv_at hl 3 rfl) ?_
            refine fh_get (own := "FormulaSetterModel") (ref := "FormulaSetterModel") (C := "FormulaSetterModel") (T := T_Mo) (N := 53) (v := .ref (x + 2)) hx hb hT i_Mo hown hK hP mkM_o rfl 7 (by decide) (hT _ w867) (fun _ h9 => h9) rfl (fh_d d_Mo_walk 18 rfl) ?_
            refine lv_iload_n hx hb (fh_d d_Mo_walk 19 rfl) rfl (lv_at hl 1 rfl) ?_
            refine fn_iald (f := A 1) (k := n0) hx hb hK hP 0 mkM_a1 rfl (rfl) (by omega) (by decide) (fh_d d_Mo_walk 20 rfl) ?_
            refine lv_if_eq (tgt := 45) hx hb (fh_d d_Mo_walk 21 rfl) rfl (fun c34 => absurd c34 (kd0)) (fun c34 => ?_)
            refine lv_aload_n hx hb (fh_d d_Mo_walk 22 rfl) rfl (lv_at hl 3 rfl) ?_
            refine fh_get (own := "FormulaSetterModel") (ref := "FormulaSetterModel") (C := "FormulaSetterModel") (T := T_Mo) (N := 53) (v := .ref (x + 2)) hx hb hT i_Mo hown hK hP mkM_o rfl 7 (by decide) (hT _ w867) (fun _ h9 => h9) rfl (fh_d d_Mo_walk 23 rfl) ?_
            refine lv_iload_n hx hb (fh_d d_Mo_walk 24 rfl) rfl (lv_at hl 1 rfl) ?_
            refine fn_iald (f := A 1) (k := n0) hx hb hK hP 0 mkM_a1 rfl (rfl) (by omega) (by decide) (fh_d d_Mo_walk 25 rfl) ?_
            refine lv_bipush (v := 9) hx hb (fh_d d_Mo_walk 26 rfl) (by decide) ?_
            refine lv_icmp_ne (tgt := 108) hx hb (fh_d d_Mo_walk 27 rfl) rfl (fun c35 => absurd c35 (Classical.not_not.mpr (kd9))) (fun c35 => ?_)
            refine lv_aload_n hx hb (fh_d d_Mo_walk 28 rfl) rfl (lv_at hl 3 rfl) ?_
            refine fh_get (own := "FormulaSetterModel") (ref := "FormulaSetterModel") (C := "FormulaSetterModel") (T := T_Mo) (N := 53) (v := .ref (x + 41)) hx hb hT i_Mo hown hK hP mkM_o rfl 47 (by decide) (hT _ w907) (fun _ h9 => h9) rfl (fh_d d_Mo_walk 29 rfl) ?_
            refine lv_iload_n hx hb (fh_d d_Mo_walk 30 rfl) rfl (lv_at hl 2 rfl) ?_
            refine lv_aload_n hx hb (fh_d d_Mo_walk 31 rfl) rfl (lv_at hl 3 rfl) ?_
            refine fh_get (own := "FormulaSetterModel") (ref := "FormulaSetterModel") (C := "FormulaSetterModel") (T := T_Mo) (N := 53) (v := .ref (x + 41)) hx hb hT i_Mo hown hK hP mkM_o rfl 47 (by decide) (hT _ w907) (fun _ h9 => h9) rfl (fh_d d_Mo_walk 32 rfl) ?_
            refine lv_iload_n hx hb (fh_d d_Mo_walk 33 rfl) rfl (lv_at hl 2 rfl) ?_
            refine fn_iald (f := A 40) (k := T) hx hb hK hP 0 mkM_a40 rfl (nI_pred T) (by omega) (by decide) (fh_d d_Mo_walk 34 rfl) ?_
            rw [show ((A 40) T) = nI cu from h40]
            refine lv_if_ne (tgt := 68) hx hb (fh_d d_Mo_walk 35 rfl) rfl (fun c36 => ?_) (fun c36 => absurd c36 (fun y => hc0 (nI_z4 hcu y)))
            refine lv_aload_n hx hb (fh_d d_Mo_walk 41 rfl) rfl (lv_at hl 3 rfl) ?_
            refine fh_get (own := "FormulaSetterModel") (ref := "FormulaSetterModel") (C := "FormulaSetterModel") (T := T_Mo) (N := 53) (v := .ref (x + 8)) hx hb hT i_Mo hown hK hP mkM_o rfl 13 (by decide) (hT _ w873) (fun _ h9 => h9) rfl (fh_d d_Mo_walk 42 rfl) ?_
            refine lv_aload_n hx hb (fh_d d_Mo_walk 43 rfl) rfl (lv_at hl 3 rfl) ?_
            refine fh_get (own := "FormulaSetterModel") (ref := "FormulaSetterModel") (C := "FormulaSetterModel") (T := T_Mo) (N := 53) (v := .ref (x + 41)) hx hb hT i_Mo hown hK hP mkM_o rfl 47 (by decide) (hT _ w907) (fun _ h9 => h9) rfl (fh_d d_Mo_walk 44 rfl) ?_
            refine lv_iload_n hx hb (fh_d d_Mo_walk 45 rfl) rfl (lv_at hl 2 rfl) ?_
            refine fn_iald (f := A 40) (k := T) hx hb hK hP 0 mkM_a40 rfl (nI_pred T) (by omega) (by decide) (fh_d d_Mo_walk 46 rfl) ?_
            rw [show ((A 40) T) = nI cu from h40]
            refine fn_iald (f := A 7) (k := cu) hx hb hK hP 0 mkM_a7 rfl (rfl) (by omega) (by decide) (fh_d d_Mo_walk 47 rfl) ?_
            rw [show ((A 7) cu) = nI nx from hnx.2]
            refine fn_iast (f := A 40) (k := T) hx hb hK hP hS 0 mkM_a40 rfl (nI_pred T) (by omega) (by decide) (fh_d d_Mo_walk 48 rfl) (fun H locs hP hS => ?_)
            replace hP := fh_P.eq (h' := mkM ct x g (up2 A 40 (upd (A 40) T (nI nx))) th co at_ wr no nu (nI (T + 1)) (nI P) wi he de) hP mkM_u40
            refine lv_aload_n hx hb (fh_d d_Mo_walk 49 rfl) rfl (lv_at hl 3 rfl) ?_
            refine fh_get (own := "FormulaSetterModel") (ref := "FormulaSetterModel") (C := "FormulaSetterModel") (T := T_Mo) (N := 53) (v := .ref (x + 41)) hx hb hT i_Mo hown hK hP mkM_o rfl 47 (by decide) (hT _ w907) (fun _ h9 => h9) rfl (fh_d d_Mo_walk 50 rfl) ?_
            refine lv_iload_n hx hb (fh_d d_Mo_walk 51 rfl) rfl (lv_at hl 2 rfl) ?_
            refine fn_iald (f := upd (A 40) T (nI nx)) (k := T) hx hb hK hP 0 mkM_a40 rfl (nI_pred T) (by omega) (by decide) (fh_d d_Mo_walk 52 rfl) ?_
            rw [show ((upd (A 40) T (nI nx)) T) = (nI nx) from upd_s]
            refine lv_if_le (tgt := 100) hx hb (fh_d d_Mo_walk 53 rfl) rfl (fun c37 => ?_) (fun c37 => absurd c37 (fun z => z (by rw [h0_nx]; decide)))
            refine lv_aload_n hx hb (fh_d d_Mo_walk 61 rfl) rfl (lv_at hl 3 rfl) ?_
            refine fh_get (own := "FormulaSetterModel") (ref := "FormulaSetterModel") (C := "FormulaSetterModel") (T := T_Mo) (N := 53) (v := .ref (x + 40)) hx hb hT i_Mo hown hK hP mkM_o rfl 46 (by decide) (hT _ w906) (fun _ h9 => h9) rfl (fh_d d_Mo_walk 62 rfl) ?_
            refine lv_iload_n hx hb (fh_d d_Mo_walk 63 rfl) rfl (lv_at hl 2 rfl) ?_
            refine lv_iconst (v := 2) hx hb (fh_d d_Mo_walk 64 rfl) (by decide) ?_
            refine fn_iast (f := A 39) (k := T) hx hb hK hP hS 0 mkM_a39 rfl (nI_pred T) (by omega) (by decide) (fh_d d_Mo_walk 65 rfl) (fun H locs hP hS => ?_)
            replace hP := fh_P.eq (h' := mkM ct x g (up2 (up2 A 40 (upd (A 40) T (nI nx))) 39 (upd (A 39) T 2)) th co at_ wr no nu (nI (T + 1)) (nI P) wi he de) hP mkM_u39
            exact fh_vret X hP hS (fh_d d_Mo_walk 66 rfl) ⟨rfl, by unfold rf_wk; rw [if_pos hsp0, if_neg kd0, if_pos kd9, if_neg hc0, if_pos h0_nx], rfl⟩
          · skip
            refine lv_aload_n hx hb (fh_d d_Mo_walk 0 rfl) rfl (lv_at hl 0 rfl) ?_
            refine fh_get (own := "FormulaSetterModel") (ref := "FormulaSetterModel") (C := "FormulaSetterModel") (T := T_Mo) (N := 53) (v := .int (nI (T + 1))) hx hb hT i_Mo hown hK hP mkM_o rfl 22 (by decide) (hT _ w882) (fun _ h9 => h9) rfl (fh_d d_Mo_walk 1 rfl) ?_
            refine lv_iconst (v := 1) hx hb (fh_d d_Mo_walk 2 rfl) (by decide) ?_
            refine lv_isub hx hb (fh_d d_Mo_walk 3 rfl) ?_
            refine lv_istore_n (lv' := [(1, .int ((nI (T + 1)) - 1)), (0, .ref x)]) hx hb (fh_d d_Mo_walk 4 rfl) rfl hl (by decide) rfl (fun ls hl => ?_)
            refine lv_aload_n hx hb (fh_d d_Mo_walk 5 rfl) rfl (lv_at hl 1 rfl) ?_
            refine fh_get (own := "FormulaSetterModel") (ref := "FormulaSetterModel") (C := "FormulaSetterModel") (T := T_Mo) (N := 53) (v := .ref (x + 18)) hx hb hT i_Mo hown hK hP mkM_o rfl 24 (by decide) (hT _ w884) (fun _ h9 => h9) rfl (fh_d d_Mo_walk 6 rfl) ?_
            refine lv_iload_n hx hb (fh_d d_Mo_walk 7 rfl) rfl (lv_at hl 0 rfl) ?_
            refine fn_iald (f := A 17) (k := T) hx hb hK hP 0 mkM_a17 rfl (nI_pred T) (by omega) (by decide) (fh_d d_Mo_walk 8 rfl) ?_
            rw [show ((A 17) T) = nI n0 from h17]
            refine lv_istore_n (lv' := [(2, .int (nI n0)), (1, .int ((nI (T + 1)) - 1)), (0, .ref x)]) hx hb (fh_d d_Mo_walk 9 rfl) rfl hl (by decide) rfl (fun ls hl => ?_)
            refine lv_aload_n hx hb (fh_d d_Mo_walk 10 rfl) rfl (lv_at hl 2 rfl) ?_
            refine fh_get (own := "FormulaSetterModel") (ref := "FormulaSetterModel") (C := "FormulaSetterModel") (T := T_Mo) (N := 53) (v := .ref (x + 40)) hx hb hT i_Mo hown hK hP mkM_o rfl 46 (by decide) (hT _ w906) (fun _ h9 => h9) rfl (fh_d d_Mo_walk 11 rfl) ?_
            refine lv_iload_n hx hb (fh_d d_Mo_walk 12 rfl) rfl (lv_at hl 1 rfl) ?_
            refine fn_iald (f := A 39) (k := T) hx hb hK hP 0 mkM_a39 rfl (nI_pred T) (by omega) (by decide) (fh_d d_Mo_walk 13 rfl) ?_
            rw [show ((A 39) T) = 0 from h39.trans (by rw [hsp0]; rfl)]
            refine lv_istore_n (lv' := [(3, .int 0), (2, .int (nI n0)), (1, .int ((nI (T + 1)) - 1)), (0, .ref x)]) hx hb (fh_d d_Mo_walk 14 rfl) rfl hl (by decide) rfl (fun ls hl => ?_)
            refine lv_iload_n hx hb (fh_d d_Mo_walk 15 rfl) rfl (lv_at hl 0 rfl) ?_
            refine lv_if_ne (tgt := 108) hx hb (fh_d d_Mo_walk 16 rfl) rfl (fun c38 => absurd c38 (Classical.not_not.mpr (by decide))) (fun c38 => ?_)
            refine lv_aload_n hx hb (fh_d d_Mo_walk 17 rfl) rfl (lv_at hl 3 rfl) ?_
            refine fh_get (own := "FormulaSetterModel") (ref := "FormulaSetterModel") (C := "FormulaSetterModel") (T := T_Mo) (N := 53) (v := .ref (x + 2)) hx hb hT i_Mo hown hK hP mkM_o rfl 7 (by decide) (hT _ w867) (fun _ h9 => h9) rfl (fh_d d_Mo_walk 18 rfl) ?_
            refine lv_iload_n hx hb (fh_d d_Mo_walk 19 rfl) rfl (lv_at hl 1 rfl) ?_
            refine fn_iald (f := A 1) (k := n0) hx hb hK hP 0 mkM_a1 rfl (rfl) (by omega) (by decide) (fh_d d_Mo_walk 20 rfl) ?_
            refine lv_if_eq (tgt := 45) hx hb (fh_d d_Mo_walk 21 rfl) rfl (fun c39 => absurd c39 (kd0)) (fun c39 => ?_)
            refine lv_aload_n hx hb (fh_d d_Mo_walk 22 rfl) rfl (lv_at hl 3 rfl) ?_
            refine fh_get (own := "FormulaSetterModel") (ref := "FormulaSetterModel") (C := "FormulaSetterModel") (T := T_Mo) (N := 53) (v := .ref (x + 2)) hx hb hT i_Mo hown hK hP mkM_o rfl 7 (by decide) (hT _ w867) (fun _ h9 => h9) rfl (fh_d d_Mo_walk 23 rfl) ?_
            refine lv_iload_n hx hb (fh_d d_Mo_walk 24 rfl) rfl (lv_at hl 1 rfl) ?_
            refine fn_iald (f := A 1) (k := n0) hx hb hK hP 0 mkM_a1 rfl (rfl) (by omega) (by decide) (fh_d d_Mo_walk 25 rfl) ?_
            refine lv_bipush (v := 9) hx hb (fh_d d_Mo_walk 26 rfl) (by decide) ?_
            refine lv_icmp_ne (tgt := 108) hx hb (fh_d d_Mo_walk 27 rfl) rfl (fun c40 => absurd c40 (Classical.not_not.mpr (kd9))) (fun c40 => ?_)
            refine lv_aload_n hx hb (fh_d d_Mo_walk 28 rfl) rfl (lv_at hl 3 rfl) ?_
            refine fh_get (own := "FormulaSetterModel") (ref := "FormulaSetterModel") (C := "FormulaSetterModel") (T := T_Mo) (N := 53) (v := .ref (x + 41)) hx hb hT i_Mo hown hK hP mkM_o rfl 47 (by decide) (hT _ w907) (fun _ h9 => h9) rfl (fh_d d_Mo_walk 29 rfl) ?_
            refine lv_iload_n hx hb (fh_d d_Mo_walk 30 rfl) rfl (lv_at hl 2 rfl) ?_
            refine lv_aload_n hx hb (fh_d d_Mo_walk 31 rfl) rfl (lv_at hl 3 rfl) ?_
            refine fh_get (own := "FormulaSetterModel") (ref := "FormulaSetterModel") (C := "FormulaSetterModel") (T := T_Mo) (N := 53) (v := .ref (x + 41)) hx hb hT i_Mo hown hK hP mkM_o rfl 47 (by decide) (hT _ w907) (fun _ h9 => h9) rfl (fh_d d_Mo_walk 32 rfl) ?_
            refine lv_iload_n hx hb (fh_d d_Mo_walk 33 rfl) rfl (lv_at hl 2 rfl) ?_
            refine fn_iald (f := A 40) (k := T) hx hb hK hP 0 mkM_a40 rfl (nI_pred T) (by omega) (by decide) (fh_d d_Mo_walk 34 rfl) ?_
            rw [show ((A 40) T) = nI cu from h40]
            refine lv_if_ne (tgt := 68) hx hb (fh_d d_Mo_walk 35 rfl) rfl (fun c41 => ?_) (fun c41 => absurd c41 (fun y => hc0 (nI_z4 hcu y)))
            refine lv_aload_n hx hb (fh_d d_Mo_walk 41 rfl) rfl (lv_at hl 3 rfl) ?_
            refine fh_get (own := "FormulaSetterModel") (ref := "FormulaSetterModel") (C := "FormulaSetterModel") (T := T_Mo) (N := 53) (v := .ref (x + 8)) hx hb hT i_Mo hown hK hP mkM_o rfl 13 (by decide) (hT _ w873) (fun _ h9 => h9) rfl (fh_d d_Mo_walk 42 rfl) ?_
            refine lv_aload_n hx hb (fh_d d_Mo_walk 43 rfl) rfl (lv_at hl 3 rfl) ?_
            refine fh_get (own := "FormulaSetterModel") (ref := "FormulaSetterModel") (C := "FormulaSetterModel") (T := T_Mo) (N := 53) (v := .ref (x + 41)) hx hb hT i_Mo hown hK hP mkM_o rfl 47 (by decide) (hT _ w907) (fun _ h9 => h9) rfl (fh_d d_Mo_walk 44 rfl) ?_
            refine lv_iload_n hx hb (fh_d d_Mo_walk 45 rfl) rfl (lv_at hl 2 rfl) ?_
            refine fn_iald (f := A 40) (k := T) hx hb hK hP 0 mkM_a40 rfl (nI_pred T) (by omega) (by decide) (fh_d d_Mo_walk 46 rfl) ?_
            rw [show ((A 40) T) = nI cu from h40]
            refine fn_iald (f := A 7) (k := cu) hx hb hK hP 0 mkM_a7 rfl (rfl) (by omega) (by decide) (fh_d d_Mo_walk 47 rfl) ?_
            rw [show ((A 7) cu) = nI nx from hnx.2]
            refine fn_iast (f := A 40) (k := T) hx hb hK hP hS 0 mkM_a40 rfl (nI_pred T) (by omega) (by decide) (fh_d d_Mo_walk 48 rfl) (fun H locs hP hS => ?_)
            replace hP := fh_P.eq (h' := mkM ct x g (up2 A 40 (upd (A 40) T (nI nx))) th co at_ wr no nu (nI (T + 1)) (nI P) wi he de) hP mkM_u40
            refine lv_aload_n hx hb (fh_d d_Mo_walk 49 rfl) rfl (lv_at hl 3 rfl) ?_
            refine fh_get (own := "FormulaSetterModel") (ref := "FormulaSetterModel") (C := "FormulaSetterModel") (T := T_Mo) (N := 53) (v := .ref (x + 41)) hx hb hT i_Mo hown hK hP mkM_o rfl 47 (by decide) (hT _ w907) (fun _ h9 => h9) rfl (fh_d d_Mo_walk 50 rfl) ?_
            refine lv_iload_n hx hb (fh_d d_Mo_walk 51 rfl) rfl (lv_at hl 2 rfl) ?_
            refine fn_iald (f := upd (A 40) T (nI nx)) (k := T) hx hb hK hP 0 mkM_a40 rfl (nI_pred T) (by omega) (by decide) (fh_d d_Mo_walk 52 rfl) ?_
            rw [show ((upd (A 40) T (nI nx)) T) = (nI nx) from upd_s]
            refine lv_if_le (tgt := 100) hx hb (fh_d d_Mo_walk 53 rfl) rfl (fun c42 => absurd c42 (nI_np ⟨Nat.pos_of_ne_zero h0_nx, hnx.1⟩)) (fun c42 => ?_)
            refine lv_aload_n hx hb (fh_d d_Mo_walk 54 rfl) rfl (lv_at hl 3 rfl) ?_
            refine lv_aload_n hx hb (fh_d d_Mo_walk 55 rfl) rfl (lv_at hl 3 rfl) ?_
            refine fh_get (own := "FormulaSetterModel") (ref := "FormulaSetterModel") (C := "FormulaSetterModel") (T := T_Mo) (N := 53) (v := .ref (x + 41)) hx hb hT i_Mo hown hK hP mkM_o rfl 47 (by decide) (hT _ w907) (fun _ h9 => h9) rfl (fh_d d_Mo_walk 56 rfl) ?_
            refine lv_iload_n hx hb (fh_d d_Mo_walk 57 rfl) rfl (lv_at hl 2 rfl) ?_
            refine fn_iald (f := upd (A 40) T (nI nx)) (k := T) hx hb hK hP 0 mkM_a40 rfl (nI_pred T) (by omega) (by decide) (fh_d d_Mo_walk 58 rfl) ?_
            rw [show ((upd (A 40) T (nI nx)) T) = (nI nx) from upd_s]
            refine fh_callV (cc' := c_Mo_enter) (nL' := 2) (rest := []) (a := x) (As := [.int (nI nx)]) X hR (m_Mo_enter l D ct b RO (r - 1) n x g (up2 A 40 (upd (A 40) T (nI nx))) th co at_ wr no nu (nI P) wi he de (nI nx) (T + 1) (by omega)) w1201 w1198 w1200 v58 w9 ⟨by decide, by decide, by show _ = some 1; decide +kernel⟩ (by omega) (by decide) (fh_recv hK hP mkM_o rfl) hP hS hl.1 rfl (by exact Nat.le_of_ble_eq_true rfl) (fh_d d_Mo_walk 59 rfl) ⟨Nat.le_refl _, Nat.le_refl _⟩ (fun v9 h9 n9 H locs hq hP hS => ?_)
            obtain ⟨rfl, u43, u44⟩ := hq
            rw [u43, u44] at hP
            refine W.eq (g2 := F0 m 99 ls []) rfl ?_
            exact fh_vret X hP hS (fh_d d_Mo_walk 60 rfl) ⟨rfl, by unfold rf_wk; rw [if_pos hsp0, if_neg kd0, if_pos kd9, if_neg hc0, if_neg h0_nx], rfl⟩
      · skip
        by_cases h0_o1 : o1 = 0
        · skip
          refine lv_aload_n hx hb (fh_d d_Mo_walk 0 rfl) rfl (lv_at hl 0 rfl) ?_
          refine fh_get (own := "FormulaSetterModel") (ref := "FormulaSetterModel") (C := "FormulaSetterModel") (T := T_Mo) (N := 53) (v := .int (nI (T + 1))) hx hb hT i_Mo hown hK hP mkM_o rfl 22 (by decide) (hT _ w882) (fun _ h9 => h9) rfl (fh_d d_Mo_walk 1 rfl) ?_
          refine lv_iconst (v := 1) hx hb (fh_d d_Mo_walk 2 rfl) (by decide) ?_
          refine lv_isub hx hb (fh_d d_Mo_walk 3 rfl) ?_
          refine lv_istore_n (lv' := [(1, .int ((nI (T + 1)) - 1)), (0, .ref x)]) hx hb (fh_d d_Mo_walk 4 rfl) rfl hl (by decide) rfl (fun ls hl => ?_)
          refine lv_aload_n hx hb (fh_d d_Mo_walk 5 rfl) rfl (lv_at hl 1 rfl) ?_
          refine fh_get (own := "FormulaSetterModel") (ref := "FormulaSetterModel") (C := "FormulaSetterModel") (T := T_Mo) (N := 53) (v := .ref (x + 18)) hx hb hT i_Mo hown hK hP mkM_o rfl 24 (by decide) (hT _ w884) (fun _ h9 => h9) rfl (fh_d d_Mo_walk 6 rfl) ?_
          refine lv_iload_n hx hb (fh_d d_Mo_walk 7 rfl) rfl (lv_at hl 0 rfl) ?_
          refine fn_iald (f := A 17) (k := T) hx hb hK hP 0 mkM_a17 rfl (nI_pred T) (by omega) (by decide) (fh_d d_Mo_walk 8 rfl) ?_
          rw [show ((A 17) T) = nI n0 from h17]
          refine lv_istore_n (lv' := [(2, .int (nI n0)), (1, .int ((nI (T + 1)) - 1)), (0, .ref x)]) hx hb (fh_d d_Mo_walk 9 rfl) rfl hl (by decide) rfl (fun ls hl => ?_)
          refine lv_aload_n hx hb (fh_d d_Mo_walk 10 rfl) rfl (lv_at hl 2 rfl) ?_
          refine fh_get (own := "FormulaSetterModel") (ref := "FormulaSetterModel") (C := "FormulaSetterModel") (T := T_Mo) (N := 53) (v := .ref (x + 40)) hx hb hT i_Mo hown hK hP mkM_o rfl 46 (by decide) (hT _ w906) (fun _ h9 => h9) rfl (fh_d d_Mo_walk 11 rfl) ?_
          refine lv_iload_n hx hb (fh_d d_Mo_walk 12 rfl) rfl (lv_at hl 1 rfl) ?_
          refine fn_iald (f := A 39) (k := T) hx hb hK hP 0 mkM_a39 rfl (nI_pred T) (by omega) (by decide) (fh_d d_Mo_walk 13 rfl) ?_
          rw [show ((A 39) T) = 0 from h39.trans (by rw [hsp0]; rfl)]
          refine lv_istore_n (lv' := [(3, .int 0), (2, .int (nI n0)), (1, .int ((nI (T + 1)) - 1)), (0, .ref x)]) hx hb (fh_d d_Mo_walk 14 rfl) rfl hl (by decide) rfl (fun ls hl => ?_)
          refine lv_iload_n hx hb (fh_d d_Mo_walk 15 rfl) rfl (lv_at hl 0 rfl) ?_
          refine lv_if_ne (tgt := 108) hx hb (fh_d d_Mo_walk 16 rfl) rfl (fun c45 => absurd c45 (Classical.not_not.mpr (by decide))) (fun c45 => ?_)
          refine lv_aload_n hx hb (fh_d d_Mo_walk 17 rfl) rfl (lv_at hl 3 rfl) ?_
          refine fh_get (own := "FormulaSetterModel") (ref := "FormulaSetterModel") (C := "FormulaSetterModel") (T := T_Mo) (N := 53) (v := .ref (x + 2)) hx hb hT i_Mo hown hK hP mkM_o rfl 7 (by decide) (hT _ w867) (fun _ h9 => h9) rfl (fh_d d_Mo_walk 18 rfl) ?_
          refine lv_iload_n hx hb (fh_d d_Mo_walk 19 rfl) rfl (lv_at hl 1 rfl) ?_
          refine fn_iald (f := A 1) (k := n0) hx hb hK hP 0 mkM_a1 rfl (rfl) (by omega) (by decide) (fh_d d_Mo_walk 20 rfl) ?_
          refine lv_if_eq (tgt := 45) hx hb (fh_d d_Mo_walk 21 rfl) rfl (fun c46 => absurd c46 (kd0)) (fun c46 => ?_)
          refine lv_aload_n hx hb (fh_d d_Mo_walk 22 rfl) rfl (lv_at hl 3 rfl) ?_
          refine fh_get (own := "FormulaSetterModel") (ref := "FormulaSetterModel") (C := "FormulaSetterModel") (T := T_Mo) (N := 53) (v := .ref (x + 2)) hx hb hT i_Mo hown hK hP mkM_o rfl 7 (by decide) (hT _ w867) (fun _ h9 => h9) rfl (fh_d d_Mo_walk 23 rfl) ?_
          refine lv_iload_n hx hb (fh_d d_Mo_walk 24 rfl) rfl (lv_at hl 1 rfl) ?_
          refine fn_iald (f := A 1) (k := n0) hx hb hK hP 0 mkM_a1 rfl (rfl) (by omega) (by decide) (fh_d d_Mo_walk 25 rfl) ?_
          refine lv_bipush (v := 9) hx hb (fh_d d_Mo_walk 26 rfl) (by decide) ?_
          refine lv_icmp_ne (tgt := 108) hx hb (fh_d d_Mo_walk 27 rfl) rfl (fun c47 => ?_) (fun c47 => absurd c47 (kd9))
          refine lv_aload_n hx hb (fh_d d_Mo_walk 67 rfl) rfl (lv_at hl 3 rfl) ?_
          refine fh_get (own := "FormulaSetterModel") (ref := "FormulaSetterModel") (C := "FormulaSetterModel") (T := T_Mo) (N := 53) (v := .ref (x + 40)) hx hb hT i_Mo hown hK hP mkM_o rfl 46 (by decide) (hT _ w906) (fun _ h9 => h9) rfl (fh_d d_Mo_walk 68 rfl) ?_
          refine lv_iload_n hx hb (fh_d d_Mo_walk 69 rfl) rfl (lv_at hl 2 rfl) ?_
          refine lv_dup2_11 hx hb (fh_d d_Mo_walk 70 rfl) rfl rfl ?_
          refine fn_iald (f := A 39) (k := T) hx hb hK hP 0 mkM_a39 rfl (nI_pred T) (by omega) (by decide) (fh_d d_Mo_walk 71 rfl) ?_
          rw [show ((A 39) T) = 0 from h39.trans (by rw [hsp0]; rfl)]
          refine lv_iconst (v := 1) hx hb (fh_d d_Mo_walk 72 rfl) (by decide) ?_
          refine lv_iadd hx hb (fh_d d_Mo_walk 73 rfl) ?_
          refine fn_iast (f := A 39) (k := T) hx hb hK hP hS 0 mkM_a39 rfl (nI_pred T) (by omega) (by decide) (fh_d d_Mo_walk 74 rfl) (fun H locs hP hS => ?_)
          replace hP := fh_P.eq (h' := mkM ct x g (up2 A 39 (upd (A 39) T (0 + 1))) th co at_ wr no nu (nI (T + 1)) (nI P) wi he de) hP mkM_u39
          refine lv_iload_n hx hb (fh_d d_Mo_walk 75 rfl) rfl (lv_at hl 0 rfl) ?_
          refine lv_if_ne (tgt := 131) hx hb (fh_d d_Mo_walk 76 rfl) rfl (fun c48 => absurd c48 (Classical.not_not.mpr (by decide))) (fun c48 => ?_)
          refine lv_aload_n hx hb (fh_d d_Mo_walk 77 rfl) rfl (lv_at hl 3 rfl) ?_
          refine fh_get (own := "FormulaSetterModel") (ref := "FormulaSetterModel") (C := "FormulaSetterModel") (T := T_Mo) (N := 53) (v := .ref (x + 11)) hx hb hT i_Mo hown hK hP mkM_o rfl 16 (by decide) (hT _ w876) (fun _ h9 => h9) rfl (fh_d d_Mo_walk 78 rfl) ?_
          refine lv_iload_n hx hb (fh_d d_Mo_walk 79 rfl) rfl (lv_at hl 1 rfl) ?_
          refine fn_iald (f := A 10) (k := n0) hx hb hK hP 0 mkM_a10 rfl (rfl) (by omega) (by decide) (fh_d d_Mo_walk 80 rfl) ?_
          rw [show ((A 10) n0) = nI o1 from ho1.2]
          refine lv_goto (tgt := 174) hx hb (fh_d d_Mo_walk 81 rfl) rfl ?_
          refine lv_istore (lv' := [(4, .int (nI o1)), (3, .int 0), (2, .int (nI n0)), (1, .int ((nI (T + 1)) - 1)), (0, .ref x)]) hx hb (fh_d d_Mo_walk 107 rfl) hl (by decide) rfl (fun ls hl => ?_)
          refine lv_iload_n hx hb (fh_d d_Mo_walk 108 rfl) rfl (lv_at hl 1 rfl) ?_
          refine lv_if_ne (tgt := 188) hx hb (fh_d d_Mo_walk 109 rfl) rfl (fun c49 => absurd c49 (Classical.not_not.mpr (by decide))) (fun c49 => ?_)
          refine lv_aload_n hx hb (fh_d d_Mo_walk 110 rfl) rfl (lv_at hl 4 rfl) ?_
          refine lv_iload_n hx hb (fh_d d_Mo_walk 111 rfl) rfl (lv_at hl 2 rfl) ?_
          refine fh_callV (cc' := c_Mo_sayBefore) (nL' := 6) (rest := []) (a := x) (As := [.int (nI n0)]) X hR (m_Mo_sayBefore l D ct b RO hR (r - 1) (by omega) n x g (up2 A 39 (upd (A 39) T (0 + 1))) th co at_ wr no nu (nI (T + 1)) wi he de n0 hn0 s0 hs0 h20 P hP9) w1209 w1206 w1208 v60 w9 ⟨by decide, by decide, by show _ = some 1; decide +kernel⟩ (by omega) (by decide) (fh_recv hK hP mkM_o rfl) hP hS hl.1 rfl (by exact Nat.le_of_ble_eq_true rfl) (fh_d d_Mo_walk 112 rfl) ⟨Nat.le_refl _, Nat.le_refl _⟩ (fun v9 h9 n9 H locs hq hP hS => ?_)
          obtain ⟨rfl, u50, u51⟩ := hq
          rw [u50, u51] at hP
          refine W.eq (g2 := F0 m 185 ls []) rfl ?_
          refine lv_goto (tgt := 198) hx hb (fh_d d_Mo_walk 113 rfl) rfl ?_
          refine lv_iload_n hx hb (fh_d d_Mo_walk 120 rfl) rfl (lv_at hl 1 rfl) ?_
          refine lv_iconst (v := 4) hx hb (fh_d d_Mo_walk 121 rfl) (by decide) ?_
          refine lv_icmp_ne (tgt := 216) hx hb (fh_d d_Mo_walk 122 rfl) rfl (fun c52 => ?_) (fun c52 => absurd c52 (by decide))
          refine lv_iload hx hb (fh_d d_Mo_walk 130 rfl) (lv_at hl 0 rfl) ?_
          refine lv_if_le (tgt := 227) hx hb (fh_d d_Mo_walk 131 rfl) rfl (fun c53 => ?_) (fun c53 => absurd c53 (fun z => z (by rw [h0_o1]; decide)))
          exact fh_vret X hP hS (fh_d d_Mo_walk 135 rfl) ⟨rfl, by unfold rf_wk; rw [if_pos hsp0, if_neg kd0, if_neg kd9, if_pos h0_o1], rfl⟩
        · skip
          refine lv_aload_n hx hb (fh_d d_Mo_walk 0 rfl) rfl (lv_at hl 0 rfl) ?_
          refine fh_get (own := "FormulaSetterModel") (ref := "FormulaSetterModel") (C := "FormulaSetterModel") (T := T_Mo) (N := 53) (v := .int (nI (T + 1))) hx hb hT i_Mo hown hK hP mkM_o rfl 22 (by decide) (hT _ w882) (fun _ h9 => h9) rfl (fh_d d_Mo_walk 1 rfl) ?_
          refine lv_iconst (v := 1) hx hb (fh_d d_Mo_walk 2 rfl) (by decide) ?_
          refine lv_isub hx hb (fh_d d_Mo_walk 3 rfl) ?_
          refine lv_istore_n (lv' := [(1, .int ((nI (T + 1)) - 1)), (0, .ref x)]) hx hb (fh_d d_Mo_walk 4 rfl) rfl hl (by decide) rfl (fun ls hl => ?_)
          refine lv_aload_n hx hb (fh_d d_Mo_walk 5 rfl) rfl (lv_at hl 1 rfl) ?_
          refine fh_get (own := "FormulaSetterModel") (ref := "FormulaSetterModel") (C := "FormulaSetterModel") (T := T_Mo) (N := 53) (v := .ref (x + 18)) hx hb hT i_Mo hown hK hP mkM_o rfl 24 (by decide) (hT _ w884) (fun _ h9 => h9) rfl (fh_d d_Mo_walk 6 rfl) ?_
          refine lv_iload_n hx hb (fh_d d_Mo_walk 7 rfl) rfl (lv_at hl 0 rfl) ?_
          refine fn_iald (f := A 17) (k := T) hx hb hK hP 0 mkM_a17 rfl (nI_pred T) (by omega) (by decide) (fh_d d_Mo_walk 8 rfl) ?_
          rw [show ((A 17) T) = nI n0 from h17]
          refine lv_istore_n (lv' := [(2, .int (nI n0)), (1, .int ((nI (T + 1)) - 1)), (0, .ref x)]) hx hb (fh_d d_Mo_walk 9 rfl) rfl hl (by decide) rfl (fun ls hl => ?_)
          refine lv_aload_n hx hb (fh_d d_Mo_walk 10 rfl) rfl (lv_at hl 2 rfl) ?_
          refine fh_get (own := "FormulaSetterModel") (ref := "FormulaSetterModel") (C := "FormulaSetterModel") (T := T_Mo) (N := 53) (v := .ref (x + 40)) hx hb hT i_Mo hown hK hP mkM_o rfl 46 (by decide) (hT _ w906) (fun _ h9 => h9) rfl (fh_d d_Mo_walk 11 rfl) ?_
          refine lv_iload_n hx hb (fh_d d_Mo_walk 12 rfl) rfl (lv_at hl 1 rfl) ?_
          refine fn_iald (f := A 39) (k := T) hx hb hK hP 0 mkM_a39 rfl (nI_pred T) (by omega) (by decide) (fh_d d_Mo_walk 13 rfl) ?_
          rw [show ((A 39) T) = 0 from h39.trans (by rw [hsp0]; rfl)]
          refine lv_istore_n (lv' := [(3, .int 0), (2, .int (nI n0)), (1, .int ((nI (T + 1)) - 1)), (0, .ref x)]) hx hb (fh_d d_Mo_walk 14 rfl) rfl hl (by decide) rfl (fun ls hl => ?_)
          refine lv_iload_n hx hb (fh_d d_Mo_walk 15 rfl) rfl (lv_at hl 0 rfl) ?_
          refine lv_if_ne (tgt := 108) hx hb (fh_d d_Mo_walk 16 rfl) rfl (fun c54 => absurd c54 (Classical.not_not.mpr (by decide))) (fun c54 => ?_)
          refine lv_aload_n hx hb (fh_d d_Mo_walk 17 rfl) rfl (lv_at hl 3 rfl) ?_
          refine fh_get (own := "FormulaSetterModel") (ref := "FormulaSetterModel") (C := "FormulaSetterModel") (T := T_Mo) (N := 53) (v := .ref (x + 2)) hx hb hT i_Mo hown hK hP mkM_o rfl 7 (by decide) (hT _ w867) (fun _ h9 => h9) rfl (fh_d d_Mo_walk 18 rfl) ?_
          refine lv_iload_n hx hb (fh_d d_Mo_walk 19 rfl) rfl (lv_at hl 1 rfl) ?_
          refine fn_iald (f := A 1) (k := n0) hx hb hK hP 0 mkM_a1 rfl (rfl) (by omega) (by decide) (fh_d d_Mo_walk 20 rfl) ?_
          refine lv_if_eq (tgt := 45) hx hb (fh_d d_Mo_walk 21 rfl) rfl (fun c55 => absurd c55 (kd0)) (fun c55 => ?_)
          refine lv_aload_n hx hb (fh_d d_Mo_walk 22 rfl) rfl (lv_at hl 3 rfl) ?_
          refine fh_get (own := "FormulaSetterModel") (ref := "FormulaSetterModel") (C := "FormulaSetterModel") (T := T_Mo) (N := 53) (v := .ref (x + 2)) hx hb hT i_Mo hown hK hP mkM_o rfl 7 (by decide) (hT _ w867) (fun _ h9 => h9) rfl (fh_d d_Mo_walk 23 rfl) ?_
          refine lv_iload_n hx hb (fh_d d_Mo_walk 24 rfl) rfl (lv_at hl 1 rfl) ?_
          refine fn_iald (f := A 1) (k := n0) hx hb hK hP 0 mkM_a1 rfl (rfl) (by omega) (by decide) (fh_d d_Mo_walk 25 rfl) ?_
          refine lv_bipush (v := 9) hx hb (fh_d d_Mo_walk 26 rfl) (by decide) ?_
          refine lv_icmp_ne (tgt := 108) hx hb (fh_d d_Mo_walk 27 rfl) rfl (fun c56 => ?_) (fun c56 => absurd c56 (kd9))
          refine lv_aload_n hx hb (fh_d d_Mo_walk 67 rfl) rfl (lv_at hl 3 rfl) ?_
          refine fh_get (own := "FormulaSetterModel") (ref := "FormulaSetterModel") (C := "FormulaSetterModel") (T := T_Mo) (N := 53) (v := .ref (x + 40)) hx hb hT i_Mo hown hK hP mkM_o rfl 46 (by decide) (hT _ w906) (fun _ h9 => h9) rfl (fh_d d_Mo_walk 68 rfl) ?_
          refine lv_iload_n hx hb (fh_d d_Mo_walk 69 rfl) rfl (lv_at hl 2 rfl) ?_
          refine lv_dup2_11 hx hb (fh_d d_Mo_walk 70 rfl) rfl rfl ?_
          refine fn_iald (f := A 39) (k := T) hx hb hK hP 0 mkM_a39 rfl (nI_pred T) (by omega) (by decide) (fh_d d_Mo_walk 71 rfl) ?_
          rw [show ((A 39) T) = 0 from h39.trans (by rw [hsp0]; rfl)]
          refine lv_iconst (v := 1) hx hb (fh_d d_Mo_walk 72 rfl) (by decide) ?_
          refine lv_iadd hx hb (fh_d d_Mo_walk 73 rfl) ?_
          refine fn_iast (f := A 39) (k := T) hx hb hK hP hS 0 mkM_a39 rfl (nI_pred T) (by omega) (by decide) (fh_d d_Mo_walk 74 rfl) (fun H locs hP hS => ?_)
          replace hP := fh_P.eq (h' := mkM ct x g (up2 A 39 (upd (A 39) T (0 + 1))) th co at_ wr no nu (nI (T + 1)) (nI P) wi he de) hP mkM_u39
          refine lv_iload_n hx hb (fh_d d_Mo_walk 75 rfl) rfl (lv_at hl 0 rfl) ?_
          refine lv_if_ne (tgt := 131) hx hb (fh_d d_Mo_walk 76 rfl) rfl (fun c57 => absurd c57 (Classical.not_not.mpr (by decide))) (fun c57 => ?_)
          refine lv_aload_n hx hb (fh_d d_Mo_walk 77 rfl) rfl (lv_at hl 3 rfl) ?_
          refine fh_get (own := "FormulaSetterModel") (ref := "FormulaSetterModel") (C := "FormulaSetterModel") (T := T_Mo) (N := 53) (v := .ref (x + 11)) hx hb hT i_Mo hown hK hP mkM_o rfl 16 (by decide) (hT _ w876) (fun _ h9 => h9) rfl (fh_d d_Mo_walk 78 rfl) ?_
          refine lv_iload_n hx hb (fh_d d_Mo_walk 79 rfl) rfl (lv_at hl 1 rfl) ?_
          refine fn_iald (f := A 10) (k := n0) hx hb hK hP 0 mkM_a10 rfl (rfl) (by omega) (by decide) (fh_d d_Mo_walk 80 rfl) ?_
          rw [show ((A 10) n0) = nI o1 from ho1.2]
          refine lv_goto (tgt := 174) hx hb (fh_d d_Mo_walk 81 rfl) rfl ?_
          refine lv_istore (lv' := [(4, .int (nI o1)), (3, .int 0), (2, .int (nI n0)), (1, .int ((nI (T + 1)) - 1)), (0, .ref x)]) hx hb (fh_d d_Mo_walk 107 rfl) hl (by decide) rfl (fun ls hl => ?_)
          refine lv_iload_n hx hb (fh_d d_Mo_walk 108 rfl) rfl (lv_at hl 1 rfl) ?_
          refine lv_if_ne (tgt := 188) hx hb (fh_d d_Mo_walk 109 rfl) rfl (fun c58 => absurd c58 (Classical.not_not.mpr (by decide))) (fun c58 => ?_)
          refine lv_aload_n hx hb (fh_d d_Mo_walk 110 rfl) rfl (lv_at hl 4 rfl) ?_
          refine lv_iload_n hx hb (fh_d d_Mo_walk 111 rfl) rfl (lv_at hl 2 rfl) ?_
          refine fh_callV (cc' := c_Mo_sayBefore) (nL' := 6) (rest := []) (a := x) (As := [.int (nI n0)]) X hR (m_Mo_sayBefore l D ct b RO hR (r - 1) (by omega) n x g (up2 A 39 (upd (A 39) T (0 + 1))) th co at_ wr no nu (nI (T + 1)) wi he de n0 hn0 s0 hs0 h20 P hP9) w1209 w1206 w1208 v60 w9 ⟨by decide, by decide, by show _ = some 1; decide +kernel⟩ (by omega) (by decide) (fh_recv hK hP mkM_o rfl) hP hS hl.1 rfl (by exact Nat.le_of_ble_eq_true rfl) (fh_d d_Mo_walk 112 rfl) ⟨Nat.le_refl _, Nat.le_refl _⟩ (fun v9 h9 n9 H locs hq hP hS => ?_)
          obtain ⟨rfl, u59, u60⟩ := hq
          rw [u59, u60] at hP
          refine W.eq (g2 := F0 m 185 ls []) rfl ?_
          refine lv_goto (tgt := 198) hx hb (fh_d d_Mo_walk 113 rfl) rfl ?_
          refine lv_iload_n hx hb (fh_d d_Mo_walk 120 rfl) rfl (lv_at hl 1 rfl) ?_
          refine lv_iconst (v := 4) hx hb (fh_d d_Mo_walk 121 rfl) (by decide) ?_
          refine lv_icmp_ne (tgt := 216) hx hb (fh_d d_Mo_walk 122 rfl) rfl (fun c61 => ?_) (fun c61 => absurd c61 (by decide))
          refine lv_iload hx hb (fh_d d_Mo_walk 130 rfl) (lv_at hl 0 rfl) ?_
          refine lv_if_le (tgt := 227) hx hb (fh_d d_Mo_walk 131 rfl) rfl (fun c62 => absurd c62 (nI_np ⟨Nat.pos_of_ne_zero h0_o1, ho1.1⟩)) (fun c62 => ?_)
          refine lv_aload_n hx hb (fh_d d_Mo_walk 132 rfl) rfl (lv_at hl 4 rfl) ?_
          refine lv_iload hx hb (fh_d d_Mo_walk 133 rfl) (lv_at hl 0 rfl) ?_
          refine fh_callV (cc' := c_Mo_enter) (nL' := 2) (rest := []) (a := x) (As := [.int (nI o1)]) X hR (m_Mo_enter l D ct b RO (r - 1) n x g ((rf_sb (up2 A 39 (upd (A 39) T (0 + 1))) n0 s0 P).1) th co at_ wr no nu (nI (rf_sb (up2 A 39 (upd (A 39) T (0 + 1))) n0 s0 P).2) wi he de (nI o1) (T + 1) (by omega)) w1201 w1198 w1200 v58 w9 ⟨by decide, by decide, by show _ = some 1; decide +kernel⟩ (by omega) (by decide) (fh_recv hK hP mkM_o rfl) hP hS hl.1 rfl (by exact Nat.le_of_ble_eq_true rfl) (fh_d d_Mo_walk 134 rfl) ⟨Nat.le_refl _, Nat.le_refl _⟩ (fun v9 h9 n9 H locs hq hP hS => ?_)
          obtain ⟨rfl, u63, u64⟩ := hq
          rw [u63, u64] at hP
          refine W.eq (g2 := F0 m 227 ls []) rfl ?_
          exact fh_vret X hP hS (fh_d d_Mo_walk 135 rfl) ⟨rfl, by unfold rf_wk; rw [if_pos hsp0, if_neg kd0, if_neg kd9, if_neg h0_o1], rfl⟩
  · skip
    by_cases hsp1 : sp = 1
    · skip
      by_cases h0_t2 : t2 = 0
      · skip
        refine lv_aload_n hx hb (fh_d d_Mo_walk 0 rfl) rfl (lv_at hl 0 rfl) ?_
        refine fh_get (own := "FormulaSetterModel") (ref := "FormulaSetterModel") (C := "FormulaSetterModel") (T := T_Mo) (N := 53) (v := .int (nI (T + 1))) hx hb hT i_Mo hown hK hP mkM_o rfl 22 (by decide) (hT _ w882) (fun _ h9 => h9) rfl (fh_d d_Mo_walk 1 rfl) ?_
        refine lv_iconst (v := 1) hx hb (fh_d d_Mo_walk 2 rfl) (by decide) ?_
        refine lv_isub hx hb (fh_d d_Mo_walk 3 rfl) ?_
        refine lv_istore_n (lv' := [(1, .int ((nI (T + 1)) - 1)), (0, .ref x)]) hx hb (fh_d d_Mo_walk 4 rfl) rfl hl (by decide) rfl (fun ls hl => ?_)
        refine lv_aload_n hx hb (fh_d d_Mo_walk 5 rfl) rfl (lv_at hl 1 rfl) ?_
        refine fh_get (own := "FormulaSetterModel") (ref := "FormulaSetterModel") (C := "FormulaSetterModel") (T := T_Mo) (N := 53) (v := .ref (x + 18)) hx hb hT i_Mo hown hK hP mkM_o rfl 24 (by decide) (hT _ w884) (fun _ h9 => h9) rfl (fh_d d_Mo_walk 6 rfl) ?_
        refine lv_iload_n hx hb (fh_d d_Mo_walk 7 rfl) rfl (lv_at hl 0 rfl) ?_
        refine fn_iald (f := A 17) (k := T) hx hb hK hP 0 mkM_a17 rfl (nI_pred T) (by omega) (by decide) (fh_d d_Mo_walk 8 rfl) ?_
        rw [show ((A 17) T) = nI n0 from h17]
        refine lv_istore_n (lv' := [(2, .int (nI n0)), (1, .int ((nI (T + 1)) - 1)), (0, .ref x)]) hx hb (fh_d d_Mo_walk 9 rfl) rfl hl (by decide) rfl (fun ls hl => ?_)
        refine lv_aload_n hx hb (fh_d d_Mo_walk 10 rfl) rfl (lv_at hl 2 rfl) ?_
        refine fh_get (own := "FormulaSetterModel") (ref := "FormulaSetterModel") (C := "FormulaSetterModel") (T := T_Mo) (N := 53) (v := .ref (x + 40)) hx hb hT i_Mo hown hK hP mkM_o rfl 46 (by decide) (hT _ w906) (fun _ h9 => h9) rfl (fh_d d_Mo_walk 11 rfl) ?_
        refine lv_iload_n hx hb (fh_d d_Mo_walk 12 rfl) rfl (lv_at hl 1 rfl) ?_
        refine fn_iald (f := A 39) (k := T) hx hb hK hP 0 mkM_a39 rfl (nI_pred T) (by omega) (by decide) (fh_d d_Mo_walk 13 rfl) ?_
        rw [show ((A 39) T) = 1 from h39.trans (by rw [hsp1]; rfl)]
        refine lv_istore_n (lv' := [(3, .int 1), (2, .int (nI n0)), (1, .int ((nI (T + 1)) - 1)), (0, .ref x)]) hx hb (fh_d d_Mo_walk 14 rfl) rfl hl (by decide) rfl (fun ls hl => ?_)
        refine lv_iload_n hx hb (fh_d d_Mo_walk 15 rfl) rfl (lv_at hl 0 rfl) ?_
        refine lv_if_ne (tgt := 108) hx hb (fh_d d_Mo_walk 16 rfl) rfl (fun c65 => ?_) (fun c65 => absurd c65 (by decide))
        refine lv_aload_n hx hb (fh_d d_Mo_walk 67 rfl) rfl (lv_at hl 3 rfl) ?_
        refine fh_get (own := "FormulaSetterModel") (ref := "FormulaSetterModel") (C := "FormulaSetterModel") (T := T_Mo) (N := 53) (v := .ref (x + 40)) hx hb hT i_Mo hown hK hP mkM_o rfl 46 (by decide) (hT _ w906) (fun _ h9 => h9) rfl (fh_d d_Mo_walk 68 rfl) ?_
        refine lv_iload_n hx hb (fh_d d_Mo_walk 69 rfl) rfl (lv_at hl 2 rfl) ?_
        refine lv_dup2_11 hx hb (fh_d d_Mo_walk 70 rfl) rfl rfl ?_
        refine fn_iald (f := A 39) (k := T) hx hb hK hP 0 mkM_a39 rfl (nI_pred T) (by omega) (by decide) (fh_d d_Mo_walk 71 rfl) ?_
        rw [show ((A 39) T) = 1 from h39.trans (by rw [hsp1]; rfl)]
        refine lv_iconst (v := 1) hx hb (fh_d d_Mo_walk 72 rfl) (by decide) ?_
        refine lv_iadd hx hb (fh_d d_Mo_walk 73 rfl) ?_
        refine fn_iast (f := A 39) (k := T) hx hb hK hP hS 0 mkM_a39 rfl (nI_pred T) (by omega) (by decide) (fh_d d_Mo_walk 74 rfl) (fun H locs hP hS => ?_)
        replace hP := fh_P.eq (h' := mkM ct x g (up2 A 39 (upd (A 39) T (1 + 1))) th co at_ wr no nu (nI (T + 1)) (nI P) wi he de) hP mkM_u39
        refine lv_iload_n hx hb (fh_d d_Mo_walk 75 rfl) rfl (lv_at hl 0 rfl) ?_
        refine lv_if_ne (tgt := 131) hx hb (fh_d d_Mo_walk 76 rfl) rfl (fun c66 => ?_) (fun c66 => absurd c66 (by decide))
        refine lv_iload_n hx hb (fh_d d_Mo_walk 82 rfl) rfl (lv_at hl 0 rfl) ?_
        refine lv_iconst (v := 1) hx hb (fh_d d_Mo_walk 83 rfl) (by decide) ?_
        refine lv_icmp_ne (tgt := 145) hx hb (fh_d d_Mo_walk 84 rfl) rfl (fun c67 => absurd c67 (Classical.not_not.mpr (by decide))) (fun c67 => ?_)
        refine lv_aload_n hx hb (fh_d d_Mo_walk 85 rfl) rfl (lv_at hl 3 rfl) ?_
        refine fh_get (own := "FormulaSetterModel") (ref := "FormulaSetterModel") (C := "FormulaSetterModel") (T := T_Mo) (N := 53) (v := .ref (x + 12)) hx hb hT i_Mo hown hK hP mkM_o rfl 17 (by decide) (hT _ w877) (fun _ h9 => h9) rfl (fh_d d_Mo_walk 86 rfl) ?_
        refine lv_iload_n hx hb (fh_d d_Mo_walk 87 rfl) rfl (lv_at hl 1 rfl) ?_
        refine fn_iald (f := A 11) (k := n0) hx hb hK hP 0 mkM_a11 rfl (rfl) (by omega) (by decide) (fh_d d_Mo_walk 88 rfl) ?_
        rw [show ((A 11) n0) = nI t2 from ht2.2]
        refine lv_goto (tgt := 174) hx hb (fh_d d_Mo_walk 89 rfl) rfl ?_
        refine lv_istore (lv' := [(4, .int (nI t2)), (3, .int 1), (2, .int (nI n0)), (1, .int ((nI (T + 1)) - 1)), (0, .ref x)]) hx hb (fh_d d_Mo_walk 107 rfl) hl (by decide) rfl (fun ls hl => ?_)
        refine lv_iload_n hx hb (fh_d d_Mo_walk 108 rfl) rfl (lv_at hl 1 rfl) ?_
        refine lv_if_ne (tgt := 188) hx hb (fh_d d_Mo_walk 109 rfl) rfl (fun c68 => ?_) (fun c68 => absurd c68 (by decide))
        refine lv_iload_n hx hb (fh_d d_Mo_walk 114 rfl) rfl (lv_at hl 1 rfl) ?_
        refine lv_iconst (v := 1) hx hb (fh_d d_Mo_walk 115 rfl) (by decide) ?_
        refine lv_icmp_ne (tgt := 198) hx hb (fh_d d_Mo_walk 116 rfl) rfl (fun c69 => absurd c69 (Classical.not_not.mpr (by decide))) (fun c69 => ?_)
        refine lv_aload_n hx hb (fh_d d_Mo_walk 117 rfl) rfl (lv_at hl 4 rfl) ?_
        refine lv_iload_n hx hb (fh_d d_Mo_walk 118 rfl) rfl (lv_at hl 2 rfl) ?_
        refine fh_callV (cc' := c_Mo_sayBehind) (nL' := 6) (rest := []) (a := x) (As := [.int (nI n0)]) X hR (m_Mo_sayBehind l D ct b RO hR (r - 1) (by omega) n x g (up2 A 39 (upd (A 39) T (1 + 1))) th co at_ wr no nu (nI (T + 1)) wi he de n0 hn0 s0 hs0 h20 P hP9) w1217 w1214 w1216 v62 w9 ⟨by decide, by decide, by show _ = some 1; decide +kernel⟩ (by omega) (by decide) (fh_recv hK hP mkM_o rfl) hP hS hl.1 rfl (by exact Nat.le_of_ble_eq_true rfl) (fh_d d_Mo_walk 119 rfl) ⟨Nat.le_refl _, Nat.le_refl _⟩ (fun v9 h9 n9 H locs hq hP hS => ?_)
        obtain ⟨rfl, u70, u71⟩ := hq
        rw [u70, u71] at hP
        refine W.eq (g2 := F0 m 198 ls []) rfl ?_
        refine lv_iload_n hx hb (fh_d d_Mo_walk 120 rfl) rfl (lv_at hl 1 rfl) ?_
        refine lv_iconst (v := 4) hx hb (fh_d d_Mo_walk 121 rfl) (by decide) ?_
        refine lv_icmp_ne (tgt := 216) hx hb (fh_d d_Mo_walk 122 rfl) rfl (fun c72 => ?_) (fun c72 => absurd c72 (by decide))
        refine lv_iload hx hb (fh_d d_Mo_walk 130 rfl) (lv_at hl 0 rfl) ?_
        refine lv_if_le (tgt := 227) hx hb (fh_d d_Mo_walk 131 rfl) rfl (fun c73 => ?_) (fun c73 => absurd c73 (fun z => z (by rw [h0_t2]; decide)))
        exact fh_vret X hP hS (fh_d d_Mo_walk 135 rfl) ⟨rfl, by unfold rf_wk; rw [if_neg hsp0, if_pos hsp1, if_pos h0_t2], rfl⟩
      · skip
        refine lv_aload_n hx hb (fh_d d_Mo_walk 0 rfl) rfl (lv_at hl 0 rfl) ?_
        refine fh_get (own := "FormulaSetterModel") (ref := "FormulaSetterModel") (C := "FormulaSetterModel") (T := T_Mo) (N := 53) (v := .int (nI (T + 1))) hx hb hT i_Mo hown hK hP mkM_o rfl 22 (by decide) (hT _ w882) (fun _ h9 => h9) rfl (fh_d d_Mo_walk 1 rfl) ?_
        refine lv_iconst (v := 1) hx hb (fh_d d_Mo_walk 2 rfl) (by decide) ?_
        refine lv_isub hx hb (fh_d d_Mo_walk 3 rfl) ?_
        refine lv_istore_n (lv' := [(1, .int ((nI (T + 1)) - 1)), (0, .ref x)]) hx hb (fh_d d_Mo_walk 4 rfl) rfl hl (by decide) rfl (fun ls hl => ?_)
        refine lv_aload_n hx hb (fh_d d_Mo_walk 5 rfl) rfl (lv_at hl 1 rfl) ?_
        refine fh_get (own := "FormulaSetterModel") (ref := "FormulaSetterModel") (C := "FormulaSetterModel") (T := T_Mo) (N := 53) (v := .ref (x + 18)) hx hb hT i_Mo hown hK hP mkM_o rfl 24 (by decide) (hT _ w884) (fun _ h9 => h9) rfl (fh_d d_Mo_walk 6 rfl) ?_
        refine lv_iload_n hx hb (fh_d d_Mo_walk 7 rfl) rfl (lv_at hl 0 rfl) ?_
        refine fn_iald (f := A 17) (k := T) hx hb hK hP 0 mkM_a17 rfl (nI_pred T) (by omega) (by decide) (fh_d d_Mo_walk 8 rfl) ?_
        rw [show ((A 17) T) = nI n0 from h17]
        refine lv_istore_n (lv' := [(2, .int (nI n0)), (1, .int ((nI (T + 1)) - 1)), (0, .ref x)]) hx hb (fh_d d_Mo_walk 9 rfl) rfl hl (by decide) rfl (fun ls hl => ?_)
        refine lv_aload_n hx hb (fh_d d_Mo_walk 10 rfl) rfl (lv_at hl 2 rfl) ?_
        refine fh_get (own := "FormulaSetterModel") (ref := "FormulaSetterModel") (C := "FormulaSetterModel") (T := T_Mo) (N := 53) (v := .ref (x + 40)) hx hb hT i_Mo hown hK hP mkM_o rfl 46 (by decide) (hT _ w906) (fun _ h9 => h9) rfl (fh_d d_Mo_walk 11 rfl) ?_
        refine lv_iload_n hx hb (fh_d d_Mo_walk 12 rfl) rfl (lv_at hl 1 rfl) ?_
        refine fn_iald (f := A 39) (k := T) hx hb hK hP 0 mkM_a39 rfl (nI_pred T) (by omega) (by decide) (fh_d d_Mo_walk 13 rfl) ?_
        rw [show ((A 39) T) = 1 from h39.trans (by rw [hsp1]; rfl)]
        refine lv_istore_n (lv' := [(3, .int 1), (2, .int (nI n0)), (1, .int ((nI (T + 1)) - 1)), (0, .ref x)]) hx hb (fh_d d_Mo_walk 14 rfl) rfl hl (by decide) rfl (fun ls hl => ?_)
        refine lv_iload_n hx hb (fh_d d_Mo_walk 15 rfl) rfl (lv_at hl 0 rfl) ?_
        refine lv_if_ne (tgt := 108) hx hb (fh_d d_Mo_walk 16 rfl) rfl (fun c74 => ?_) (fun c74 => absurd c74 (by decide))
        refine lv_aload_n hx hb (fh_d d_Mo_walk 67 rfl) rfl (lv_at hl 3 rfl) ?_
        refine fh_get (own := "FormulaSetterModel") (ref := "FormulaSetterModel") (C := "FormulaSetterModel") (T := T_Mo) (N := 53) (v := .ref (x + 40)) hx hb hT i_Mo hown hK hP mkM_o rfl 46 (by decide) (hT _ w906) (fun _ h9 => h9) rfl (fh_d d_Mo_walk 68 rfl) ?_
        refine lv_iload_n hx hb (fh_d d_Mo_walk 69 rfl) rfl (lv_at hl 2 rfl) ?_
        refine lv_dup2_11 hx hb (fh_d d_Mo_walk 70 rfl) rfl rfl ?_
        refine fn_iald (f := A 39) (k := T) hx hb hK hP 0 mkM_a39 rfl (nI_pred T) (by omega) (by decide) (fh_d d_Mo_walk 71 rfl) ?_
        rw [show ((A 39) T) = 1 from h39.trans (by rw [hsp1]; rfl)]
        refine lv_iconst (v := 1) hx hb (fh_d d_Mo_walk 72 rfl) (by decide) ?_
        refine lv_iadd hx hb (fh_d d_Mo_walk 73 rfl) ?_
        refine fn_iast (f := A 39) (k := T) hx hb hK hP hS 0 mkM_a39 rfl (nI_pred T) (by omega) (by decide) (fh_d d_Mo_walk 74 rfl) (fun H locs hP hS => ?_)
        replace hP := fh_P.eq (h' := mkM ct x g (up2 A 39 (upd (A 39) T (1 + 1))) th co at_ wr no nu (nI (T + 1)) (nI P) wi he de) hP mkM_u39
        refine lv_iload_n hx hb (fh_d d_Mo_walk 75 rfl) rfl (lv_at hl 0 rfl) ?_
        refine lv_if_ne (tgt := 131) hx hb (fh_d d_Mo_walk 76 rfl) rfl (fun c75 => ?_) (fun c75 => absurd c75 (by decide))
        refine lv_iload_n hx hb (fh_d d_Mo_walk 82 rfl) rfl (lv_at hl 0 rfl) ?_
        refine lv_iconst (v := 1) hx hb (fh_d d_Mo_walk 83 rfl) (by decide) ?_
        refine lv_icmp_ne (tgt := 145) hx hb (fh_d d_Mo_walk 84 rfl) rfl (fun c76 => absurd c76 (Classical.not_not.mpr (by decide))) (fun c76 => ?_)
        refine lv_aload_n hx hb (fh_d d_Mo_walk 85 rfl) rfl (lv_at hl 3 rfl) ?_
        refine fh_get (own := "FormulaSetterModel") (ref := "FormulaSetterModel") (C := "FormulaSetterModel") (T := T_Mo) (N := 53) (v := .ref (x + 12)) hx hb hT i_Mo hown hK hP mkM_o rfl 17 (by decide) (hT _ w877) (fun _ h9 => h9) rfl (fh_d d_Mo_walk 86 rfl) ?_
        refine lv_iload_n hx hb (fh_d d_Mo_walk 87 rfl) rfl (lv_at hl 1 rfl) ?_
        refine fn_iald (f := A 11) (k := n0) hx hb hK hP 0 mkM_a11 rfl (rfl) (by omega) (by decide) (fh_d d_Mo_walk 88 rfl) ?_
        rw [show ((A 11) n0) = nI t2 from ht2.2]
        refine lv_goto (tgt := 174) hx hb (fh_d d_Mo_walk 89 rfl) rfl ?_
        refine lv_istore (lv' := [(4, .int (nI t2)), (3, .int 1), (2, .int (nI n0)), (1, .int ((nI (T + 1)) - 1)), (0, .ref x)]) hx hb (fh_d d_Mo_walk 107 rfl) hl (by decide) rfl (fun ls hl => ?_)
        refine lv_iload_n hx hb (fh_d d_Mo_walk 108 rfl) rfl (lv_at hl 1 rfl) ?_
        refine lv_if_ne (tgt := 188) hx hb (fh_d d_Mo_walk 109 rfl) rfl (fun c77 => ?_) (fun c77 => absurd c77 (by decide))
        refine lv_iload_n hx hb (fh_d d_Mo_walk 114 rfl) rfl (lv_at hl 1 rfl) ?_
        refine lv_iconst (v := 1) hx hb (fh_d d_Mo_walk 115 rfl) (by decide) ?_
        refine lv_icmp_ne (tgt := 198) hx hb (fh_d d_Mo_walk 116 rfl) rfl (fun c78 => absurd c78 (Classical.not_not.mpr (by decide))) (fun c78 => ?_)
        refine lv_aload_n hx hb (fh_d d_Mo_walk 117 rfl) rfl (lv_at hl 4 rfl) ?_
        refine lv_iload_n hx hb (fh_d d_Mo_walk 118 rfl) rfl (lv_at hl 2 rfl) ?_
        refine fh_callV (cc' := c_Mo_sayBehind) (nL' := 6) (rest := []) (a := x) (As := [.int (nI n0)]) X hR (m_Mo_sayBehind l D ct b RO hR (r - 1) (by omega) n x g (up2 A 39 (upd (A 39) T (1 + 1))) th co at_ wr no nu (nI (T + 1)) wi he de n0 hn0 s0 hs0 h20 P hP9) w1217 w1214 w1216 v62 w9 ⟨by decide, by decide, by show _ = some 1; decide +kernel⟩ (by omega) (by decide) (fh_recv hK hP mkM_o rfl) hP hS hl.1 rfl (by exact Nat.le_of_ble_eq_true rfl) (fh_d d_Mo_walk 119 rfl) ⟨Nat.le_refl _, Nat.le_refl _⟩ (fun v9 h9 n9 H locs hq hP hS => ?_)
        obtain ⟨rfl, u79, u80⟩ := hq
        rw [u79, u80] at hP
        refine W.eq (g2 := F0 m 198 ls []) rfl ?_
        refine lv_iload_n hx hb (fh_d d_Mo_walk 120 rfl) rfl (lv_at hl 1 rfl) ?_
        refine lv_iconst (v := 4) hx hb (fh_d d_Mo_walk 121 rfl) (by decide) ?_
        refine lv_icmp_ne (tgt := 216) hx hb (fh_d d_Mo_walk 122 rfl) rfl (fun c81 => ?_) (fun c81 => absurd c81 (by decide))
        refine lv_iload hx hb (fh_d d_Mo_walk 130 rfl) (lv_at hl 0 rfl) ?_
        refine lv_if_le (tgt := 227) hx hb (fh_d d_Mo_walk 131 rfl) rfl (fun c82 => absurd c82 (nI_np ⟨Nat.pos_of_ne_zero h0_t2, ht2.1⟩)) (fun c82 => ?_)
        refine lv_aload_n hx hb (fh_d d_Mo_walk 132 rfl) rfl (lv_at hl 4 rfl) ?_
        refine lv_iload hx hb (fh_d d_Mo_walk 133 rfl) (lv_at hl 0 rfl) ?_
        refine fh_callV (cc' := c_Mo_enter) (nL' := 2) (rest := []) (a := x) (As := [.int (nI t2)]) X hR (m_Mo_enter l D ct b RO (r - 1) n x g ((rf_sh (up2 A 39 (upd (A 39) T (1 + 1))) n0 s0 P).1) th co at_ wr no nu (nI (rf_sh (up2 A 39 (upd (A 39) T (1 + 1))) n0 s0 P).2) wi he de (nI t2) (T + 1) (by omega)) w1201 w1198 w1200 v58 w9 ⟨by decide, by decide, by show _ = some 1; decide +kernel⟩ (by omega) (by decide) (fh_recv hK hP mkM_o rfl) hP hS hl.1 rfl (by exact Nat.le_of_ble_eq_true rfl) (fh_d d_Mo_walk 134 rfl) ⟨Nat.le_refl _, Nat.le_refl _⟩ (fun v9 h9 n9 H locs hq hP hS => ?_)
        obtain ⟨rfl, u83, u84⟩ := hq
        rw [u83, u84] at hP
        refine W.eq (g2 := F0 m 227 ls []) rfl ?_
        exact fh_vret X hP hS (fh_d d_Mo_walk 135 rfl) ⟨rfl, by unfold rf_wk; rw [if_neg hsp0, if_pos hsp1, if_neg h0_t2], rfl⟩
    · skip
      by_cases hsp2 : sp = 2
      · skip
        by_cases h0_u : u = 0
        · skip
          refine lv_aload_n hx hb (fh_d d_Mo_walk 0 rfl) rfl (lv_at hl 0 rfl) ?_
          refine fh_get (own := "FormulaSetterModel") (ref := "FormulaSetterModel") (C := "FormulaSetterModel") (T := T_Mo) (N := 53) (v := .int (nI (T + 1))) hx hb hT i_Mo hown hK hP mkM_o rfl 22 (by decide) (hT _ w882) (fun _ h9 => h9) rfl (fh_d d_Mo_walk 1 rfl) ?_
          refine lv_iconst (v := 1) hx hb (fh_d d_Mo_walk 2 rfl) (by decide) ?_
          refine lv_isub hx hb (fh_d d_Mo_walk 3 rfl) ?_
          refine lv_istore_n (lv' := [(1, .int ((nI (T + 1)) - 1)), (0, .ref x)]) hx hb (fh_d d_Mo_walk 4 rfl) rfl hl (by decide) rfl (fun ls hl => ?_)
          refine lv_aload_n hx hb (fh_d d_Mo_walk 5 rfl) rfl (lv_at hl 1 rfl) ?_
          refine fh_get (own := "FormulaSetterModel") (ref := "FormulaSetterModel") (C := "FormulaSetterModel") (T := T_Mo) (N := 53) (v := .ref (x + 18)) hx hb hT i_Mo hown hK hP mkM_o rfl 24 (by decide) (hT _ w884) (fun _ h9 => h9) rfl (fh_d d_Mo_walk 6 rfl) ?_
          refine lv_iload_n hx hb (fh_d d_Mo_walk 7 rfl) rfl (lv_at hl 0 rfl) ?_
          refine fn_iald (f := A 17) (k := T) hx hb hK hP 0 mkM_a17 rfl (nI_pred T) (by omega) (by decide) (fh_d d_Mo_walk 8 rfl) ?_
          rw [show ((A 17) T) = nI n0 from h17]
          refine lv_istore_n (lv' := [(2, .int (nI n0)), (1, .int ((nI (T + 1)) - 1)), (0, .ref x)]) hx hb (fh_d d_Mo_walk 9 rfl) rfl hl (by decide) rfl (fun ls hl => ?_)
          refine lv_aload_n hx hb (fh_d d_Mo_walk 10 rfl) rfl (lv_at hl 2 rfl) ?_
          refine fh_get (own := "FormulaSetterModel") (ref := "FormulaSetterModel") (C := "FormulaSetterModel") (T := T_Mo) (N := 53) (v := .ref (x + 40)) hx hb hT i_Mo hown hK hP mkM_o rfl 46 (by decide) (hT _ w906) (fun _ h9 => h9) rfl (fh_d d_Mo_walk 11 rfl) ?_
          refine lv_iload_n hx hb (fh_d d_Mo_walk 12 rfl) rfl (lv_at hl 1 rfl) ?_
          refine fn_iald (f := A 39) (k := T) hx hb hK hP 0 mkM_a39 rfl (nI_pred T) (by omega) (by decide) (fh_d d_Mo_walk 13 rfl) ?_
          rw [show ((A 39) T) = 2 from h39.trans (by rw [hsp2]; rfl)]
          refine lv_istore_n (lv' := [(3, .int 2), (2, .int (nI n0)), (1, .int ((nI (T + 1)) - 1)), (0, .ref x)]) hx hb (fh_d d_Mo_walk 14 rfl) rfl hl (by decide) rfl (fun ls hl => ?_)
          refine lv_iload_n hx hb (fh_d d_Mo_walk 15 rfl) rfl (lv_at hl 0 rfl) ?_
          refine lv_if_ne (tgt := 108) hx hb (fh_d d_Mo_walk 16 rfl) rfl (fun c85 => ?_) (fun c85 => absurd c85 (by decide))
          refine lv_aload_n hx hb (fh_d d_Mo_walk 67 rfl) rfl (lv_at hl 3 rfl) ?_
          refine fh_get (own := "FormulaSetterModel") (ref := "FormulaSetterModel") (C := "FormulaSetterModel") (T := T_Mo) (N := 53) (v := .ref (x + 40)) hx hb hT i_Mo hown hK hP mkM_o rfl 46 (by decide) (hT _ w906) (fun _ h9 => h9) rfl (fh_d d_Mo_walk 68 rfl) ?_
          refine lv_iload_n hx hb (fh_d d_Mo_walk 69 rfl) rfl (lv_at hl 2 rfl) ?_
          refine lv_dup2_11 hx hb (fh_d d_Mo_walk 70 rfl) rfl rfl ?_
          refine fn_iald (f := A 39) (k := T) hx hb hK hP 0 mkM_a39 rfl (nI_pred T) (by omega) (by decide) (fh_d d_Mo_walk 71 rfl) ?_
          rw [show ((A 39) T) = 2 from h39.trans (by rw [hsp2]; rfl)]
          refine lv_iconst (v := 1) hx hb (fh_d d_Mo_walk 72 rfl) (by decide) ?_
          refine lv_iadd hx hb (fh_d d_Mo_walk 73 rfl) ?_
          refine fn_iast (f := A 39) (k := T) hx hb hK hP hS 0 mkM_a39 rfl (nI_pred T) (by omega) (by decide) (fh_d d_Mo_walk 74 rfl) (fun H locs hP hS => ?_)
          replace hP := fh_P.eq (h' := mkM ct x g (up2 A 39 (upd (A 39) T (2 + 1))) th co at_ wr no nu (nI (T + 1)) (nI P) wi he de) hP mkM_u39
          refine lv_iload_n hx hb (fh_d d_Mo_walk 75 rfl) rfl (lv_at hl 0 rfl) ?_
          refine lv_if_ne (tgt := 131) hx hb (fh_d d_Mo_walk 76 rfl) rfl (fun c86 => ?_) (fun c86 => absurd c86 (by decide))
          refine lv_iload_n hx hb (fh_d d_Mo_walk 82 rfl) rfl (lv_at hl 0 rfl) ?_
          refine lv_iconst (v := 1) hx hb (fh_d d_Mo_walk 83 rfl) (by decide) ?_
          refine lv_icmp_ne (tgt := 145) hx hb (fh_d d_Mo_walk 84 rfl) rfl (fun c87 => ?_) (fun c87 => absurd c87 (by decide))
          refine lv_iload_n hx hb (fh_d d_Mo_walk 90 rfl) rfl (lv_at hl 0 rfl) ?_
          refine lv_iconst (v := 2) hx hb (fh_d d_Mo_walk 91 rfl) (by decide) ?_
          refine lv_icmp_ne (tgt := 159) hx hb (fh_d d_Mo_walk 92 rfl) rfl (fun c88 => absurd c88 (Classical.not_not.mpr (by decide))) (fun c88 => ?_)
          refine lv_aload_n hx hb (fh_d d_Mo_walk 93 rfl) rfl (lv_at hl 3 rfl) ?_
          refine fh_get (own := "FormulaSetterModel") (ref := "FormulaSetterModel") (C := "FormulaSetterModel") (T := T_Mo) (N := 53) (v := .ref (x + 13)) hx hb hT i_Mo hown hK hP mkM_o rfl 18 (by decide) (hT _ w878) (fun _ h9 => h9) rfl (fh_d d_Mo_walk 94 rfl) ?_
          refine lv_iload_n hx hb (fh_d d_Mo_walk 95 rfl) rfl (lv_at hl 1 rfl) ?_
          refine fn_iald (f := A 12) (k := n0) hx hb hK hP 0 mkM_a12 rfl (rfl) (by omega) (by decide) (fh_d d_Mo_walk 96 rfl) ?_
          rw [show ((A 12) n0) = nI u from hu.2]
          refine lv_goto (tgt := 174) hx hb (fh_d d_Mo_walk 97 rfl) rfl ?_
          refine lv_istore (lv' := [(4, .int (nI u)), (3, .int 2), (2, .int (nI n0)), (1, .int ((nI (T + 1)) - 1)), (0, .ref x)]) hx hb (fh_d d_Mo_walk 107 rfl) hl (by decide) rfl (fun ls hl => ?_)
          refine lv_iload_n hx hb (fh_d d_Mo_walk 108 rfl) rfl (lv_at hl 1 rfl) ?_
          refine lv_if_ne (tgt := 188) hx hb (fh_d d_Mo_walk 109 rfl) rfl (fun c89 => ?_) (fun c89 => absurd c89 (by decide))
          refine lv_iload_n hx hb (fh_d d_Mo_walk 114 rfl) rfl (lv_at hl 1 rfl) ?_
          refine lv_iconst (v := 1) hx hb (fh_d d_Mo_walk 115 rfl) (by decide) ?_
          refine lv_icmp_ne (tgt := 198) hx hb (fh_d d_Mo_walk 116 rfl) rfl (fun c90 => ?_) (fun c90 => absurd c90 (by decide))
          refine lv_iload_n hx hb (fh_d d_Mo_walk 120 rfl) rfl (lv_at hl 1 rfl) ?_
          refine lv_iconst (v := 4) hx hb (fh_d d_Mo_walk 121 rfl) (by decide) ?_
          refine lv_icmp_ne (tgt := 216) hx hb (fh_d d_Mo_walk 122 rfl) rfl (fun c91 => ?_) (fun c91 => absurd c91 (by decide))
          refine lv_iload hx hb (fh_d d_Mo_walk 130 rfl) (lv_at hl 0 rfl) ?_
          refine lv_if_le (tgt := 227) hx hb (fh_d d_Mo_walk 131 rfl) rfl (fun c92 => ?_) (fun c92 => absurd c92 (fun z => z (by rw [h0_u]; decide)))
          exact fh_vret X hP hS (fh_d d_Mo_walk 135 rfl) ⟨rfl, by unfold rf_wk; rw [if_neg hsp0, if_neg hsp1, if_pos hsp2, if_pos h0_u], rfl⟩
        · skip
          refine lv_aload_n hx hb (fh_d d_Mo_walk 0 rfl) rfl (lv_at hl 0 rfl) ?_
          refine fh_get (own := "FormulaSetterModel") (ref := "FormulaSetterModel") (C := "FormulaSetterModel") (T := T_Mo) (N := 53) (v := .int (nI (T + 1))) hx hb hT i_Mo hown hK hP mkM_o rfl 22 (by decide) (hT _ w882) (fun _ h9 => h9) rfl (fh_d d_Mo_walk 1 rfl) ?_
          refine lv_iconst (v := 1) hx hb (fh_d d_Mo_walk 2 rfl) (by decide) ?_
          refine lv_isub hx hb (fh_d d_Mo_walk 3 rfl) ?_
          refine lv_istore_n (lv' := [(1, .int ((nI (T + 1)) - 1)), (0, .ref x)]) hx hb (fh_d d_Mo_walk 4 rfl) rfl hl (by decide) rfl (fun ls hl => ?_)
          refine lv_aload_n hx hb (fh_d d_Mo_walk 5 rfl) rfl (lv_at hl 1 rfl) ?_
          refine fh_get (own := "FormulaSetterModel") (ref := "FormulaSetterModel") (C := "FormulaSetterModel") (T := T_Mo) (N := 53) (v := .ref (x + 18)) hx hb hT i_Mo hown hK hP mkM_o rfl 24 (by decide) (hT _ w884) (fun _ h9 => h9) rfl (fh_d d_Mo_walk 6 rfl) ?_
          refine lv_iload_n hx hb (fh_d d_Mo_walk 7 rfl) rfl (lv_at hl 0 rfl) ?_
          refine fn_iald (f := A 17) (k := T) hx hb hK hP 0 mkM_a17 rfl (nI_pred T) (by omega) (by decide) (fh_d d_Mo_walk 8 rfl) ?_
          rw [show ((A 17) T) = nI n0 from h17]
          refine lv_istore_n (lv' := [(2, .int (nI n0)), (1, .int ((nI (T + 1)) - 1)), (0, .ref x)]) hx hb (fh_d d_Mo_walk 9 rfl) rfl hl (by decide) rfl (fun ls hl => ?_)
          refine lv_aload_n hx hb (fh_d d_Mo_walk 10 rfl) rfl (lv_at hl 2 rfl) ?_
          refine fh_get (own := "FormulaSetterModel") (ref := "FormulaSetterModel") (C := "FormulaSetterModel") (T := T_Mo) (N := 53) (v := .ref (x + 40)) hx hb hT i_Mo hown hK hP mkM_o rfl 46 (by decide) (hT _ w906) (fun _ h9 => h9) rfl (fh_d d_Mo_walk 11 rfl) ?_
          refine lv_iload_n hx hb (fh_d d_Mo_walk 12 rfl) rfl (lv_at hl 1 rfl) ?_
          refine fn_iald (f := A 39) (k := T) hx hb hK hP 0 mkM_a39 rfl (nI_pred T) (by omega) (by decide) (fh_d d_Mo_walk 13 rfl) ?_
          rw [show ((A 39) T) = 2 from h39.trans (by rw [hsp2]; rfl)]
          refine lv_istore_n (lv' := [(3, .int 2), (2, .int (nI n0)), (1, .int ((nI (T + 1)) - 1)), (0, .ref x)]) hx hb (fh_d d_Mo_walk 14 rfl) rfl hl (by decide) rfl (fun ls hl => ?_)
          refine lv_iload_n hx hb (fh_d d_Mo_walk 15 rfl) rfl (lv_at hl 0 rfl) ?_
          refine lv_if_ne (tgt := 108) hx hb (fh_d d_Mo_walk 16 rfl) rfl (fun c93 => ?_) (fun c93 => absurd c93 (by decide))
          refine lv_aload_n hx hb (fh_d d_Mo_walk 67 rfl) rfl (lv_at hl 3 rfl) ?_
          refine fh_get (own := "FormulaSetterModel") (ref := "FormulaSetterModel") (C := "FormulaSetterModel") (T := T_Mo) (N := 53) (v := .ref (x + 40)) hx hb hT i_Mo hown hK hP mkM_o rfl 46 (by decide) (hT _ w906) (fun _ h9 => h9) rfl (fh_d d_Mo_walk 68 rfl) ?_
          refine lv_iload_n hx hb (fh_d d_Mo_walk 69 rfl) rfl (lv_at hl 2 rfl) ?_
          refine lv_dup2_11 hx hb (fh_d d_Mo_walk 70 rfl) rfl rfl ?_
          refine fn_iald (f := A 39) (k := T) hx hb hK hP 0 mkM_a39 rfl (nI_pred T) (by omega) (by decide) (fh_d d_Mo_walk 71 rfl) ?_
          rw [show ((A 39) T) = 2 from h39.trans (by rw [hsp2]; rfl)]
          refine lv_iconst (v := 1) hx hb (fh_d d_Mo_walk 72 rfl) (by decide) ?_
          refine lv_iadd hx hb (fh_d d_Mo_walk 73 rfl) ?_
          refine fn_iast (f := A 39) (k := T) hx hb hK hP hS 0 mkM_a39 rfl (nI_pred T) (by omega) (by decide) (fh_d d_Mo_walk 74 rfl) (fun H locs hP hS => ?_)
          replace hP := fh_P.eq (h' := mkM ct x g (up2 A 39 (upd (A 39) T (2 + 1))) th co at_ wr no nu (nI (T + 1)) (nI P) wi he de) hP mkM_u39
          refine lv_iload_n hx hb (fh_d d_Mo_walk 75 rfl) rfl (lv_at hl 0 rfl) ?_
          refine lv_if_ne (tgt := 131) hx hb (fh_d d_Mo_walk 76 rfl) rfl (fun c94 => ?_) (fun c94 => absurd c94 (by decide))
          refine lv_iload_n hx hb (fh_d d_Mo_walk 82 rfl) rfl (lv_at hl 0 rfl) ?_
          refine lv_iconst (v := 1) hx hb (fh_d d_Mo_walk 83 rfl) (by decide) ?_
          refine lv_icmp_ne (tgt := 145) hx hb (fh_d d_Mo_walk 84 rfl) rfl (fun c95 => ?_) (fun c95 => absurd c95 (by decide))
          refine lv_iload_n hx hb (fh_d d_Mo_walk 90 rfl) rfl (lv_at hl 0 rfl) ?_
          refine lv_iconst (v := 2) hx hb (fh_d d_Mo_walk 91 rfl) (by decide) ?_
          refine lv_icmp_ne (tgt := 159) hx hb (fh_d d_Mo_walk 92 rfl) rfl (fun c96 => absurd c96 (Classical.not_not.mpr (by decide))) (fun c96 => ?_)
          refine lv_aload_n hx hb (fh_d d_Mo_walk 93 rfl) rfl (lv_at hl 3 rfl) ?_
          refine fh_get (own := "FormulaSetterModel") (ref := "FormulaSetterModel") (C := "FormulaSetterModel") (T := T_Mo) (N := 53) (v := .ref (x + 13)) hx hb hT i_Mo hown hK hP mkM_o rfl 18 (by decide) (hT _ w878) (fun _ h9 => h9) rfl (fh_d d_Mo_walk 94 rfl) ?_
          refine lv_iload_n hx hb (fh_d d_Mo_walk 95 rfl) rfl (lv_at hl 1 rfl) ?_
          refine fn_iald (f := A 12) (k := n0) hx hb hK hP 0 mkM_a12 rfl (rfl) (by omega) (by decide) (fh_d d_Mo_walk 96 rfl) ?_
          rw [show ((A 12) n0) = nI u from hu.2]
          refine lv_goto (tgt := 174) hx hb (fh_d d_Mo_walk 97 rfl) rfl ?_
          refine lv_istore (lv' := [(4, .int (nI u)), (3, .int 2), (2, .int (nI n0)), (1, .int ((nI (T + 1)) - 1)), (0, .ref x)]) hx hb (fh_d d_Mo_walk 107 rfl) hl (by decide) rfl (fun ls hl => ?_)
          refine lv_iload_n hx hb (fh_d d_Mo_walk 108 rfl) rfl (lv_at hl 1 rfl) ?_
          refine lv_if_ne (tgt := 188) hx hb (fh_d d_Mo_walk 109 rfl) rfl (fun c97 => ?_) (fun c97 => absurd c97 (by decide))
          refine lv_iload_n hx hb (fh_d d_Mo_walk 114 rfl) rfl (lv_at hl 1 rfl) ?_
          refine lv_iconst (v := 1) hx hb (fh_d d_Mo_walk 115 rfl) (by decide) ?_
          refine lv_icmp_ne (tgt := 198) hx hb (fh_d d_Mo_walk 116 rfl) rfl (fun c98 => ?_) (fun c98 => absurd c98 (by decide))
          refine lv_iload_n hx hb (fh_d d_Mo_walk 120 rfl) rfl (lv_at hl 1 rfl) ?_
          refine lv_iconst (v := 4) hx hb (fh_d d_Mo_walk 121 rfl) (by decide) ?_
          refine lv_icmp_ne (tgt := 216) hx hb (fh_d d_Mo_walk 122 rfl) rfl (fun c99 => ?_) (fun c99 => absurd c99 (by decide))
          refine lv_iload hx hb (fh_d d_Mo_walk 130 rfl) (lv_at hl 0 rfl) ?_
          refine lv_if_le (tgt := 227) hx hb (fh_d d_Mo_walk 131 rfl) rfl (fun c100 => absurd c100 (nI_np ⟨Nat.pos_of_ne_zero h0_u, hu.1⟩)) (fun c100 => ?_)
          refine lv_aload_n hx hb (fh_d d_Mo_walk 132 rfl) rfl (lv_at hl 4 rfl) ?_
          refine lv_iload hx hb (fh_d d_Mo_walk 133 rfl) (lv_at hl 0 rfl) ?_
          refine fh_callV (cc' := c_Mo_enter) (nL' := 2) (rest := []) (a := x) (As := [.int (nI u)]) X hR (m_Mo_enter l D ct b RO (r - 1) n x g (up2 A 39 (upd (A 39) T (2 + 1))) th co at_ wr no nu (nI P) wi he de (nI u) (T + 1) (by omega)) w1201 w1198 w1200 v58 w9 ⟨by decide, by decide, by show _ = some 1; decide +kernel⟩ (by omega) (by decide) (fh_recv hK hP mkM_o rfl) hP hS hl.1 rfl (by exact Nat.le_of_ble_eq_true rfl) (fh_d d_Mo_walk 134 rfl) ⟨Nat.le_refl _, Nat.le_refl _⟩ (fun v9 h9 n9 H locs hq hP hS => ?_)
          obtain ⟨rfl, u101, u102⟩ := hq
          rw [u101, u102] at hP
          refine W.eq (g2 := F0 m 227 ls []) rfl ?_
          exact fh_vret X hP hS (fh_d d_Mo_walk 135 rfl) ⟨rfl, by unfold rf_wk; rw [if_neg hsp0, if_neg hsp1, if_pos hsp2, if_neg h0_u], rfl⟩
      · skip
        by_cases hsp3 : sp = 3
        · skip
          by_cases h0_lo : lo = 0
          · skip
            refine lv_aload_n hx hb (fh_d d_Mo_walk 0 rfl) rfl (lv_at hl 0 rfl) ?_
            refine fh_get (own := "FormulaSetterModel") (ref := "FormulaSetterModel") (C := "FormulaSetterModel") (T := T_Mo) (N := 53) (v := .int (nI (T + 1))) hx hb hT i_Mo hown hK hP mkM_o rfl 22 (by decide) (hT _ w882) (fun _ h9 => h9) rfl (fh_d d_Mo_walk 1 rfl) ?_
            refine lv_iconst (v := 1) hx hb (fh_d d_Mo_walk 2 rfl) (by decide) ?_
            refine lv_isub hx hb (fh_d d_Mo_walk 3 rfl) ?_
            refine lv_istore_n (lv' := [(1, .int ((nI (T + 1)) - 1)), (0, .ref x)]) hx hb (fh_d d_Mo_walk 4 rfl) rfl hl (by decide) rfl (fun ls hl => ?_)
            refine lv_aload_n hx hb (fh_d d_Mo_walk 5 rfl) rfl (lv_at hl 1 rfl) ?_
            refine fh_get (own := "FormulaSetterModel") (ref := "FormulaSetterModel") (C := "FormulaSetterModel") (T := T_Mo) (N := 53) (v := .ref (x + 18)) hx hb hT i_Mo hown hK hP mkM_o rfl 24 (by decide) (hT _ w884) (fun _ h9 => h9) rfl (fh_d d_Mo_walk 6 rfl) ?_
            refine lv_iload_n hx hb (fh_d d_Mo_walk 7 rfl) rfl (lv_at hl 0 rfl) ?_
            refine fn_iald (f := A 17) (k := T) hx hb hK hP 0 mkM_a17 rfl (nI_pred T) (by omega) (by decide) (fh_d d_Mo_walk 8 rfl) ?_
            rw [show ((A 17) T) = nI n0 from h17]
            refine lv_istore_n (lv' := [(2, .int (nI n0)), (1, .int ((nI (T + 1)) - 1)), (0, .ref x)]) hx hb (fh_d d_Mo_walk 9 rfl) rfl hl (by decide) rfl (fun ls hl => ?_)
            refine lv_aload_n hx hb (fh_d d_Mo_walk 10 rfl) rfl (lv_at hl 2 rfl) ?_
            refine fh_get (own := "FormulaSetterModel") (ref := "FormulaSetterModel") (C := "FormulaSetterModel") (T := T_Mo) (N := 53) (v := .ref (x + 40)) hx hb hT i_Mo hown hK hP mkM_o rfl 46 (by decide) (hT _ w906) (fun _ h9 => h9) rfl (fh_d d_Mo_walk 11 rfl) ?_
            refine lv_iload_n hx hb (fh_d d_Mo_walk 12 rfl) rfl (lv_at hl 1 rfl) ?_
            refine fn_iald (f := A 39) (k := T) hx hb hK hP 0 mkM_a39 rfl (nI_pred T) (by omega) (by decide) (fh_d d_Mo_walk 13 rfl) ?_
            rw [show ((A 39) T) = 3 from h39.trans (by rw [hsp3]; rfl)]
            refine lv_istore_n (lv' := [(3, .int 3), (2, .int (nI n0)), (1, .int ((nI (T + 1)) - 1)), (0, .ref x)]) hx hb (fh_d d_Mo_walk 14 rfl) rfl hl (by decide) rfl (fun ls hl => ?_)
            refine lv_iload_n hx hb (fh_d d_Mo_walk 15 rfl) rfl (lv_at hl 0 rfl) ?_
            refine lv_if_ne (tgt := 108) hx hb (fh_d d_Mo_walk 16 rfl) rfl (fun c103 => ?_) (fun c103 => absurd c103 (by decide))
            refine lv_aload_n hx hb (fh_d d_Mo_walk 67 rfl) rfl (lv_at hl 3 rfl) ?_
            refine fh_get (own := "FormulaSetterModel") (ref := "FormulaSetterModel") (C := "FormulaSetterModel") (T := T_Mo) (N := 53) (v := .ref (x + 40)) hx hb hT i_Mo hown hK hP mkM_o rfl 46 (by decide) (hT _ w906) (fun _ h9 => h9) rfl (fh_d d_Mo_walk 68 rfl) ?_
            refine lv_iload_n hx hb (fh_d d_Mo_walk 69 rfl) rfl (lv_at hl 2 rfl) ?_
            refine lv_dup2_11 hx hb (fh_d d_Mo_walk 70 rfl) rfl rfl ?_
            refine fn_iald (f := A 39) (k := T) hx hb hK hP 0 mkM_a39 rfl (nI_pred T) (by omega) (by decide) (fh_d d_Mo_walk 71 rfl) ?_
            rw [show ((A 39) T) = 3 from h39.trans (by rw [hsp3]; rfl)]
            refine lv_iconst (v := 1) hx hb (fh_d d_Mo_walk 72 rfl) (by decide) ?_
            refine lv_iadd hx hb (fh_d d_Mo_walk 73 rfl) ?_
            refine fn_iast (f := A 39) (k := T) hx hb hK hP hS 0 mkM_a39 rfl (nI_pred T) (by omega) (by decide) (fh_d d_Mo_walk 74 rfl) (fun H locs hP hS => ?_)
            replace hP := fh_P.eq (h' := mkM ct x g (up2 A 39 (upd (A 39) T (3 + 1))) th co at_ wr no nu (nI (T + 1)) (nI P) wi he de) hP mkM_u39
            refine lv_iload_n hx hb (fh_d d_Mo_walk 75 rfl) rfl (lv_at hl 0 rfl) ?_
            refine lv_if_ne (tgt := 131) hx hb (fh_d d_Mo_walk 76 rfl) rfl (fun c104 => ?_) (fun c104 => absurd c104 (by decide))
            refine lv_iload_n hx hb (fh_d d_Mo_walk 82 rfl) rfl (lv_at hl 0 rfl) ?_
            refine lv_iconst (v := 1) hx hb (fh_d d_Mo_walk 83 rfl) (by decide) ?_
            refine lv_icmp_ne (tgt := 145) hx hb (fh_d d_Mo_walk 84 rfl) rfl (fun c105 => ?_) (fun c105 => absurd c105 (by decide))
            refine lv_iload_n hx hb (fh_d d_Mo_walk 90 rfl) rfl (lv_at hl 0 rfl) ?_
            refine lv_iconst (v := 2) hx hb (fh_d d_Mo_walk 91 rfl) (by decide) ?_
            refine lv_icmp_ne (tgt := 159) hx hb (fh_d d_Mo_walk 92 rfl) rfl (fun c106 => ?_) (fun c106 => absurd c106 (by decide))
            refine lv_iload_n hx hb (fh_d d_Mo_walk 98 rfl) rfl (lv_at hl 0 rfl) ?_
            refine lv_iconst (v := 3) hx hb (fh_d d_Mo_walk 99 rfl) (by decide) ?_
            refine lv_icmp_ne (tgt := 173) hx hb (fh_d d_Mo_walk 100 rfl) rfl (fun c107 => absurd c107 (Classical.not_not.mpr (by decide))) (fun c107 => ?_)
            refine lv_aload_n hx hb (fh_d d_Mo_walk 101 rfl) rfl (lv_at hl 3 rfl) ?_
            refine fh_get (own := "FormulaSetterModel") (ref := "FormulaSetterModel") (C := "FormulaSetterModel") (T := T_Mo) (N := 53) (v := .ref (x + 14)) hx hb hT i_Mo hown hK hP mkM_o rfl 19 (by decide) (hT _ w879) (fun _ h9 => h9) rfl (fh_d d_Mo_walk 102 rfl) ?_
            refine lv_iload_n hx hb (fh_d d_Mo_walk 103 rfl) rfl (lv_at hl 1 rfl) ?_
            refine fn_iald (f := A 13) (k := n0) hx hb hK hP 0 mkM_a13 rfl (rfl) (by omega) (by decide) (fh_d d_Mo_walk 104 rfl) ?_
            rw [show ((A 13) n0) = nI lo from hlo.2]
            refine lv_goto (tgt := 174) hx hb (fh_d d_Mo_walk 105 rfl) rfl ?_
            refine lv_istore (lv' := [(4, .int (nI lo)), (3, .int 3), (2, .int (nI n0)), (1, .int ((nI (T + 1)) - 1)), (0, .ref x)]) hx hb (fh_d d_Mo_walk 107 rfl) hl (by decide) rfl (fun ls hl => ?_)
            refine lv_iload_n hx hb (fh_d d_Mo_walk 108 rfl) rfl (lv_at hl 1 rfl) ?_
            refine lv_if_ne (tgt := 188) hx hb (fh_d d_Mo_walk 109 rfl) rfl (fun c108 => ?_) (fun c108 => absurd c108 (by decide))
            refine lv_iload_n hx hb (fh_d d_Mo_walk 114 rfl) rfl (lv_at hl 1 rfl) ?_
            refine lv_iconst (v := 1) hx hb (fh_d d_Mo_walk 115 rfl) (by decide) ?_
            refine lv_icmp_ne (tgt := 198) hx hb (fh_d d_Mo_walk 116 rfl) rfl (fun c109 => ?_) (fun c109 => absurd c109 (by decide))
            refine lv_iload_n hx hb (fh_d d_Mo_walk 120 rfl) rfl (lv_at hl 1 rfl) ?_
            refine lv_iconst (v := 4) hx hb (fh_d d_Mo_walk 121 rfl) (by decide) ?_
            refine lv_icmp_ne (tgt := 216) hx hb (fh_d d_Mo_walk 122 rfl) rfl (fun c110 => ?_) (fun c110 => absurd c110 (by decide))
            refine lv_iload hx hb (fh_d d_Mo_walk 130 rfl) (lv_at hl 0 rfl) ?_
            refine lv_if_le (tgt := 227) hx hb (fh_d d_Mo_walk 131 rfl) rfl (fun c111 => ?_) (fun c111 => absurd c111 (fun z => z (by rw [h0_lo]; decide)))
            exact fh_vret X hP hS (fh_d d_Mo_walk 135 rfl) ⟨rfl, by unfold rf_wk; rw [if_neg hsp0, if_neg hsp1, if_neg hsp2, if_pos hsp3, if_pos h0_lo], rfl⟩
          · skip
            refine lv_aload_n hx hb (fh_d d_Mo_walk 0 rfl) rfl (lv_at hl 0 rfl) ?_
            refine fh_get (own := "FormulaSetterModel") (ref := "FormulaSetterModel") (C := "FormulaSetterModel") (T := T_Mo) (N := 53) (v := .int (nI (T + 1))) hx hb hT i_Mo hown hK hP mkM_o rfl 22 (by decide) (hT _ w882) (fun _ h9 => h9) rfl (fh_d d_Mo_walk 1 rfl) ?_
            refine lv_iconst (v := 1) hx hb (fh_d d_Mo_walk 2 rfl) (by decide) ?_
            refine lv_isub hx hb (fh_d d_Mo_walk 3 rfl) ?_
            refine lv_istore_n (lv' := [(1, .int ((nI (T + 1)) - 1)), (0, .ref x)]) hx hb (fh_d d_Mo_walk 4 rfl) rfl hl (by decide) rfl (fun ls hl => ?_)
            refine lv_aload_n hx hb (fh_d d_Mo_walk 5 rfl) rfl (lv_at hl 1 rfl) ?_
            refine fh_get (own := "FormulaSetterModel") (ref := "FormulaSetterModel") (C := "FormulaSetterModel") (T := T_Mo) (N := 53) (v := .ref (x + 18)) hx hb hT i_Mo hown hK hP mkM_o rfl 24 (by decide) (hT _ w884) (fun _ h9 => h9) rfl (fh_d d_Mo_walk 6 rfl) ?_
            refine lv_iload_n hx hb (fh_d d_Mo_walk 7 rfl) rfl (lv_at hl 0 rfl) ?_
            refine fn_iald (f := A 17) (k := T) hx hb hK hP 0 mkM_a17 rfl (nI_pred T) (by omega) (by decide) (fh_d d_Mo_walk 8 rfl) ?_
            rw [show ((A 17) T) = nI n0 from h17]
            refine lv_istore_n (lv' := [(2, .int (nI n0)), (1, .int ((nI (T + 1)) - 1)), (0, .ref x)]) hx hb (fh_d d_Mo_walk 9 rfl) rfl hl (by decide) rfl (fun ls hl => ?_)
            refine lv_aload_n hx hb (fh_d d_Mo_walk 10 rfl) rfl (lv_at hl 2 rfl) ?_
            refine fh_get (own := "FormulaSetterModel") (ref := "FormulaSetterModel") (C := "FormulaSetterModel") (T := T_Mo) (N := 53) (v := .ref (x + 40)) hx hb hT i_Mo hown hK hP mkM_o rfl 46 (by decide) (hT _ w906) (fun _ h9 => h9) rfl (fh_d d_Mo_walk 11 rfl) ?_
            refine lv_iload_n hx hb (fh_d d_Mo_walk 12 rfl) rfl (lv_at hl 1 rfl) ?_
            refine fn_iald (f := A 39) (k := T) hx hb hK hP 0 mkM_a39 rfl (nI_pred T) (by omega) (by decide) (fh_d d_Mo_walk 13 rfl) ?_
            rw [show ((A 39) T) = 3 from h39.trans (by rw [hsp3]; rfl)]
            refine lv_istore_n (lv' := [(3, .int 3), (2, .int (nI n0)), (1, .int ((nI (T + 1)) - 1)), (0, .ref x)]) hx hb (fh_d d_Mo_walk 14 rfl) rfl hl (by decide) rfl (fun ls hl => ?_)
            refine lv_iload_n hx hb (fh_d d_Mo_walk 15 rfl) rfl (lv_at hl 0 rfl) ?_
            refine lv_if_ne (tgt := 108) hx hb (fh_d d_Mo_walk 16 rfl) rfl (fun c112 => ?_) (fun c112 => absurd c112 (by decide))
            refine lv_aload_n hx hb (fh_d d_Mo_walk 67 rfl) rfl (lv_at hl 3 rfl) ?_
            refine fh_get (own := "FormulaSetterModel") (ref := "FormulaSetterModel") (C := "FormulaSetterModel") (T := T_Mo) (N := 53) (v := .ref (x + 40)) hx hb hT i_Mo hown hK hP mkM_o rfl 46 (by decide) (hT _ w906) (fun _ h9 => h9) rfl (fh_d d_Mo_walk 68 rfl) ?_
            refine lv_iload_n hx hb (fh_d d_Mo_walk 69 rfl) rfl (lv_at hl 2 rfl) ?_
            refine lv_dup2_11 hx hb (fh_d d_Mo_walk 70 rfl) rfl rfl ?_
            refine fn_iald (f := A 39) (k := T) hx hb hK hP 0 mkM_a39 rfl (nI_pred T) (by omega) (by decide) (fh_d d_Mo_walk 71 rfl) ?_
            rw [show ((A 39) T) = 3 from h39.trans (by rw [hsp3]; rfl)]
            refine lv_iconst (v := 1) hx hb (fh_d d_Mo_walk 72 rfl) (by decide) ?_
            refine lv_iadd hx hb (fh_d d_Mo_walk 73 rfl) ?_
            refine fn_iast (f := A 39) (k := T) hx hb hK hP hS 0 mkM_a39 rfl (nI_pred T) (by omega) (by decide) (fh_d d_Mo_walk 74 rfl) (fun H locs hP hS => ?_)
            replace hP := fh_P.eq (h' := mkM ct x g (up2 A 39 (upd (A 39) T (3 + 1))) th co at_ wr no nu (nI (T + 1)) (nI P) wi he de) hP mkM_u39
            refine lv_iload_n hx hb (fh_d d_Mo_walk 75 rfl) rfl (lv_at hl 0 rfl) ?_
            refine lv_if_ne (tgt := 131) hx hb (fh_d d_Mo_walk 76 rfl) rfl (fun c113 => ?_) (fun c113 => absurd c113 (by decide))
            refine lv_iload_n hx hb (fh_d d_Mo_walk 82 rfl) rfl (lv_at hl 0 rfl) ?_
            refine lv_iconst (v := 1) hx hb (fh_d d_Mo_walk 83 rfl) (by decide) ?_
            refine lv_icmp_ne (tgt := 145) hx hb (fh_d d_Mo_walk 84 rfl) rfl (fun c114 => ?_) (fun c114 => absurd c114 (by decide))
            refine lv_iload_n hx hb (fh_d d_Mo_walk 90 rfl) rfl (lv_at hl 0 rfl) ?_
            refine lv_iconst (v := 2) hx hb (fh_d d_Mo_walk 91 rfl) (by decide) ?_
            refine lv_icmp_ne (tgt := 159) hx hb (fh_d d_Mo_walk 92 rfl) rfl (fun c115 => ?_) (fun c115 => absurd c115 (by decide))
            refine lv_iload_n hx hb (fh_d d_Mo_walk 98 rfl) rfl (lv_at hl 0 rfl) ?_
            refine lv_iconst (v := 3) hx hb (fh_d d_Mo_walk 99 rfl) (by decide) ?_
            refine lv_icmp_ne (tgt := 173) hx hb (fh_d d_Mo_walk 100 rfl) rfl (fun c116 => absurd c116 (Classical.not_not.mpr (by decide))) (fun c116 => ?_)
            refine lv_aload_n hx hb (fh_d d_Mo_walk 101 rfl) rfl (lv_at hl 3 rfl) ?_
            refine fh_get (own := "FormulaSetterModel") (ref := "FormulaSetterModel") (C := "FormulaSetterModel") (T := T_Mo) (N := 53) (v := .ref (x + 14)) hx hb hT i_Mo hown hK hP mkM_o rfl 19 (by decide) (hT _ w879) (fun _ h9 => h9) rfl (fh_d d_Mo_walk 102 rfl) ?_
            refine lv_iload_n hx hb (fh_d d_Mo_walk 103 rfl) rfl (lv_at hl 1 rfl) ?_
            refine fn_iald (f := A 13) (k := n0) hx hb hK hP 0 mkM_a13 rfl (rfl) (by omega) (by decide) (fh_d d_Mo_walk 104 rfl) ?_
            rw [show ((A 13) n0) = nI lo from hlo.2]
            refine lv_goto (tgt := 174) hx hb (fh_d d_Mo_walk 105 rfl) rfl ?_
            refine lv_istore (lv' := [(4, .int (nI lo)), (3, .int 3), (2, .int (nI n0)), (1, .int ((nI (T + 1)) - 1)), (0, .ref x)]) hx hb (fh_d d_Mo_walk 107 rfl) hl (by decide) rfl (fun ls hl => ?_)
            refine lv_iload_n hx hb (fh_d d_Mo_walk 108 rfl) rfl (lv_at hl 1 rfl) ?_
            refine lv_if_ne (tgt := 188) hx hb (fh_d d_Mo_walk 109 rfl) rfl (fun c117 => ?_) (fun c117 => absurd c117 (by decide))
            refine lv_iload_n hx hb (fh_d d_Mo_walk 114 rfl) rfl (lv_at hl 1 rfl) ?_
            refine lv_iconst (v := 1) hx hb (fh_d d_Mo_walk 115 rfl) (by decide) ?_
            refine lv_icmp_ne (tgt := 198) hx hb (fh_d d_Mo_walk 116 rfl) rfl (fun c118 => ?_) (fun c118 => absurd c118 (by decide))
            refine lv_iload_n hx hb (fh_d d_Mo_walk 120 rfl) rfl (lv_at hl 1 rfl) ?_
            refine lv_iconst (v := 4) hx hb (fh_d d_Mo_walk 121 rfl) (by decide) ?_
            refine lv_icmp_ne (tgt := 216) hx hb (fh_d d_Mo_walk 122 rfl) rfl (fun c119 => ?_) (fun c119 => absurd c119 (by decide))
            refine lv_iload hx hb (fh_d d_Mo_walk 130 rfl) (lv_at hl 0 rfl) ?_
            refine lv_if_le (tgt := 227) hx hb (fh_d d_Mo_walk 131 rfl) rfl (fun c120 => absurd c120 (nI_np ⟨Nat.pos_of_ne_zero h0_lo, hlo.1⟩)) (fun c120 => ?_)
            refine lv_aload_n hx hb (fh_d d_Mo_walk 132 rfl) rfl (lv_at hl 4 rfl) ?_
            refine lv_iload hx hb (fh_d d_Mo_walk 133 rfl) (lv_at hl 0 rfl) ?_
            refine fh_callV (cc' := c_Mo_enter) (nL' := 2) (rest := []) (a := x) (As := [.int (nI lo)]) X hR (m_Mo_enter l D ct b RO (r - 1) n x g (up2 A 39 (upd (A 39) T (3 + 1))) th co at_ wr no nu (nI P) wi he de (nI lo) (T + 1) (by omega)) w1201 w1198 w1200 v58 w9 ⟨by decide, by decide, by show _ = some 1; decide +kernel⟩ (by omega) (by decide) (fh_recv hK hP mkM_o rfl) hP hS hl.1 rfl (by exact Nat.le_of_ble_eq_true rfl) (fh_d d_Mo_walk 134 rfl) ⟨Nat.le_refl _, Nat.le_refl _⟩ (fun v9 h9 n9 H locs hq hP hS => ?_)
            obtain ⟨rfl, u121, u122⟩ := hq
            rw [u121, u122] at hP
            refine W.eq (g2 := F0 m 227 ls []) rfl ?_
            exact fh_vret X hP hS (fh_d d_Mo_walk 135 rfl) ⟨rfl, by unfold rf_wk; rw [if_neg hsp0, if_neg hsp1, if_neg hsp2, if_pos hsp3, if_neg h0_lo], rfl⟩
        · skip
          refine lv_aload_n hx hb (fh_d d_Mo_walk 0 rfl) rfl (lv_at hl 0 rfl) ?_
          refine fh_get (own := "FormulaSetterModel") (ref := "FormulaSetterModel") (C := "FormulaSetterModel") (T := T_Mo) (N := 53) (v := .int (nI (T + 1))) hx hb hT i_Mo hown hK hP mkM_o rfl 22 (by decide) (hT _ w882) (fun _ h9 => h9) rfl (fh_d d_Mo_walk 1 rfl) ?_
          refine lv_iconst (v := 1) hx hb (fh_d d_Mo_walk 2 rfl) (by decide) ?_
          refine lv_isub hx hb (fh_d d_Mo_walk 3 rfl) ?_
          refine lv_istore_n (lv' := [(1, .int ((nI (T + 1)) - 1)), (0, .ref x)]) hx hb (fh_d d_Mo_walk 4 rfl) rfl hl (by decide) rfl (fun ls hl => ?_)
          refine lv_aload_n hx hb (fh_d d_Mo_walk 5 rfl) rfl (lv_at hl 1 rfl) ?_
          refine fh_get (own := "FormulaSetterModel") (ref := "FormulaSetterModel") (C := "FormulaSetterModel") (T := T_Mo) (N := 53) (v := .ref (x + 18)) hx hb hT i_Mo hown hK hP mkM_o rfl 24 (by decide) (hT _ w884) (fun _ h9 => h9) rfl (fh_d d_Mo_walk 6 rfl) ?_
          refine lv_iload_n hx hb (fh_d d_Mo_walk 7 rfl) rfl (lv_at hl 0 rfl) ?_
          refine fn_iald (f := A 17) (k := T) hx hb hK hP 0 mkM_a17 rfl (nI_pred T) (by omega) (by decide) (fh_d d_Mo_walk 8 rfl) ?_
          rw [show ((A 17) T) = nI n0 from h17]
          refine lv_istore_n (lv' := [(2, .int (nI n0)), (1, .int ((nI (T + 1)) - 1)), (0, .ref x)]) hx hb (fh_d d_Mo_walk 9 rfl) rfl hl (by decide) rfl (fun ls hl => ?_)
          refine lv_aload_n hx hb (fh_d d_Mo_walk 10 rfl) rfl (lv_at hl 2 rfl) ?_
          refine fh_get (own := "FormulaSetterModel") (ref := "FormulaSetterModel") (C := "FormulaSetterModel") (T := T_Mo) (N := 53) (v := .ref (x + 40)) hx hb hT i_Mo hown hK hP mkM_o rfl 46 (by decide) (hT _ w906) (fun _ h9 => h9) rfl (fh_d d_Mo_walk 11 rfl) ?_
          refine lv_iload_n hx hb (fh_d d_Mo_walk 12 rfl) rfl (lv_at hl 1 rfl) ?_
          refine fn_iald (f := A 39) (k := T) hx hb hK hP 0 mkM_a39 rfl (nI_pred T) (by omega) (by decide) (fh_d d_Mo_walk 13 rfl) ?_
          rw [show ((A 39) T) = 4 from h39.trans (by rw [show sp = 4 by omega]; rfl)]
          refine lv_istore_n (lv' := [(3, .int 4), (2, .int (nI n0)), (1, .int ((nI (T + 1)) - 1)), (0, .ref x)]) hx hb (fh_d d_Mo_walk 14 rfl) rfl hl (by decide) rfl (fun ls hl => ?_)
          refine lv_iload_n hx hb (fh_d d_Mo_walk 15 rfl) rfl (lv_at hl 0 rfl) ?_
          refine lv_if_ne (tgt := 108) hx hb (fh_d d_Mo_walk 16 rfl) rfl (fun c123 => ?_) (fun c123 => absurd c123 (by decide))
          refine lv_aload_n hx hb (fh_d d_Mo_walk 67 rfl) rfl (lv_at hl 3 rfl) ?_
          refine fh_get (own := "FormulaSetterModel") (ref := "FormulaSetterModel") (C := "FormulaSetterModel") (T := T_Mo) (N := 53) (v := .ref (x + 40)) hx hb hT i_Mo hown hK hP mkM_o rfl 46 (by decide) (hT _ w906) (fun _ h9 => h9) rfl (fh_d d_Mo_walk 68 rfl) ?_
          refine lv_iload_n hx hb (fh_d d_Mo_walk 69 rfl) rfl (lv_at hl 2 rfl) ?_
          refine lv_dup2_11 hx hb (fh_d d_Mo_walk 70 rfl) rfl rfl ?_
          refine fn_iald (f := A 39) (k := T) hx hb hK hP 0 mkM_a39 rfl (nI_pred T) (by omega) (by decide) (fh_d d_Mo_walk 71 rfl) ?_
          rw [show ((A 39) T) = 4 from h39.trans (by rw [show sp = 4 by omega]; rfl)]
          refine lv_iconst (v := 1) hx hb (fh_d d_Mo_walk 72 rfl) (by decide) ?_
          refine lv_iadd hx hb (fh_d d_Mo_walk 73 rfl) ?_
          refine fn_iast (f := A 39) (k := T) hx hb hK hP hS 0 mkM_a39 rfl (nI_pred T) (by omega) (by decide) (fh_d d_Mo_walk 74 rfl) (fun H locs hP hS => ?_)
          replace hP := fh_P.eq (h' := mkM ct x g (up2 A 39 (upd (A 39) T (4 + 1))) th co at_ wr no nu (nI (T + 1)) (nI P) wi he de) hP mkM_u39
          refine lv_iload_n hx hb (fh_d d_Mo_walk 75 rfl) rfl (lv_at hl 0 rfl) ?_
          refine lv_if_ne (tgt := 131) hx hb (fh_d d_Mo_walk 76 rfl) rfl (fun c124 => ?_) (fun c124 => absurd c124 (by decide))
          refine lv_iload_n hx hb (fh_d d_Mo_walk 82 rfl) rfl (lv_at hl 0 rfl) ?_
          refine lv_iconst (v := 1) hx hb (fh_d d_Mo_walk 83 rfl) (by decide) ?_
          refine lv_icmp_ne (tgt := 145) hx hb (fh_d d_Mo_walk 84 rfl) rfl (fun c125 => ?_) (fun c125 => absurd c125 (by decide))
          refine lv_iload_n hx hb (fh_d d_Mo_walk 90 rfl) rfl (lv_at hl 0 rfl) ?_
          refine lv_iconst (v := 2) hx hb (fh_d d_Mo_walk 91 rfl) (by decide) ?_
          refine lv_icmp_ne (tgt := 159) hx hb (fh_d d_Mo_walk 92 rfl) rfl (fun c126 => ?_) (fun c126 => absurd c126 (by decide))
          refine lv_iload_n hx hb (fh_d d_Mo_walk 98 rfl) rfl (lv_at hl 0 rfl) ?_
          refine lv_iconst (v := 3) hx hb (fh_d d_Mo_walk 99 rfl) (by decide) ?_
          refine lv_icmp_ne (tgt := 173) hx hb (fh_d d_Mo_walk 100 rfl) rfl (fun c127 => ?_) (fun c127 => absurd c127 (by decide))
          refine lv_iconst (v := 0) hx hb (fh_d d_Mo_walk 106 rfl) (by decide) ?_
          refine lv_istore (lv' := [(4, .int 0), (3, .int 4), (2, .int (nI n0)), (1, .int ((nI (T + 1)) - 1)), (0, .ref x)]) hx hb (fh_d d_Mo_walk 107 rfl) hl (by decide) rfl (fun ls hl => ?_)
          refine lv_iload_n hx hb (fh_d d_Mo_walk 108 rfl) rfl (lv_at hl 1 rfl) ?_
          refine lv_if_ne (tgt := 188) hx hb (fh_d d_Mo_walk 109 rfl) rfl (fun c128 => ?_) (fun c128 => absurd c128 (by decide))
          refine lv_iload_n hx hb (fh_d d_Mo_walk 114 rfl) rfl (lv_at hl 1 rfl) ?_
          refine lv_iconst (v := 1) hx hb (fh_d d_Mo_walk 115 rfl) (by decide) ?_
          refine lv_icmp_ne (tgt := 198) hx hb (fh_d d_Mo_walk 116 rfl) rfl (fun c129 => ?_) (fun c129 => absurd c129 (by decide))
          refine lv_iload_n hx hb (fh_d d_Mo_walk 120 rfl) rfl (lv_at hl 1 rfl) ?_
          refine lv_iconst (v := 4) hx hb (fh_d d_Mo_walk 121 rfl) (by decide) ?_
          refine lv_icmp_ne (tgt := 216) hx hb (fh_d d_Mo_walk 122 rfl) rfl (fun c130 => absurd c130 (Classical.not_not.mpr (by decide))) (fun c130 => ?_)
          refine lv_aload_n hx hb (fh_d d_Mo_walk 123 rfl) rfl (lv_at hl 4 rfl) ?_
          refine lv_dup hx hb (fh_d d_Mo_walk 124 rfl) rfl ?_
          refine fh_get (own := "FormulaSetterModel") (ref := "FormulaSetterModel") (C := "FormulaSetterModel") (T := T_Mo) (N := 53) (v := .int (nI (T + 1))) hx hb hT i_Mo hown hK hP mkM_o rfl 22 (by decide) (hT _ w882) (fun _ h9 => h9) rfl (fh_d d_Mo_walk 125 rfl) ?_
          refine lv_iconst (v := 1) hx hb (fh_d d_Mo_walk 126 rfl) (by decide) ?_
          refine lv_isub hx hb (fh_d d_Mo_walk 127 rfl) ?_
          refine fh_put (own := "FormulaSetterModel") (ref := "FormulaSetterModel") (C := "FormulaSetterModel") (T := T_Mo) (N := 53) (v := .int ((nI (T + 1)) - 1)) (ty := .int) hx hb hT i_Mo t_Mo k_Mo n_Mo hown hK hP hS mkM_o rfl 22 (by decide) (hT _ w882) (fun _ h9 => h9) rfl (by decide +kernel) rfl rfl (Nat.le_of_ble_eq_true rfl) (fh_d d_Mo_walk 128 rfl) (fun H locs hP hS => ?_)
          replace hP := fh_P.eq (h' := mkM ct x g (up2 A 39 (upd (A 39) T (4 + 1))) th co at_ wr no nu ((nI (T + 1)) - 1) (nI P) wi he de) hP mkM_ux
          refine lv_goto (tgt := 227) hx hb (fh_d d_Mo_walk 129 rfl) rfl ?_
          rw [nI_pred] at hP
          exact fh_vret X hP hS (fh_d d_Mo_walk 135 rfl) ⟨rfl, by unfold rf_wk; rw [if_neg hsp0, if_neg hsp1, if_neg hsp2, if_neg hsp3], rfl⟩
