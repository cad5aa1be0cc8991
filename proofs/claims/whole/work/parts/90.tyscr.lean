/-! Typesetter: scripts and limits. Printed by wip/whole/gen/p90.py -/
set_option maxHeartbeats 4000000 in
set_option maxRecDepth 100000 in
theorem m_Ki_takesLimits (l : Launch) (D : va_G) (ct : Nat → ClassId) (b : Nat) (RO : State → Prop) (sA sV : Nat → Nat) (hSt : ∀ U, RO U → ro_S b sA sV U) (kA aA yA : Nat → Nat) (tK tS tM : Nat) (hEn : ∀ U, RO U → ro_E b sA kA aA yA tK tS tM U) (hAd : ad_ok kA aA yA) (r n k0 : Nat) (hk0 : k0 < 11) (h : fh_H) : fh_C l D fh_cl (fh_tys ct) b RO y_Ki_takesLimits (Cond.code y_Ki_takesLimits c_Ki_takesLimits 1 (Option.some FieldType.boolean) :: fh_T) (fh_rm r 0 0) [.ref (kA k0)] h n (fun v h' n' => v = some (.int (if k0 = 2 ∨ k0 = 3 then 1 else 0)) ∧ h' = h ∧ n' = n) 0 0 := by
  refine fh_enter (by decide) (Nat.le_of_ble_eq_true rfl) [(0, .ref (kA k0))] rfl ?_
  intro p e s m args below meth c H ls X hP hS hl
  have hx := X.1
  have hb := X.2.1
  have hml := X.2.2.1
  have hown : s.vm.findClass "FormulaSetter$Kind" = some m.cls := X.2.2.2.1
  have hT := X.2.2.2.2.1
  have hK := X.2.2.2.2.2.1
  have hRO := X.2.2.2.2.2.2.1
  have hnm : meth.name = "takesLimits" := X.2.2.2.2.2.2.2.2.2.2
  refine lv_aload_n hx hb (fh_d d_Ki_takesLimits 0 rfl) rfl (lv_at hl 0 rfl) ?_
  refine va_gets (own := "FormulaSetter$Kind") (ref := "FormulaSetter$Kind") (n := "SUM") hx hb ((hEn _ hRO).1 2 (by decide)).1 hS hown (hT _ w805) (fun _ h9 => h9) (fh_d d_Ki_takesLimits 1 rfl) ?_
  refine lv_acmp_eq (rx := some (kA k0)) (ry := some (kA 2)) (tgt := 14) hx hb (fh_d d_Ki_takesLimits 2 rfl) rfl (fun c1 => ?_) (fun c1 => ?_)
  · refine lv_iconst (v := 1) hx hb (fh_d d_Ki_takesLimits 6 rfl) (by decide) ?_
    refine lv_goto (tgt := 19) hx hb (fh_d d_Ki_takesLimits 7 rfl) rfl ?_
    exact fh_zret X hP hS (fh_d d_Ki_takesLimits 9 rfl) (by decide) ⟨by rw [if_pos (Or.inl (hAd.1 _ _ hk0 (by decide) (Option.some.inj c1)))], rfl, rfl⟩
  · refine lv_aload_n hx hb (fh_d d_Ki_takesLimits 3 rfl) rfl (lv_at hl 0 rfl) ?_
    refine va_gets (own := "FormulaSetter$Kind") (ref := "FormulaSetter$Kind") (n := "PROD") hx hb ((hEn _ hRO).1 3 (by decide)).1 hS hown (hT _ w807) (fun _ h9 => h9) (fh_d d_Ki_takesLimits 4 rfl) ?_
    refine lv_acmp_ne (rx := some (kA k0)) (ry := some (kA 3)) (tgt := 18) hx hb (fh_d d_Ki_takesLimits 5 rfl) rfl (fun c2 => ?_) (fun c2 => ?_)
    · refine lv_iconst (v := 0) hx hb (fh_d d_Ki_takesLimits 8 rfl) (by decide) ?_
      exact fh_zret X hP hS (fh_d d_Ki_takesLimits 9 rfl) (by decide) ⟨by rw [if_neg (fun z => z.elim (fun y => c1 (by rw [y])) (fun y => c2 (by rw [y])))], rfl, rfl⟩
    · refine lv_iconst (v := 1) hx hb (fh_d d_Ki_takesLimits 6 rfl) (by decide) ?_
      refine lv_goto (tgt := 19) hx hb (fh_d d_Ki_takesLimits 7 rfl) rfl ?_
      exact fh_zret X hP hS (fh_d d_Ki_takesLimits 9 rfl) (by decide) ⟨by rw [if_pos (Or.inr (hAd.1 _ _ hk0 (by decide) (Option.some.inj c2)))], rfl, rfl⟩

set_option maxHeartbeats 4000000 in
set_option maxRecDepth 100000 in
theorem m_Ty_raiseOf (l : Launch) (D : va_G) (ct : Nat → ClassId) (b : Nat) (RO : State → Prop) (hR : fh_R b RO) (sA sV : Nat → Nat) (hSt : ∀ U, RO U → ro_S b sA sV U) (kA aA yA : Nat → Nat) (tK tS tM : Nat) (hEn : ∀ U, RO U → ro_E b sA kA aA yA tK tS tM U) (hAd : ad_ok kA aA yA) (r : Nat) (hr : 1 ≤ r) (i u si cr : Nat) (hi : i < 60) (hu : u < 60) (hsi : si < 4) (hcr : cr ≤ 1) (n x : Nat) (g : fh_H) (c0 : Nat) (hc0 : c0 ≤ 120) (F W0 H0 D0 : Nat → Int32) (rows cols : Int32) (nc lc : Int32) (tx : Value) (len at_ : Int32) (C : Nat → Nat → Int32) (R : Nat → Nat → Option Nat) (CL : Nat → Nat → Int32) (RL : Nat → Nat → Option Nat) (hokB : okB C CL) : fh_C l D fh_cl (fh_tys ct) b RO y_Ty_raiseOf (Cond.code y_Ty_raiseOf c_Ty_raiseOf 5 (Option.some FieldType.int) :: fh_T) (fh_rm r 0 0) [.ref (x + 4 + u), .ref (x + 4 + i), .ref (yA si), .int (nI cr)] (mkR x kA aA (mkG ct x g (nI c0) F W0 H0 D0 rows cols) nc lc tx len at_ C R CL RL) n (fun v h' n' => v = some (.int (raO si cr (C u 2) (C i 1))) ∧ h' = hz ct x kA aA g nc lc tx len at_ R RL (c0, F, W0, H0, D0, rows, cols, C, CL) ∧ n' = n) 0 0 := by
  refine fh_enter (by decide) (Nat.le_of_ble_eq_true rfl) [(0, .ref (x + 4 + u)), (1, .ref (x + 4 + i)), (2, .ref (yA si)), (3, .int (nI cr))] rfl ?_
  intro p e s m args below meth c H ls X hP hS hl
  have hx := X.1
  have hb := X.2.1
  have hml := X.2.2.1
  have hown : s.vm.findClass "FormulaSetter$Typesetter" = some m.cls := X.2.2.2.1
  have hT := X.2.2.2.2.1
  have hK := X.2.2.2.2.2.1
  have hRO := X.2.2.2.2.2.2.1
  have hnm : meth.name = "raiseOf" := X.2.2.2.2.2.2.2.2.2.2
  refine lv_iload_n hx hb (fh_d d_Ty_raiseOf 0 rfl) rfl (lv_at hl 3 rfl) ?_
  refine lv_if_eq (tgt := 8) hx hb (fh_d d_Ty_raiseOf 1 rfl) rfl (fun c1 => ?_) (fun c1 => ?_)
  · refine lv_iconst (v := 4) hx hb (fh_d d_Ty_raiseOf 4 rfl) (by decide) ?_
    refine lv_aload_n hx hb (fh_d d_Ty_raiseOf 5 rfl) rfl (lv_at hl 2 rfl) ?_
    refine vk_getf (own := "FormulaSetter$Typesetter") (ref := "FormulaSetter$Style") hx hb (((hEn _ hRO).2.2.1 si hsi).2.2.2.1) hS hown (hT _ w1249) (fun _ h9 => h9) (fh_d d_Ty_raiseOf 6 rfl) ?_
    refine lv_imul hx hb (fh_d d_Ty_raiseOf 7 rfl) ?_
    refine lv_istore (lv' := [(4, .int (4 * (yS si))), (0, .ref (x + 4 + u)), (1, .ref (x + 4 + i)), (2, .ref (yA si)), (3, .int (nI cr))]) hx hb (fh_d d_Ty_raiseOf 8 rfl) hl (by decide) rfl (fun ls hl => ?_)
    refine lv_iload hx hb (fh_d d_Ty_raiseOf 9 rfl) (lv_at hl 0 rfl) ?_
    refine lv_aload_n hx hb (fh_d d_Ty_raiseOf 10 rfl) rfl (lv_at hl 2 rfl) ?_
    refine fh_get (own := "FormulaSetter$Typesetter") (ref := "FormulaSetter$Nucleus") (C := "FormulaSetter$Nucleus") (T := T_Nu) (N := 15) (v := .int ((C i) 1)) hx hb hT i_Nu hown hK hP (mkR_nu (hi)) rfl 1 (by decide) (hT _ w94) (fun x9 h9 => u_same (hT _ w95) x9 h9) (rfl) (fh_d d_Ty_raiseOf 11 rfl) ?_
    refine lv_iconst (v := 2) hx hb (fh_d d_Ty_raiseOf 12 rfl) (by decide) ?_
    refine lv_aload_n hx hb (fh_d d_Ty_raiseOf 13 rfl) rfl (lv_at hl 3 rfl) ?_
    refine vk_getf (own := "FormulaSetter$Typesetter") (ref := "FormulaSetter$Style") hx hb (((hEn _ hRO).2.2.1 si hsi).2.2.2.1) hS hown (hT _ w1249) (fun _ h9 => h9) (fh_d d_Ty_raiseOf 14 rfl) ?_
    refine lv_imul hx hb (fh_d d_Ty_raiseOf 15 rfl) ?_
    refine lv_isub hx hb (fh_d d_Ty_raiseOf 16 rfl) ?_
    refine lv_aload_n hx hb (fh_d d_Ty_raiseOf 17 rfl) rfl (lv_at hl 1 rfl) ?_
    refine fh_get (own := "FormulaSetter$Typesetter") (ref := "FormulaSetter$Nucleus") (C := "FormulaSetter$Nucleus") (T := T_Nu) (N := 15) (v := .int ((C u) 2)) hx hb hT i_Nu hown hK hP (mkR_nu (hu)) rfl 2 (by decide) (hT _ w101) (fun x9 h9 => u_same (hT _ w102) x9 h9) (rfl) (fh_d d_Ty_raiseOf 18 rfl) ?_
    refine lv_aload_n hx hb (fh_d d_Ty_raiseOf 19 rfl) rfl (lv_at hl 3 rfl) ?_
    refine vk_getf (own := "FormulaSetter$Typesetter") (ref := "FormulaSetter$Style") hx hb (((hEn _ hRO).2.2.1 si hsi).2.2.2.1) hS hown (hT _ w1249) (fun _ h9 => h9) (fh_d d_Ty_raiseOf 20 rfl) ?_
    refine lv_iadd hx hb (fh_d d_Ty_raiseOf 21 rfl) ?_
    refine va_mmax hx hb (hml.trans hl.1.symm) hown (hT _ w704) (hT _ w431) (hT _ w14) (hT _ w432) (by show 1 ≤ r; omega) (by show _ ≤ 60 * r; simp [Value.category]; omega) (Nat.le_refl _) (Nat.le_refl _) (fh_d d_Ty_raiseOf 22 rfl) ?_
    refine va_mmax hx hb (hml.trans hl.1.symm) hown (hT _ w704) (hT _ w431) (hT _ w14) (hT _ w432) (by show 1 ≤ r; omega) (by show _ ≤ 60 * r; simp [Value.category]; omega) (Nat.le_refl _) (Nat.le_refl _) (fh_d d_Ty_raiseOf 23 rfl) ?_
    have hc9 : cr = 0 := (nI_eq (a := cr) (b := 0) (by omega) (by decide)).mp c1
    exact fh_iret X hP hS (fh_d d_Ty_raiseOf 24 rfl) ⟨by unfold raO; rw [if_pos hc9], rfl, rfl⟩
  · refine lv_iconst (v := 3) hx hb (fh_d d_Ty_raiseOf 2 rfl) (by decide) ?_
    refine lv_goto (tgt := 9) hx hb (fh_d d_Ty_raiseOf 3 rfl) rfl ?_
    refine lv_aload_n hx hb (fh_d d_Ty_raiseOf 5 rfl) rfl (lv_at hl 2 rfl) ?_
    refine vk_getf (own := "FormulaSetter$Typesetter") (ref := "FormulaSetter$Style") hx hb (((hEn _ hRO).2.2.1 si hsi).2.2.2.1) hS hown (hT _ w1249) (fun _ h9 => h9) (fh_d d_Ty_raiseOf 6 rfl) ?_
    refine lv_imul hx hb (fh_d d_Ty_raiseOf 7 rfl) ?_
    refine lv_istore (lv' := [(4, .int (3 * (yS si))), (0, .ref (x + 4 + u)), (1, .ref (x + 4 + i)), (2, .ref (yA si)), (3, .int (nI cr))]) hx hb (fh_d d_Ty_raiseOf 8 rfl) hl (by decide) rfl (fun ls hl => ?_)
    refine lv_iload hx hb (fh_d d_Ty_raiseOf 9 rfl) (lv_at hl 0 rfl) ?_
    refine lv_aload_n hx hb (fh_d d_Ty_raiseOf 10 rfl) rfl (lv_at hl 2 rfl) ?_
    refine fh_get (own := "FormulaSetter$Typesetter") (ref := "FormulaSetter$Nucleus") (C := "FormulaSetter$Nucleus") (T := T_Nu) (N := 15) (v := .int ((C i) 1)) hx hb hT i_Nu hown hK hP (mkR_nu (hi)) rfl 1 (by decide) (hT _ w94) (fun x9 h9 => u_same (hT _ w95) x9 h9) (rfl) (fh_d d_Ty_raiseOf 11 rfl) ?_
    refine lv_iconst (v := 2) hx hb (fh_d d_Ty_raiseOf 12 rfl) (by decide) ?_
    refine lv_aload_n hx hb (fh_d d_Ty_raiseOf 13 rfl) rfl (lv_at hl 3 rfl) ?_
    refine vk_getf (own := "FormulaSetter$Typesetter") (ref := "FormulaSetter$Style") hx hb (((hEn _ hRO).2.2.1 si hsi).2.2.2.1) hS hown (hT _ w1249) (fun _ h9 => h9) (fh_d d_Ty_raiseOf 14 rfl) ?_
    refine lv_imul hx hb (fh_d d_Ty_raiseOf 15 rfl) ?_
    refine lv_isub hx hb (fh_d d_Ty_raiseOf 16 rfl) ?_
    refine lv_aload_n hx hb (fh_d d_Ty_raiseOf 17 rfl) rfl (lv_at hl 1 rfl) ?_
    refine fh_get (own := "FormulaSetter$Typesetter") (ref := "FormulaSetter$Nucleus") (C := "FormulaSetter$Nucleus") (T := T_Nu) (N := 15) (v := .int ((C u) 2)) hx hb hT i_Nu hown hK hP (mkR_nu (hu)) rfl 2 (by decide) (hT _ w101) (fun x9 h9 => u_same (hT _ w102) x9 h9) (rfl) (fh_d d_Ty_raiseOf 18 rfl) ?_
    refine lv_aload_n hx hb (fh_d d_Ty_raiseOf 19 rfl) rfl (lv_at hl 3 rfl) ?_
    refine vk_getf (own := "FormulaSetter$Typesetter") (ref := "FormulaSetter$Style") hx hb (((hEn _ hRO).2.2.1 si hsi).2.2.2.1) hS hown (hT _ w1249) (fun _ h9 => h9) (fh_d d_Ty_raiseOf 20 rfl) ?_
    refine lv_iadd hx hb (fh_d d_Ty_raiseOf 21 rfl) ?_
    refine va_mmax hx hb (hml.trans hl.1.symm) hown (hT _ w704) (hT _ w431) (hT _ w14) (hT _ w432) (by show 1 ≤ r; omega) (by show _ ≤ 60 * r; simp [Value.category]; omega) (Nat.le_refl _) (Nat.le_refl _) (fh_d d_Ty_raiseOf 22 rfl) ?_
    refine va_mmax hx hb (hml.trans hl.1.symm) hown (hT _ w704) (hT _ w431) (hT _ w14) (hT _ w432) (by show 1 ≤ r; omega) (by show _ ≤ 60 * r; simp [Value.category]; omega) (Nat.le_refl _) (Nat.le_refl _) (fh_d d_Ty_raiseOf 23 rfl) ?_
    have hc9 : ¬ cr = 0 := fun z => c1 (by rw [z]; rfl)
    exact fh_iret X hP hS (fh_d d_Ty_raiseOf 24 rfl) ⟨by unfold raO; rw [if_neg hc9], rfl, rfl⟩

set_option maxHeartbeats 4000000 in
set_option maxRecDepth 100000 in
theorem m_Ty_dropOf (l : Launch) (D : va_G) (ct : Nat → ClassId) (b : Nat) (RO : State → Prop) (hR : fh_R b RO) (sA sV : Nat → Nat) (hSt : ∀ U, RO U → ro_S b sA sV U) (kA aA yA : Nat → Nat) (tK tS tM : Nat) (hEn : ∀ U, RO U → ro_E b sA kA aA yA tK tS tM U) (hAd : ad_ok kA aA yA) (r : Nat) (hr : 1 ≤ r) (i u si cr : Nat) (hi : i < 60) (hu : u < 60) (hsi : si < 4) (hcr : cr ≤ 1) (n x : Nat) (g : fh_H) (c0 : Nat) (hc0 : c0 ≤ 120) (F W0 H0 D0 : Nat → Int32) (rows cols : Int32) (nc lc : Int32) (tx : Value) (len at_ : Int32) (C : Nat → Nat → Int32) (R : Nat → Nat → Option Nat) (CL : Nat → Nat → Int32) (RL : Nat → Nat → Option Nat) (hokB : okB C CL) : fh_C l D fh_cl (fh_tys ct) b RO y_Ty_dropOf (Cond.code y_Ty_dropOf c_Ty_dropOf 4 (Option.some FieldType.int) :: fh_T) (fh_rm r 0 0) [.ref (x + 4 + u), .ref (x + 4 + i), .ref (yA si)] (mkR x kA aA (mkG ct x g (nI c0) F W0 H0 D0 rows cols) nc lc tx len at_ C R CL RL) n (fun v h' n' => v = some (.int (drO si (C u 1) (C i 2))) ∧ h' = hz ct x kA aA g nc lc tx len at_ R RL (c0, F, W0, H0, D0, rows, cols, C, CL) ∧ n' = n) 0 0 := by
  refine fh_enter (by decide) (Nat.le_of_ble_eq_true rfl) [(0, .ref (x + 4 + u)), (1, .ref (x + 4 + i)), (2, .ref (yA si))] rfl ?_
  intro p e s m args below meth c H ls X hP hS hl
  have hx := X.1
  have hb := X.2.1
  have hml := X.2.2.1
  have hown : s.vm.findClass "FormulaSetter$Typesetter" = some m.cls := X.2.2.2.1
  have hT := X.2.2.2.2.1
  have hK := X.2.2.2.2.2.1
  have hRO := X.2.2.2.2.2.2.1
  have hnm : meth.name = "dropOf" := X.2.2.2.2.2.2.2.2.2.2
  refine lv_iconst (v := 2) hx hb (fh_d d_Ty_dropOf 0 rfl) (by decide) ?_
  refine lv_aload_n hx hb (fh_d d_Ty_dropOf 1 rfl) rfl (lv_at hl 2 rfl) ?_
  refine vk_getf (own := "FormulaSetter$Typesetter") (ref := "FormulaSetter$Style") hx hb (((hEn _ hRO).2.2.1 si hsi).2.2.2.1) hS hown (hT _ w1249) (fun _ h9 => h9) (fh_d d_Ty_dropOf 2 rfl) ?_
  refine lv_imul hx hb (fh_d d_Ty_dropOf 3 rfl) ?_
  refine lv_istore_n (lv' := [(3, .int (2 * (yS si))), (0, .ref (x + 4 + u)), (1, .ref (x + 4 + i)), (2, .ref (yA si))]) hx hb (fh_d d_Ty_dropOf 4 rfl) rfl hl (by decide) rfl (fun ls hl => ?_)
  refine lv_iload_n hx hb (fh_d d_Ty_dropOf 5 rfl) rfl (lv_at hl 0 rfl) ?_
  refine lv_aload_n hx hb (fh_d d_Ty_dropOf 6 rfl) rfl (lv_at hl 2 rfl) ?_
  refine fh_get (own := "FormulaSetter$Typesetter") (ref := "FormulaSetter$Nucleus") (C := "FormulaSetter$Nucleus") (T := T_Nu) (N := 15) (v := .int ((C i) 2)) hx hb hT i_Nu hown hK hP (mkR_nu (hi)) rfl 2 (by decide) (hT _ w101) (fun x9 h9 => u_same (hT _ w102) x9 h9) (rfl) (fh_d d_Ty_dropOf 7 rfl) ?_
  refine lv_aload_n hx hb (fh_d d_Ty_dropOf 8 rfl) rfl (lv_at hl 3 rfl) ?_
  refine vk_getf (own := "FormulaSetter$Typesetter") (ref := "FormulaSetter$Style") hx hb (((hEn _ hRO).2.2.1 si hsi).2.2.2.1) hS hown (hT _ w1249) (fun _ h9 => h9) (fh_d d_Ty_dropOf 9 rfl) ?_
  refine lv_iconst (v := 2) hx hb (fh_d d_Ty_dropOf 10 rfl) (by decide) ?_
  refine lv_idiv hx hb (fh_d d_Ty_dropOf 11 rfl) (by decide) ?_
  refine lv_iadd hx hb (fh_d d_Ty_dropOf 12 rfl) ?_
  refine lv_aload_n hx hb (fh_d d_Ty_dropOf 13 rfl) rfl (lv_at hl 1 rfl) ?_
  refine fh_get (own := "FormulaSetter$Typesetter") (ref := "FormulaSetter$Nucleus") (C := "FormulaSetter$Nucleus") (T := T_Nu) (N := 15) (v := .int ((C u) 1)) hx hb hT i_Nu hown hK hP (mkR_nu (hu)) rfl 1 (by decide) (hT _ w94) (fun x9 h9 => u_same (hT _ w95) x9 h9) (rfl) (fh_d d_Ty_dropOf 14 rfl) ?_
  refine lv_iconst (v := 4) hx hb (fh_d d_Ty_dropOf 15 rfl) (by decide) ?_
  refine lv_aload_n hx hb (fh_d d_Ty_dropOf 16 rfl) rfl (lv_at hl 3 rfl) ?_
  refine vk_getf (own := "FormulaSetter$Typesetter") (ref := "FormulaSetter$Style") hx hb (((hEn _ hRO).2.2.1 si hsi).2.2.2.1) hS hown (hT _ w1249) (fun _ h9 => h9) (fh_d d_Ty_dropOf 17 rfl) ?_
  refine lv_imul hx hb (fh_d d_Ty_dropOf 18 rfl) ?_
  refine lv_isub hx hb (fh_d d_Ty_dropOf 19 rfl) ?_
  refine va_mmax hx hb (hml.trans hl.1.symm) hown (hT _ w704) (hT _ w431) (hT _ w14) (hT _ w432) (by show 1 ≤ r; omega) (by show _ ≤ 60 * r; simp [Value.category]; omega) (Nat.le_refl _) (Nat.le_refl _) (fh_d d_Ty_dropOf 20 rfl) ?_
  refine va_mmax hx hb (hml.trans hl.1.symm) hown (hT _ w704) (hT _ w431) (hT _ w14) (hT _ w432) (by show 1 ≤ r; omega) (by show _ ≤ 60 * r; simp [Value.category]; omega) (Nat.le_refl _) (Nat.le_refl _) (fh_d d_Ty_dropOf 21 rfl) ?_
  exact fh_iret X hP hS (fh_d d_Ty_dropOf 22 rfl) ⟨rfl, rfl, rfl⟩

set_option maxHeartbeats 4000000 in
set_option maxRecDepth 100000 in
theorem m_Ty_placeLimits (l : Launch) (D : va_G) (ct : Nat → ClassId) (b : Nat) (RO : State → Prop) (hR : fh_R b RO) (sA sV : Nat → Nat) (hSt : ∀ U, RO U → ro_S b sA sV U) (kA aA yA : Nat → Nat) (tK tS tM : Nat) (hEn : ∀ U, RO U → ro_E b sA kA aA yA tK tS tM U) (hAd : ad_ok kA aA yA)  (n x : Nat) (g : fh_H) (c0 : Nat) (hc0 : c0 ≤ 120) (F W0 H0 D0 : Nat → Int32) (rows cols : Int32) (nc lc : Int32) (tx : Value) (len at_ : Int32) (C : Nat → Nat → Int32) (R : Nat → Nat → Option Nat) (CL : Nat → Nat → Int32) (RL : Nat → Nat → Option Nat) (hokB : okB C CL) (r : Nat) (hr : 2 ≤ r) (i si : Nat) (hi : i < 60) (hsi : si < 4) (hu12 : ∀ u, R i 12 = some u → u < 60) (hu13 : ∀ u, R i 13 = some u → u < 60) : fh_C l D fh_cl (fh_tys ct) b RO y_Ty_placeLimits (Cond.code y_Ty_placeLimits c_Ty_placeLimits 10 (Option.none : Option FieldType) :: fh_T) (fh_rm r 0 0) [.ref (x + 226), .ref (x + 4 + i), .ref (yA si)] (mkR x kA aA (mkG ct x g (nI c0) F W0 H0 D0 rows cols) nc lc tx len at_ C R CL RL) n (fun v h' n' => v = none ∧ h' = hz ct x kA aA g nc lc tx len at_ R RL (sLim R i si (c0, F, W0, H0, D0, rows, cols, C, CL)) ∧ n' = n) 0 0 := by
  refine fh_enter (by decide) (Nat.le_of_ble_eq_true rfl) [(0, .ref (x + 226)), (1, .ref (x + 4 + i)), (2, .ref (yA si))] rfl ?_
  intro p e s m args below meth c H ls X hP hS hl
  have hx := X.1
  have hb := X.2.1
  have hml := X.2.2.1
  have hown : s.vm.findClass "FormulaSetter$Typesetter" = some m.cls := X.2.2.2.1
  have hT := X.2.2.2.2.1
  have hK := X.2.2.2.2.2.1
  have hRO := X.2.2.2.2.2.2.1
  have hnm : meth.name = "placeLimits" := X.2.2.2.2.2.2.2.2.2.2
  obtain ⟨o12, h12⟩ : ∃ z, R i 12 = z := ⟨_, rfl⟩
  obtain ⟨o13, h13⟩ : ∃ z, R i 13 = z := ⟨_, rfl⟩
  rcases o12 with _ | u
  · have hu : True := trivial
    rcases o13 with _ | v2
    · have hv2 : True := trivial
      refine lv_aload_n hx hb (fh_d d_Ty_placeLimits 0 rfl) rfl (lv_at hl 1 rfl) ?_
      refine fh_get (own := "FormulaSetter$Typesetter") (ref := "FormulaSetter$Nucleus") (C := "FormulaSetter$Nucleus") (T := T_Nu) (N := 15) (v := .null) hx hb hT i_Nu hown hK hP (mkR_nu (hi)) rfl 12 (by decide) (hT _ w74) (fun _ h9 => h9) (by show some (va_rf ((R i 12).map (fun z => x + 4 + z))) = _; rw [h12]; rfl) (fh_d d_Ty_placeLimits 1 rfl) ?_
      refine lv_astore_nN (lv' := [(3, .null), (0, .ref (x + 226)), (1, .ref (x + 4 + i)), (2, .ref (yA si))]) hx hb (fh_d d_Ty_placeLimits 2 rfl) rfl hl (by decide) rfl (fun ls hl => ?_)
      refine lv_aload_n hx hb (fh_d d_Ty_placeLimits 3 rfl) rfl (lv_at hl 2 rfl) ?_
      refine fh_get (own := "FormulaSetter$Typesetter") (ref := "FormulaSetter$Nucleus") (C := "FormulaSetter$Nucleus") (T := T_Nu) (N := 15) (v := .null) hx hb hT i_Nu hown hK hP (mkR_nu (hi)) rfl 13 (by decide) (hT _ w77) (fun _ h9 => h9) (by show some (va_rf ((R i 13).map (fun z => x + 4 + z))) = _; rw [h13]; rfl) (fh_d d_Ty_placeLimits 4 rfl) ?_
      refine lv_astoreN (lv' := [(4, .null), (3, .null), (0, .ref (x + 226)), (1, .ref (x + 4 + i)), (2, .ref (yA si))]) hx hb (fh_d d_Ty_placeLimits 5 rfl) hl (by decide) rfl (fun ls hl => ?_)
      refine lv_iconst (v := 2) hx hb (fh_d d_Ty_placeLimits 6 rfl) (by decide) ?_
      refine lv_aload_n hx hb (fh_d d_Ty_placeLimits 7 rfl) rfl (lv_at hl 4 rfl) ?_
      refine vk_getf (own := "FormulaSetter$Typesetter") (ref := "FormulaSetter$Style") hx hb (((hEn _ hRO).2.2.1 si hsi).2.2.2.2.1) hS hown (hT _ w1251) (fun _ h9 => h9) (fh_d d_Ty_placeLimits 8 rfl) ?_
      refine lv_imul hx hb (fh_d d_Ty_placeLimits 9 rfl) ?_
      refine lv_istore (lv' := [(5, .int (2 * (yT si))), (4, .null), (3, .null), (0, .ref (x + 226)), (1, .ref (x + 4 + i)), (2, .ref (yA si))]) hx hb (fh_d d_Ty_placeLimits 10 rfl) hl (by decide) rfl (fun ls hl => ?_)
      refine lv_aload_n hx hb (fh_d d_Ty_placeLimits 11 rfl) rfl (lv_at hl 4 rfl) ?_
      refine fh_get (own := "FormulaSetter$Typesetter") (ref := "FormulaSetter$Nucleus") (C := "FormulaSetter$Nucleus") (T := T_Nu) (N := 15) (v := .int ((C i) 0)) hx hb hT i_Nu hown hK hP (mkR_nu (hi)) rfl 0 (by decide) (hT _ w87) (fun x9 h9 => u_same (hT _ w88) x9 h9) (rfl) (fh_d d_Ty_placeLimits 12 rfl) ?_
      refine lv_istore (lv' := [(6, .int ((C i) 0)), (5, .int (2 * (yT si))), (4, .null), (3, .null), (0, .ref (x + 226)), (1, .ref (x + 4 + i)), (2, .ref (yA si))]) hx hb (fh_d d_Ty_placeLimits 13 rfl) hl (by decide) rfl (fun ls hl => ?_)
      refine lv_aload_n hx hb (fh_d d_Ty_placeLimits 14 rfl) rfl (lv_at hl 5 rfl) ?_
      refine fh_get (own := "FormulaSetter$Typesetter") (ref := "FormulaSetter$Nucleus") (C := "FormulaSetter$Nucleus") (T := T_Nu) (N := 15) (v := .int ((C i) 1)) hx hb hT i_Nu hown hK hP (mkR_nu (hi)) rfl 1 (by decide) (hT _ w94) (fun x9 h9 => u_same (hT _ w95) x9 h9) (rfl) (fh_d d_Ty_placeLimits 15 rfl) ?_
      refine lv_istore (lv' := [(7, .int ((C i) 1)), (6, .int ((C i) 0)), (5, .int (2 * (yT si))), (4, .null), (3, .null), (0, .ref (x + 226)), (1, .ref (x + 4 + i)), (2, .ref (yA si))]) hx hb (fh_d d_Ty_placeLimits 16 rfl) hl (by decide) rfl (fun ls hl => ?_)
      refine lv_aload_n hx hb (fh_d d_Ty_placeLimits 17 rfl) rfl (lv_at hl 6 rfl) ?_
      refine fh_get (own := "FormulaSetter$Typesetter") (ref := "FormulaSetter$Nucleus") (C := "FormulaSetter$Nucleus") (T := T_Nu) (N := 15) (v := .int ((C i) 2)) hx hb hT i_Nu hown hK hP (mkR_nu (hi)) rfl 2 (by decide) (hT _ w101) (fun x9 h9 => u_same (hT _ w102) x9 h9) (rfl) (fh_d d_Ty_placeLimits 18 rfl) ?_
      refine lv_istore (lv' := [(8, .int ((C i) 2)), (7, .int ((C i) 1)), (6, .int ((C i) 0)), (5, .int (2 * (yT si))), (4, .null), (3, .null), (0, .ref (x + 226)), (1, .ref (x + 4 + i)), (2, .ref (yA si))]) hx hb (fh_d d_Ty_placeLimits 19 rfl) hl (by decide) rfl (fun ls hl => ?_)
      refine lv_aload_nN hx hb (fh_d d_Ty_placeLimits 20 rfl) rfl (lv_at hl 5 rfl) ?_
      refine lv_ifnullN (tgt := 52) hx hb (fh_d d_Ty_placeLimits 21 rfl) rfl ?_
      refine lv_aloadN hx hb (fh_d d_Ty_placeLimits 27 rfl) (lv_at hl 4 rfl) ?_
      refine lv_ifnullN (tgt := 69) hx hb (fh_d d_Ty_placeLimits 28 rfl) rfl ?_
      refine lv_aload_n hx hb (fh_d d_Ty_placeLimits 34 rfl) rfl (lv_at hl 6 rfl) ?_
      refine fh_get (own := "FormulaSetter$Typesetter") (ref := "FormulaSetter$Typesetter") (C := "FormulaSetter$Typesetter") (T := T_Ty) (N := 2) (v := .ref (x + 227)) hx hb hT i_Ty hown hK hP ((mkR_g (by omega) (by omega) (by omega)).trans mkG_ts) rfl 0 (by decide) (hT _ w247) (fun _ h9 => h9) rfl (fh_d d_Ty_placeLimits 35 rfl) ?_
      refine lv_aload_n hx hb (fh_d d_Ty_placeLimits 36 rfl) rfl (lv_at hl 7 rfl) ?_
      refine lv_iload hx hb (fh_d d_Ty_placeLimits 37 rfl) (lv_at hl 2 rfl) ?_
      refine lv_aload_n hx hb (fh_d d_Ty_placeLimits 38 rfl) rfl (lv_at hl 7 rfl) ?_
      refine fh_get (own := "FormulaSetter$Typesetter") (ref := "FormulaSetter$Nucleus") (C := "FormulaSetter$Nucleus") (T := T_Nu) (N := 15) (v := .int ((C i) 0)) hx hb hT i_Nu hown hK hP (mkR_nu (hi)) rfl 0 (by decide) (hT _ w87) (fun x9 h9 => u_same (hT _ w88) x9 h9) (rfl) (fh_d d_Ty_placeLimits 39 rfl) ?_
      refine lv_isub hx hb (fh_d d_Ty_placeLimits 40 rfl) ?_
      refine lv_iconst (v := 2) hx hb (fh_d d_Ty_placeLimits 41 rfl) (by decide) ?_
      refine lv_idiv hx hb (fh_d d_Ty_placeLimits 42 rfl) (by decide) ?_
      refine lv_iconst (v := 0) hx hb (fh_d d_Ty_placeLimits 43 rfl) (by decide) ?_
      refine fh_callV (cc' := c_Sh_move) (nL' := 5) (rest := []) (a := x + 227) (As := [.ref (x + 4 + i), .int ((((C i) 0) - ((C i) 0)) / 2), .int 0]) X hR (m_Sh_mvNu l D ct b RO (r - 1) (by omega) n x kA aA g (nI c0) F W0 H0 D0 rows cols nc lc tx len at_ C R CL RL i (hi) (hokB.1 i (hi)).1 (hokB.1 i (hi)).2 ((((C i) 0) - ((C i) 0)) / 2) 0) w723 w720 w721 w722 w7 ⟨by decide, by decide, by show _ = some 3; decide +kernel⟩ (by omega) (by decide) (fh_recv hK hP ((mkR_g (by omega) (by omega) (by omega)).trans mkG_sh) rfl) hP hS hl.1 rfl (by exact Nat.le_of_ble_eq_true rfl) (fh_d d_Ty_placeLimits 44 rfl) ⟨Nat.le_refl _, Nat.le_refl _⟩ (fun v9 h9 n9 H locs hq hP hS => ?_)
      obtain ⟨rfl, q3a, q3b⟩ := hq
      rw [q3a, q3b] at hP
      refine W.eq (g2 := F0 m 87 ls []) rfl ?_
      refine lv_aload_nN hx hb (fh_d d_Ty_placeLimits 45 rfl) rfl (lv_at hl 5 rfl) ?_
      refine lv_ifnullN (tgt := 133) hx hb (fh_d d_Ty_placeLimits 46 rfl) rfl ?_
      refine lv_aloadN hx hb (fh_d d_Ty_placeLimits 71 rfl) (lv_at hl 4 rfl) ?_
      refine lv_ifnullN (tgt := 185) hx hb (fh_d d_Ty_placeLimits 72 rfl) rfl ?_
      refine lv_aload_n hx hb (fh_d d_Ty_placeLimits 98 rfl) rfl (lv_at hl 7 rfl) ?_
      refine lv_iload hx hb (fh_d d_Ty_placeLimits 99 rfl) (lv_at hl 2 rfl) ?_
      refine lv_iload hx hb (fh_d d_Ty_placeLimits 100 rfl) (lv_at hl 1 rfl) ?_
      refine lv_iload hx hb (fh_d d_Ty_placeLimits 101 rfl) (lv_at hl 0 rfl) ?_
      refine fh_callU (cc' := c_Bo_measure) (nL' := 4) (rest := []) (a := x + 4 + i) (As := [.int ((C i) 0), .int ((C i) 1), .int ((C i) 2)]) (Ck := "FormulaSetter$Nucleus") (owner := "FormulaSetter$Box") (x' := ⟨"FormulaSetter$Nucleus", "measure", "(III)V"⟩) X hR (m_Bo_measureNu l D ct b RO (r - 1) n x kA aA g (nI c0) (mvF F (ixI (C i 3)) (ixI (C i 4)) ((((C i) 0) - ((C i) 0)) / 2) 0) W0 H0 D0 rows cols nc lc tx len at_ C R CL RL i (hi) ((C i) 0) ((C i) 1) ((C i) 2)) w655 w691 w692 rfl w654 w693 w3 ⟨by decide, by decide, by show _ = some 3; decide +kernel⟩ (by omega) (by decide) (fh_recv hK hP (mkR_nu (hi)) rfl) hP hS hl.1 rfl (by exact Nat.le_of_ble_eq_true rfl) (fh_d d_Ty_placeLimits 102 rfl) ⟨Nat.le_refl _, Nat.le_refl _⟩ (fun v9 h9 n9 H locs hq hP hS => ?_)
      obtain ⟨rfl, q6a, q6b⟩ := hq
      rw [q6a, q6b] at hP
      refine W.eq (g2 := F0 m 195 ls []) rfl ?_
      have f7 : (sT (sT (sT C i 0 ((C i) 0)) i 1 ((C i) 1)) i 2 ((C i) 2)) i 0 = (C i) 0 := (sT_ne (by omega)).trans ((sT_ne (by omega)).trans sT_same)
      have f8 : (sT (sT (sT C i 0 ((C i) 0)) i 1 ((C i) 1)) i 2 ((C i) 2)) i 1 = (C i) 1 := (sT_ne (by omega)).trans sT_same
      have f9 : (sT (sT (sT C i 0 ((C i) 0)) i 1 ((C i) 1)) i 2 ((C i) 2)) i 2 = (C i) 2 := sT_same
      have y10 : okB (sT (sT (sT C i 0 ((C i) 0)) i 1 ((C i) 1)) i 2 ((C i) 2)) CL := okB_m hokB i ((C i) 0) ((C i) 1) ((C i) 2)
      refine fh_vret X hP hS (fh_d d_Ty_placeLimits 103 rfl) ⟨rfl, ?_, rfl⟩
      · unfold sLim; dsimp only; rw [h12, h13]; rfl
    · have hv2 := hu13 v2 h13
      refine lv_aload_n hx hb (fh_d d_Ty_placeLimits 0 rfl) rfl (lv_at hl 1 rfl) ?_
      refine fh_get (own := "FormulaSetter$Typesetter") (ref := "FormulaSetter$Nucleus") (C := "FormulaSetter$Nucleus") (T := T_Nu) (N := 15) (v := .null) hx hb hT i_Nu hown hK hP (mkR_nu (hi)) rfl 12 (by decide) (hT _ w74) (fun _ h9 => h9) (by show some (va_rf ((R i 12).map (fun z => x + 4 + z))) = _; rw [h12]; rfl) (fh_d d_Ty_placeLimits 1 rfl) ?_
      refine lv_astore_nN (lv' := [(3, .null), (0, .ref (x + 226)), (1, .ref (x + 4 + i)), (2, .ref (yA si))]) hx hb (fh_d d_Ty_placeLimits 2 rfl) rfl hl (by decide) rfl (fun ls hl => ?_)
      refine lv_aload_n hx hb (fh_d d_Ty_placeLimits 3 rfl) rfl (lv_at hl 2 rfl) ?_
      refine fh_get (own := "FormulaSetter$Typesetter") (ref := "FormulaSetter$Nucleus") (C := "FormulaSetter$Nucleus") (T := T_Nu) (N := 15) (v := .ref (x + 4 + v2)) hx hb hT i_Nu hown hK hP (mkR_nu (hi)) rfl 13 (by decide) (hT _ w77) (fun _ h9 => h9) (by show some (va_rf ((R i 13).map (fun z => x + 4 + z))) = _; rw [h13]; rfl) (fh_d d_Ty_placeLimits 4 rfl) ?_
      refine lv_astore (lv' := [(4, .ref (x + 4 + v2)), (3, .null), (0, .ref (x + 226)), (1, .ref (x + 4 + i)), (2, .ref (yA si))]) hx hb (fh_d d_Ty_placeLimits 5 rfl) hl (by decide) rfl (fun ls hl => ?_)
      refine lv_iconst (v := 2) hx hb (fh_d d_Ty_placeLimits 6 rfl) (by decide) ?_
      refine lv_aload_n hx hb (fh_d d_Ty_placeLimits 7 rfl) rfl (lv_at hl 4 rfl) ?_
      refine vk_getf (own := "FormulaSetter$Typesetter") (ref := "FormulaSetter$Style") hx hb (((hEn _ hRO).2.2.1 si hsi).2.2.2.2.1) hS hown (hT _ w1251) (fun _ h9 => h9) (fh_d d_Ty_placeLimits 8 rfl) ?_
      refine lv_imul hx hb (fh_d d_Ty_placeLimits 9 rfl) ?_
      refine lv_istore (lv' := [(5, .int (2 * (yT si))), (4, .ref (x + 4 + v2)), (3, .null), (0, .ref (x + 226)), (1, .ref (x + 4 + i)), (2, .ref (yA si))]) hx hb (fh_d d_Ty_placeLimits 10 rfl) hl (by decide) rfl (fun ls hl => ?_)
      refine lv_aload_n hx hb (fh_d d_Ty_placeLimits 11 rfl) rfl (lv_at hl 4 rfl) ?_
      refine fh_get (own := "FormulaSetter$Typesetter") (ref := "FormulaSetter$Nucleus") (C := "FormulaSetter$Nucleus") (T := T_Nu) (N := 15) (v := .int ((C i) 0)) hx hb hT i_Nu hown hK hP (mkR_nu (hi)) rfl 0 (by decide) (hT _ w87) (fun x9 h9 => u_same (hT _ w88) x9 h9) (rfl) (fh_d d_Ty_placeLimits 12 rfl) ?_
      refine lv_istore (lv' := [(6, .int ((C i) 0)), (5, .int (2 * (yT si))), (4, .ref (x + 4 + v2)), (3, .null), (0, .ref (x + 226)), (1, .ref (x + 4 + i)), (2, .ref (yA si))]) hx hb (fh_d d_Ty_placeLimits 13 rfl) hl (by decide) rfl (fun ls hl => ?_)
      refine lv_aload_n hx hb (fh_d d_Ty_placeLimits 14 rfl) rfl (lv_at hl 5 rfl) ?_
      refine fh_get (own := "FormulaSetter$Typesetter") (ref := "FormulaSetter$Nucleus") (C := "FormulaSetter$Nucleus") (T := T_Nu) (N := 15) (v := .int ((C i) 1)) hx hb hT i_Nu hown hK hP (mkR_nu (hi)) rfl 1 (by decide) (hT _ w94) (fun x9 h9 => u_same (hT _ w95) x9 h9) (rfl) (fh_d d_Ty_placeLimits 15 rfl) ?_
      refine lv_istore (lv' := [(7, .int ((C i) 1)), (6, .int ((C i) 0)), (5, .int (2 * (yT si))), (4, .ref (x + 4 + v2)), (3, .null), (0, .ref (x + 226)), (1, .ref (x + 4 + i)), (2, .ref (yA si))]) hx hb (fh_d d_Ty_placeLimits 16 rfl) hl (by decide) rfl (fun ls hl => ?_)
      refine lv_aload_n hx hb (fh_d d_Ty_placeLimits 17 rfl) rfl (lv_at hl 6 rfl) ?_
      refine fh_get (own := "FormulaSetter$Typesetter") (ref := "FormulaSetter$Nucleus") (C := "FormulaSetter$Nucleus") (T := T_Nu) (N := 15) (v := .int ((C i) 2)) hx hb hT i_Nu hown hK hP (mkR_nu (hi)) rfl 2 (by decide) (hT _ w101) (fun x9 h9 => u_same (hT _ w102) x9 h9) (rfl) (fh_d d_Ty_placeLimits 18 rfl) ?_
      refine lv_istore (lv' := [(8, .int ((C i) 2)), (7, .int ((C i) 1)), (6, .int ((C i) 0)), (5, .int (2 * (yT si))), (4, .ref (x + 4 + v2)), (3, .null), (0, .ref (x + 226)), (1, .ref (x + 4 + i)), (2, .ref (yA si))]) hx hb (fh_d d_Ty_placeLimits 19 rfl) hl (by decide) rfl (fun ls hl => ?_)
      refine lv_aload_nN hx hb (fh_d d_Ty_placeLimits 20 rfl) rfl (lv_at hl 5 rfl) ?_
      refine lv_ifnullN (tgt := 52) hx hb (fh_d d_Ty_placeLimits 21 rfl) rfl ?_
      refine lv_aload hx hb (fh_d d_Ty_placeLimits 27 rfl) (lv_at hl 4 rfl) ?_
      refine lv_ifnull hx hb (fh_d d_Ty_placeLimits 28 rfl) ?_
      refine lv_iload hx hb (fh_d d_Ty_placeLimits 29 rfl) (lv_at hl 2 rfl) ?_
      refine lv_aload hx hb (fh_d d_Ty_placeLimits 30 rfl) (lv_at hl 4 rfl) ?_
      refine fh_get (own := "FormulaSetter$Typesetter") (ref := "FormulaSetter$Nucleus") (C := "FormulaSetter$Nucleus") (T := T_Nu) (N := 15) (v := .int ((C v2) 0)) hx hb hT i_Nu hown hK hP (mkR_nu (hv2)) rfl 0 (by decide) (hT _ w87) (fun x9 h9 => u_same (hT _ w88) x9 h9) (rfl) (fh_d d_Ty_placeLimits 31 rfl) ?_
      refine va_mmax hx hb (hml.trans hl.1.symm) hown (hT _ w704) (hT _ w431) (hT _ w14) (hT _ w432) (by show 1 ≤ r; omega) (by show _ ≤ 60 * r; simp [Value.category]; omega) (Nat.le_refl _) (Nat.le_refl _) (fh_d d_Ty_placeLimits 32 rfl) ?_
      refine lv_istore (lv' := [(6, .int (if ((C i) 0) < ((C v2) 0) then ((C v2) 0) else ((C i) 0))), (8, .int ((C i) 2)), (7, .int ((C i) 1)), (5, .int (2 * (yT si))), (4, .ref (x + 4 + v2)), (3, .null), (0, .ref (x + 226)), (1, .ref (x + 4 + i)), (2, .ref (yA si))]) hx hb (fh_d d_Ty_placeLimits 33 rfl) hl (by decide) rfl (fun ls hl => ?_)
      refine lv_aload_n hx hb (fh_d d_Ty_placeLimits 34 rfl) rfl (lv_at hl 6 rfl) ?_
      refine fh_get (own := "FormulaSetter$Typesetter") (ref := "FormulaSetter$Typesetter") (C := "FormulaSetter$Typesetter") (T := T_Ty) (N := 2) (v := .ref (x + 227)) hx hb hT i_Ty hown hK hP ((mkR_g (by omega) (by omega) (by omega)).trans mkG_ts) rfl 0 (by decide) (hT _ w247) (fun _ h9 => h9) rfl (fh_d d_Ty_placeLimits 35 rfl) ?_
      refine lv_aload_n hx hb (fh_d d_Ty_placeLimits 36 rfl) rfl (lv_at hl 7 rfl) ?_
      refine lv_iload hx hb (fh_d d_Ty_placeLimits 37 rfl) (lv_at hl 0 rfl) ?_
      refine lv_aload_n hx hb (fh_d d_Ty_placeLimits 38 rfl) rfl (lv_at hl 7 rfl) ?_
      refine fh_get (own := "FormulaSetter$Typesetter") (ref := "FormulaSetter$Nucleus") (C := "FormulaSetter$Nucleus") (T := T_Nu) (N := 15) (v := .int ((C i) 0)) hx hb hT i_Nu hown hK hP (mkR_nu (hi)) rfl 0 (by decide) (hT _ w87) (fun x9 h9 => u_same (hT _ w88) x9 h9) (rfl) (fh_d d_Ty_placeLimits 39 rfl) ?_
      refine lv_isub hx hb (fh_d d_Ty_placeLimits 40 rfl) ?_
      refine lv_iconst (v := 2) hx hb (fh_d d_Ty_placeLimits 41 rfl) (by decide) ?_
      refine lv_idiv hx hb (fh_d d_Ty_placeLimits 42 rfl) (by decide) ?_
      refine lv_iconst (v := 0) hx hb (fh_d d_Ty_placeLimits 43 rfl) (by decide) ?_
      refine fh_callV (cc' := c_Sh_move) (nL' := 5) (rest := []) (a := x + 227) (As := [.ref (x + 4 + i), .int (((if ((C i) 0) < ((C v2) 0) then ((C v2) 0) else ((C i) 0)) - ((C i) 0)) / 2), .int 0]) X hR (m_Sh_mvNu l D ct b RO (r - 1) (by omega) n x kA aA g (nI c0) F W0 H0 D0 rows cols nc lc tx len at_ C R CL RL i (hi) (hokB.1 i (hi)).1 (hokB.1 i (hi)).2 (((if ((C i) 0) < ((C v2) 0) then ((C v2) 0) else ((C i) 0)) - ((C i) 0)) / 2) 0) w723 w720 w721 w722 w7 ⟨by decide, by decide, by show _ = some 3; decide +kernel⟩ (by omega) (by decide) (fh_recv hK hP ((mkR_g (by omega) (by omega) (by omega)).trans mkG_sh) rfl) hP hS hl.1 rfl (by exact Nat.le_of_ble_eq_true rfl) (fh_d d_Ty_placeLimits 44 rfl) ⟨Nat.le_refl _, Nat.le_refl _⟩ (fun v9 h9 n9 H locs hq hP hS => ?_)
      obtain ⟨rfl, q13a, q13b⟩ := hq
      rw [q13a, q13b] at hP
      refine W.eq (g2 := F0 m 87 ls []) rfl ?_
      refine lv_aload_nN hx hb (fh_d d_Ty_placeLimits 45 rfl) rfl (lv_at hl 5 rfl) ?_
      refine lv_ifnullN (tgt := 133) hx hb (fh_d d_Ty_placeLimits 46 rfl) rfl ?_
      refine lv_aload hx hb (fh_d d_Ty_placeLimits 71 rfl) (lv_at hl 4 rfl) ?_
      refine lv_ifnull hx hb (fh_d d_Ty_placeLimits 72 rfl) ?_
      refine lv_aload_n hx hb (fh_d d_Ty_placeLimits 73 rfl) rfl (lv_at hl 7 rfl) ?_
      refine fh_get (own := "FormulaSetter$Typesetter") (ref := "FormulaSetter$Nucleus") (C := "FormulaSetter$Nucleus") (T := T_Nu) (N := 15) (v := .int ((C i) 2)) hx hb hT i_Nu hown hK hP (mkR_nu (hi)) rfl 2 (by decide) (hT _ w101) (fun x9 h9 => u_same (hT _ w102) x9 h9) (rfl) (fh_d d_Ty_placeLimits 74 rfl) ?_
      refine lv_iload hx hb (fh_d d_Ty_placeLimits 75 rfl) (lv_at hl 3 rfl) ?_
      refine lv_iadd hx hb (fh_d d_Ty_placeLimits 76 rfl) ?_
      refine lv_aload hx hb (fh_d d_Ty_placeLimits 77 rfl) (lv_at hl 4 rfl) ?_
      refine fh_get (own := "FormulaSetter$Typesetter") (ref := "FormulaSetter$Nucleus") (C := "FormulaSetter$Nucleus") (T := T_Nu) (N := 15) (v := .int ((C v2) 1)) hx hb hT i_Nu hown hK hP (mkR_nu (hv2)) rfl 1 (by decide) (hT _ w94) (fun x9 h9 => u_same (hT _ w95) x9 h9) (rfl) (fh_d d_Ty_placeLimits 78 rfl) ?_
      refine lv_iadd hx hb (fh_d d_Ty_placeLimits 79 rfl) ?_
      refine lv_istore (lv' := [(9, .int ((((C i) 2) + (2 * (yT si))) + ((C v2) 1))), (6, .int (if ((C i) 0) < ((C v2) 0) then ((C v2) 0) else ((C i) 0))), (8, .int ((C i) 2)), (7, .int ((C i) 1)), (5, .int (2 * (yT si))), (4, .ref (x + 4 + v2)), (3, .null), (0, .ref (x + 226)), (1, .ref (x + 4 + i)), (2, .ref (yA si))]) hx hb (fh_d d_Ty_placeLimits 80 rfl) hl (by decide) rfl (fun ls hl => ?_)
      refine lv_aload_n hx hb (fh_d d_Ty_placeLimits 81 rfl) rfl (lv_at hl 7 rfl) ?_
      refine fh_get (own := "FormulaSetter$Typesetter") (ref := "FormulaSetter$Typesetter") (C := "FormulaSetter$Typesetter") (T := T_Ty) (N := 2) (v := .ref (x + 227)) hx hb hT i_Ty hown hK hP ((mkR_g (by omega) (by omega) (by omega)).trans mkG_ts) rfl 0 (by decide) (hT _ w247) (fun _ h9 => h9) rfl (fh_d d_Ty_placeLimits 82 rfl) ?_
      refine lv_aload hx hb (fh_d d_Ty_placeLimits 83 rfl) (lv_at hl 5 rfl) ?_
      refine lv_iload hx hb (fh_d d_Ty_placeLimits 84 rfl) (lv_at hl 1 rfl) ?_
      refine lv_aload hx hb (fh_d d_Ty_placeLimits 85 rfl) (lv_at hl 5 rfl) ?_
      refine fh_get (own := "FormulaSetter$Typesetter") (ref := "FormulaSetter$Nucleus") (C := "FormulaSetter$Nucleus") (T := T_Nu) (N := 15) (v := .int ((C v2) 0)) hx hb hT i_Nu hown hK hP (mkR_nu (hv2)) rfl 0 (by decide) (hT _ w87) (fun x9 h9 => u_same (hT _ w88) x9 h9) (rfl) (fh_d d_Ty_placeLimits 86 rfl) ?_
      refine lv_isub hx hb (fh_d d_Ty_placeLimits 87 rfl) ?_
      refine lv_iconst (v := 2) hx hb (fh_d d_Ty_placeLimits 88 rfl) (by decide) ?_
      refine lv_idiv hx hb (fh_d d_Ty_placeLimits 89 rfl) (by decide) ?_
      refine lv_iload hx hb (fh_d d_Ty_placeLimits 90 rfl) (lv_at hl 0 rfl) ?_
      refine lv_ineg hx hb (fh_d d_Ty_placeLimits 91 rfl) ?_
      refine fh_callV (cc' := c_Sh_move) (nL' := 5) (rest := []) (a := x + 227) (As := [.ref (x + 4 + v2), .int (((if ((C i) 0) < ((C v2) 0) then ((C v2) 0) else ((C i) 0)) - ((C v2) 0)) / 2), .int (-((((C i) 2) + (2 * (yT si))) + ((C v2) 1)))]) X hR (m_Sh_mvNu l D ct b RO (r - 1) (by omega) n x kA aA g (nI c0) (mvF F (ixI (C i 3)) (ixI (C i 4)) (((if ((C i) 0) < ((C v2) 0) then ((C v2) 0) else ((C i) 0)) - ((C i) 0)) / 2) 0) W0 H0 D0 rows cols nc lc tx len at_ C R CL RL v2 (hv2) (hokB.1 v2 (hv2)).1 (hokB.1 v2 (hv2)).2 (((if ((C i) 0) < ((C v2) 0) then ((C v2) 0) else ((C i) 0)) - ((C v2) 0)) / 2) (-((((C i) 2) + (2 * (yT si))) + ((C v2) 1)))) w723 w720 w721 w722 w7 ⟨by decide, by decide, by show _ = some 3; decide +kernel⟩ (by omega) (by decide) (fh_recv hK hP ((mkR_g (by omega) (by omega) (by omega)).trans mkG_sh) rfl) hP hS hl.1 rfl (by exact Nat.le_of_ble_eq_true rfl) (fh_d d_Ty_placeLimits 92 rfl) ⟨Nat.le_refl _, Nat.le_refl _⟩ (fun v9 h9 n9 H locs hq hP hS => ?_)
      obtain ⟨rfl, q16a, q16b⟩ := hq
      rw [q16a, q16b] at hP
      refine W.eq (g2 := F0 m 175 ls []) rfl ?_
      refine lv_iload hx hb (fh_d d_Ty_placeLimits 93 rfl) (lv_at hl 0 rfl) ?_
      refine lv_aload hx hb (fh_d d_Ty_placeLimits 94 rfl) (lv_at hl 5 rfl) ?_
      refine fh_get (own := "FormulaSetter$Typesetter") (ref := "FormulaSetter$Nucleus") (C := "FormulaSetter$Nucleus") (T := T_Nu) (N := 15) (v := .int ((C v2) 2)) hx hb hT i_Nu hown hK hP (mkR_nu (hv2)) rfl 2 (by decide) (hT _ w101) (fun x9 h9 => u_same (hT _ w102) x9 h9) (rfl) (fh_d d_Ty_placeLimits 95 rfl) ?_
      refine lv_iadd hx hb (fh_d d_Ty_placeLimits 96 rfl) ?_
      refine lv_istore (lv' := [(8, .int (((((C i) 2) + (2 * (yT si))) + ((C v2) 1)) + ((C v2) 2))), (9, .int ((((C i) 2) + (2 * (yT si))) + ((C v2) 1))), (6, .int (if ((C i) 0) < ((C v2) 0) then ((C v2) 0) else ((C i) 0))), (7, .int ((C i) 1)), (5, .int (2 * (yT si))), (4, .ref (x + 4 + v2)), (3, .null), (0, .ref (x + 226)), (1, .ref (x + 4 + i)), (2, .ref (yA si))]) hx hb (fh_d d_Ty_placeLimits 97 rfl) hl (by decide) rfl (fun ls hl => ?_)
      refine lv_aload_n hx hb (fh_d d_Ty_placeLimits 98 rfl) rfl (lv_at hl 8 rfl) ?_
      refine lv_iload hx hb (fh_d d_Ty_placeLimits 99 rfl) (lv_at hl 2 rfl) ?_
      refine lv_iload hx hb (fh_d d_Ty_placeLimits 100 rfl) (lv_at hl 3 rfl) ?_
      refine lv_iload hx hb (fh_d d_Ty_placeLimits 101 rfl) (lv_at hl 0 rfl) ?_
      refine fh_callU (cc' := c_Bo_measure) (nL' := 4) (rest := []) (a := x + 4 + i) (As := [.int (if ((C i) 0) < ((C v2) 0) then ((C v2) 0) else ((C i) 0)), .int ((C i) 1), .int (((((C i) 2) + (2 * (yT si))) + ((C v2) 1)) + ((C v2) 2))]) (Ck := "FormulaSetter$Nucleus") (owner := "FormulaSetter$Box") (x' := ⟨"FormulaSetter$Nucleus", "measure", "(III)V"⟩) X hR (m_Bo_measureNu l D ct b RO (r - 1) n x kA aA g (nI c0) (mvF (mvF F (ixI (C i 3)) (ixI (C i 4)) (((if ((C i) 0) < ((C v2) 0) then ((C v2) 0) else ((C i) 0)) - ((C i) 0)) / 2) 0) (ixI (C v2 3)) (ixI (C v2 4)) (((if ((C i) 0) < ((C v2) 0) then ((C v2) 0) else ((C i) 0)) - ((C v2) 0)) / 2) (-((((C i) 2) + (2 * (yT si))) + ((C v2) 1)))) W0 H0 D0 rows cols nc lc tx len at_ C R CL RL i (hi) (if ((C i) 0) < ((C v2) 0) then ((C v2) 0) else ((C i) 0)) ((C i) 1) (((((C i) 2) + (2 * (yT si))) + ((C v2) 1)) + ((C v2) 2))) w655 w691 w692 rfl w654 w693 w3 ⟨by decide, by decide, by show _ = some 3; decide +kernel⟩ (by omega) (by decide) (fh_recv hK hP (mkR_nu (hi)) rfl) hP hS hl.1 rfl (by exact Nat.le_of_ble_eq_true rfl) (fh_d d_Ty_placeLimits 102 rfl) ⟨Nat.le_refl _, Nat.le_refl _⟩ (fun v9 h9 n9 H locs hq hP hS => ?_)
      obtain ⟨rfl, q17a, q17b⟩ := hq
      rw [q17a, q17b] at hP
      refine W.eq (g2 := F0 m 195 ls []) rfl ?_
      have f18 : (sT (sT (sT C i 0 (if ((C i) 0) < ((C v2) 0) then ((C v2) 0) else ((C i) 0))) i 1 ((C i) 1)) i 2 (((((C i) 2) + (2 * (yT si))) + ((C v2) 1)) + ((C v2) 2))) i 0 = if ((C i) 0) < ((C v2) 0) then ((C v2) 0) else ((C i) 0) := (sT_ne (by omega)).trans ((sT_ne (by omega)).trans sT_same)
      have f19 : (sT (sT (sT C i 0 (if ((C i) 0) < ((C v2) 0) then ((C v2) 0) else ((C i) 0))) i 1 ((C i) 1)) i 2 (((((C i) 2) + (2 * (yT si))) + ((C v2) 1)) + ((C v2) 2))) i 1 = (C i) 1 := (sT_ne (by omega)).trans sT_same
      have f20 : (sT (sT (sT C i 0 (if ((C i) 0) < ((C v2) 0) then ((C v2) 0) else ((C i) 0))) i 1 ((C i) 1)) i 2 (((((C i) 2) + (2 * (yT si))) + ((C v2) 1)) + ((C v2) 2))) i 2 = ((((C i) 2) + (2 * (yT si))) + ((C v2) 1)) + ((C v2) 2) := sT_same
      have y21 : okB (sT (sT (sT C i 0 (if ((C i) 0) < ((C v2) 0) then ((C v2) 0) else ((C i) 0))) i 1 ((C i) 1)) i 2 (((((C i) 2) + (2 * (yT si))) + ((C v2) 1)) + ((C v2) 2))) CL := okB_m hokB i (if ((C i) 0) < ((C v2) 0) then ((C v2) 0) else ((C i) 0)) ((C i) 1) (((((C i) 2) + (2 * (yT si))) + ((C v2) 1)) + ((C v2) 2))
      refine fh_vret X hP hS (fh_d d_Ty_placeLimits 103 rfl) ⟨rfl, ?_, rfl⟩
      · unfold sLim; dsimp only; rw [h12, h13]; rfl
  · have hu := hu12 u h12
    rcases o13 with _ | v2
    · have hv2 : True := trivial
      refine lv_aload_n hx hb (fh_d d_Ty_placeLimits 0 rfl) rfl (lv_at hl 1 rfl) ?_
      refine fh_get (own := "FormulaSetter$Typesetter") (ref := "FormulaSetter$Nucleus") (C := "FormulaSetter$Nucleus") (T := T_Nu) (N := 15) (v := .ref (x + 4 + u)) hx hb hT i_Nu hown hK hP (mkR_nu (hi)) rfl 12 (by decide) (hT _ w74) (fun _ h9 => h9) (by show some (va_rf ((R i 12).map (fun z => x + 4 + z))) = _; rw [h12]; rfl) (fh_d d_Ty_placeLimits 1 rfl) ?_
      refine lv_astore_n (lv' := [(3, .ref (x + 4 + u)), (0, .ref (x + 226)), (1, .ref (x + 4 + i)), (2, .ref (yA si))]) hx hb (fh_d d_Ty_placeLimits 2 rfl) rfl hl (by decide) rfl (fun ls hl => ?_)
      refine lv_aload_n hx hb (fh_d d_Ty_placeLimits 3 rfl) rfl (lv_at hl 2 rfl) ?_
      refine fh_get (own := "FormulaSetter$Typesetter") (ref := "FormulaSetter$Nucleus") (C := "FormulaSetter$Nucleus") (T := T_Nu) (N := 15) (v := .null) hx hb hT i_Nu hown hK hP (mkR_nu (hi)) rfl 13 (by decide) (hT _ w77) (fun _ h9 => h9) (by show some (va_rf ((R i 13).map (fun z => x + 4 + z))) = _; rw [h13]; rfl) (fh_d d_Ty_placeLimits 4 rfl) ?_
      refine lv_astoreN (lv' := [(4, .null), (3, .ref (x + 4 + u)), (0, .ref (x + 226)), (1, .ref (x + 4 + i)), (2, .ref (yA si))]) hx hb (fh_d d_Ty_placeLimits 5 rfl) hl (by decide) rfl (fun ls hl => ?_)
      refine lv_iconst (v := 2) hx hb (fh_d d_Ty_placeLimits 6 rfl) (by decide) ?_
      refine lv_aload_n hx hb (fh_d d_Ty_placeLimits 7 rfl) rfl (lv_at hl 4 rfl) ?_
      refine vk_getf (own := "FormulaSetter$Typesetter") (ref := "FormulaSetter$Style") hx hb (((hEn _ hRO).2.2.1 si hsi).2.2.2.2.1) hS hown (hT _ w1251) (fun _ h9 => h9) (fh_d d_Ty_placeLimits 8 rfl) ?_
      refine lv_imul hx hb (fh_d d_Ty_placeLimits 9 rfl) ?_
      refine lv_istore (lv' := [(5, .int (2 * (yT si))), (4, .null), (3, .ref (x + 4 + u)), (0, .ref (x + 226)), (1, .ref (x + 4 + i)), (2, .ref (yA si))]) hx hb (fh_d d_Ty_placeLimits 10 rfl) hl (by decide) rfl (fun ls hl => ?_)
      refine lv_aload_n hx hb (fh_d d_Ty_placeLimits 11 rfl) rfl (lv_at hl 4 rfl) ?_
      refine fh_get (own := "FormulaSetter$Typesetter") (ref := "FormulaSetter$Nucleus") (C := "FormulaSetter$Nucleus") (T := T_Nu) (N := 15) (v := .int ((C i) 0)) hx hb hT i_Nu hown hK hP (mkR_nu (hi)) rfl 0 (by decide) (hT _ w87) (fun x9 h9 => u_same (hT _ w88) x9 h9) (rfl) (fh_d d_Ty_placeLimits 12 rfl) ?_
      refine lv_istore (lv' := [(6, .int ((C i) 0)), (5, .int (2 * (yT si))), (4, .null), (3, .ref (x + 4 + u)), (0, .ref (x + 226)), (1, .ref (x + 4 + i)), (2, .ref (yA si))]) hx hb (fh_d d_Ty_placeLimits 13 rfl) hl (by decide) rfl (fun ls hl => ?_)
      refine lv_aload_n hx hb (fh_d d_Ty_placeLimits 14 rfl) rfl (lv_at hl 5 rfl) ?_
      refine fh_get (own := "FormulaSetter$Typesetter") (ref := "FormulaSetter$Nucleus") (C := "FormulaSetter$Nucleus") (T := T_Nu) (N := 15) (v := .int ((C i) 1)) hx hb hT i_Nu hown hK hP (mkR_nu (hi)) rfl 1 (by decide) (hT _ w94) (fun x9 h9 => u_same (hT _ w95) x9 h9) (rfl) (fh_d d_Ty_placeLimits 15 rfl) ?_
      refine lv_istore (lv' := [(7, .int ((C i) 1)), (6, .int ((C i) 0)), (5, .int (2 * (yT si))), (4, .null), (3, .ref (x + 4 + u)), (0, .ref (x + 226)), (1, .ref (x + 4 + i)), (2, .ref (yA si))]) hx hb (fh_d d_Ty_placeLimits 16 rfl) hl (by decide) rfl (fun ls hl => ?_)
      refine lv_aload_n hx hb (fh_d d_Ty_placeLimits 17 rfl) rfl (lv_at hl 6 rfl) ?_
      refine fh_get (own := "FormulaSetter$Typesetter") (ref := "FormulaSetter$Nucleus") (C := "FormulaSetter$Nucleus") (T := T_Nu) (N := 15) (v := .int ((C i) 2)) hx hb hT i_Nu hown hK hP (mkR_nu (hi)) rfl 2 (by decide) (hT _ w101) (fun x9 h9 => u_same (hT _ w102) x9 h9) (rfl) (fh_d d_Ty_placeLimits 18 rfl) ?_
      refine lv_istore (lv' := [(8, .int ((C i) 2)), (7, .int ((C i) 1)), (6, .int ((C i) 0)), (5, .int (2 * (yT si))), (4, .null), (3, .ref (x + 4 + u)), (0, .ref (x + 226)), (1, .ref (x + 4 + i)), (2, .ref (yA si))]) hx hb (fh_d d_Ty_placeLimits 19 rfl) hl (by decide) rfl (fun ls hl => ?_)
      refine lv_aload_n hx hb (fh_d d_Ty_placeLimits 20 rfl) rfl (lv_at hl 5 rfl) ?_
      refine lv_ifnull hx hb (fh_d d_Ty_placeLimits 21 rfl) ?_
      refine lv_iload hx hb (fh_d d_Ty_placeLimits 22 rfl) (lv_at hl 2 rfl) ?_
      refine lv_aload_n hx hb (fh_d d_Ty_placeLimits 23 rfl) rfl (lv_at hl 5 rfl) ?_
      refine fh_get (own := "FormulaSetter$Typesetter") (ref := "FormulaSetter$Nucleus") (C := "FormulaSetter$Nucleus") (T := T_Nu) (N := 15) (v := .int ((C u) 0)) hx hb hT i_Nu hown hK hP (mkR_nu (hu)) rfl 0 (by decide) (hT _ w87) (fun x9 h9 => u_same (hT _ w88) x9 h9) (rfl) (fh_d d_Ty_placeLimits 24 rfl) ?_
      refine va_mmax hx hb (hml.trans hl.1.symm) hown (hT _ w704) (hT _ w431) (hT _ w14) (hT _ w432) (by show 1 ≤ r; omega) (by show _ ≤ 60 * r; simp [Value.category]; omega) (Nat.le_refl _) (Nat.le_refl _) (fh_d d_Ty_placeLimits 25 rfl) ?_
      refine lv_istore (lv' := [(6, .int (if ((C i) 0) < ((C u) 0) then ((C u) 0) else ((C i) 0))), (8, .int ((C i) 2)), (7, .int ((C i) 1)), (5, .int (2 * (yT si))), (4, .null), (3, .ref (x + 4 + u)), (0, .ref (x + 226)), (1, .ref (x + 4 + i)), (2, .ref (yA si))]) hx hb (fh_d d_Ty_placeLimits 26 rfl) hl (by decide) rfl (fun ls hl => ?_)
      refine lv_aloadN hx hb (fh_d d_Ty_placeLimits 27 rfl) (lv_at hl 4 rfl) ?_
      refine lv_ifnullN (tgt := 69) hx hb (fh_d d_Ty_placeLimits 28 rfl) rfl ?_
      refine lv_aload_n hx hb (fh_d d_Ty_placeLimits 34 rfl) rfl (lv_at hl 6 rfl) ?_
      refine fh_get (own := "FormulaSetter$Typesetter") (ref := "FormulaSetter$Typesetter") (C := "FormulaSetter$Typesetter") (T := T_Ty) (N := 2) (v := .ref (x + 227)) hx hb hT i_Ty hown hK hP ((mkR_g (by omega) (by omega) (by omega)).trans mkG_ts) rfl 0 (by decide) (hT _ w247) (fun _ h9 => h9) rfl (fh_d d_Ty_placeLimits 35 rfl) ?_
      refine lv_aload_n hx hb (fh_d d_Ty_placeLimits 36 rfl) rfl (lv_at hl 7 rfl) ?_
      refine lv_iload hx hb (fh_d d_Ty_placeLimits 37 rfl) (lv_at hl 0 rfl) ?_
      refine lv_aload_n hx hb (fh_d d_Ty_placeLimits 38 rfl) rfl (lv_at hl 7 rfl) ?_
      refine fh_get (own := "FormulaSetter$Typesetter") (ref := "FormulaSetter$Nucleus") (C := "FormulaSetter$Nucleus") (T := T_Nu) (N := 15) (v := .int ((C i) 0)) hx hb hT i_Nu hown hK hP (mkR_nu (hi)) rfl 0 (by decide) (hT _ w87) (fun x9 h9 => u_same (hT _ w88) x9 h9) (rfl) (fh_d d_Ty_placeLimits 39 rfl) ?_
      refine lv_isub hx hb (fh_d d_Ty_placeLimits 40 rfl) ?_
      refine lv_iconst (v := 2) hx hb (fh_d d_Ty_placeLimits 41 rfl) (by decide) ?_
      refine lv_idiv hx hb (fh_d d_Ty_placeLimits 42 rfl) (by decide) ?_
      refine lv_iconst (v := 0) hx hb (fh_d d_Ty_placeLimits 43 rfl) (by decide) ?_
      refine fh_callV (cc' := c_Sh_move) (nL' := 5) (rest := []) (a := x + 227) (As := [.ref (x + 4 + i), .int (((if ((C i) 0) < ((C u) 0) then ((C u) 0) else ((C i) 0)) - ((C i) 0)) / 2), .int 0]) X hR (m_Sh_mvNu l D ct b RO (r - 1) (by omega) n x kA aA g (nI c0) F W0 H0 D0 rows cols nc lc tx len at_ C R CL RL i (hi) (hokB.1 i (hi)).1 (hokB.1 i (hi)).2 (((if ((C i) 0) < ((C u) 0) then ((C u) 0) else ((C i) 0)) - ((C i) 0)) / 2) 0) w723 w720 w721 w722 w7 ⟨by decide, by decide, by show _ = some 3; decide +kernel⟩ (by omega) (by decide) (fh_recv hK hP ((mkR_g (by omega) (by omega) (by omega)).trans mkG_sh) rfl) hP hS hl.1 rfl (by exact Nat.le_of_ble_eq_true rfl) (fh_d d_Ty_placeLimits 44 rfl) ⟨Nat.le_refl _, Nat.le_refl _⟩ (fun v9 h9 n9 H locs hq hP hS => ?_)
      obtain ⟨rfl, q24a, q24b⟩ := hq
      rw [q24a, q24b] at hP
      refine W.eq (g2 := F0 m 87 ls []) rfl ?_
      refine lv_aload_n hx hb (fh_d d_Ty_placeLimits 45 rfl) rfl (lv_at hl 5 rfl) ?_
      refine lv_ifnull hx hb (fh_d d_Ty_placeLimits 46 rfl) ?_
      refine lv_aload_n hx hb (fh_d d_Ty_placeLimits 47 rfl) rfl (lv_at hl 7 rfl) ?_
      refine fh_get (own := "FormulaSetter$Typesetter") (ref := "FormulaSetter$Nucleus") (C := "FormulaSetter$Nucleus") (T := T_Nu) (N := 15) (v := .int ((C i) 1)) hx hb hT i_Nu hown hK hP (mkR_nu (hi)) rfl 1 (by decide) (hT _ w94) (fun x9 h9 => u_same (hT _ w95) x9 h9) (rfl) (fh_d d_Ty_placeLimits 48 rfl) ?_
      refine lv_iload hx hb (fh_d d_Ty_placeLimits 49 rfl) (lv_at hl 3 rfl) ?_
      refine lv_iadd hx hb (fh_d d_Ty_placeLimits 50 rfl) ?_
      refine lv_aload_n hx hb (fh_d d_Ty_placeLimits 51 rfl) rfl (lv_at hl 5 rfl) ?_
      refine fh_get (own := "FormulaSetter$Typesetter") (ref := "FormulaSetter$Nucleus") (C := "FormulaSetter$Nucleus") (T := T_Nu) (N := 15) (v := .int ((C u) 2)) hx hb hT i_Nu hown hK hP (mkR_nu (hu)) rfl 2 (by decide) (hT _ w101) (fun x9 h9 => u_same (hT _ w102) x9 h9) (rfl) (fh_d d_Ty_placeLimits 52 rfl) ?_
      refine lv_iadd hx hb (fh_d d_Ty_placeLimits 53 rfl) ?_
      refine lv_istore (lv' := [(9, .int ((((C i) 1) + (2 * (yT si))) + ((C u) 2))), (6, .int (if ((C i) 0) < ((C u) 0) then ((C u) 0) else ((C i) 0))), (8, .int ((C i) 2)), (7, .int ((C i) 1)), (5, .int (2 * (yT si))), (4, .null), (3, .ref (x + 4 + u)), (0, .ref (x + 226)), (1, .ref (x + 4 + i)), (2, .ref (yA si))]) hx hb (fh_d d_Ty_placeLimits 54 rfl) hl (by decide) rfl (fun ls hl => ?_)
      refine lv_aload_n hx hb (fh_d d_Ty_placeLimits 55 rfl) rfl (lv_at hl 7 rfl) ?_
      refine fh_get (own := "FormulaSetter$Typesetter") (ref := "FormulaSetter$Typesetter") (C := "FormulaSetter$Typesetter") (T := T_Ty) (N := 2) (v := .ref (x + 227)) hx hb hT i_Ty hown hK hP ((mkR_g (by omega) (by omega) (by omega)).trans mkG_ts) rfl 0 (by decide) (hT _ w247) (fun _ h9 => h9) rfl (fh_d d_Ty_placeLimits 56 rfl) ?_
      refine lv_aload_n hx hb (fh_d d_Ty_placeLimits 57 rfl) rfl (lv_at hl 6 rfl) ?_
      refine lv_iload hx hb (fh_d d_Ty_placeLimits 58 rfl) (lv_at hl 1 rfl) ?_
      refine lv_aload_n hx hb (fh_d d_Ty_placeLimits 59 rfl) rfl (lv_at hl 6 rfl) ?_
      refine fh_get (own := "FormulaSetter$Typesetter") (ref := "FormulaSetter$Nucleus") (C := "FormulaSetter$Nucleus") (T := T_Nu) (N := 15) (v := .int ((C u) 0)) hx hb hT i_Nu hown hK hP (mkR_nu (hu)) rfl 0 (by decide) (hT _ w87) (fun x9 h9 => u_same (hT _ w88) x9 h9) (rfl) (fh_d d_Ty_placeLimits 60 rfl) ?_
      refine lv_isub hx hb (fh_d d_Ty_placeLimits 61 rfl) ?_
      refine lv_iconst (v := 2) hx hb (fh_d d_Ty_placeLimits 62 rfl) (by decide) ?_
      refine lv_idiv hx hb (fh_d d_Ty_placeLimits 63 rfl) (by decide) ?_
      refine lv_iload hx hb (fh_d d_Ty_placeLimits 64 rfl) (lv_at hl 0 rfl) ?_
      refine fh_callV (cc' := c_Sh_move) (nL' := 5) (rest := []) (a := x + 227) (As := [.ref (x + 4 + u), .int (((if ((C i) 0) < ((C u) 0) then ((C u) 0) else ((C i) 0)) - ((C u) 0)) / 2), .int ((((C i) 1) + (2 * (yT si))) + ((C u) 2))]) X hR (m_Sh_mvNu l D ct b RO (r - 1) (by omega) n x kA aA g (nI c0) (mvF F (ixI (C i 3)) (ixI (C i 4)) (((if ((C i) 0) < ((C u) 0) then ((C u) 0) else ((C i) 0)) - ((C i) 0)) / 2) 0) W0 H0 D0 rows cols nc lc tx len at_ C R CL RL u (hu) (hokB.1 u (hu)).1 (hokB.1 u (hu)).2 (((if ((C i) 0) < ((C u) 0) then ((C u) 0) else ((C i) 0)) - ((C u) 0)) / 2) ((((C i) 1) + (2 * (yT si))) + ((C u) 2))) w723 w720 w721 w722 w7 ⟨by decide, by decide, by show _ = some 3; decide +kernel⟩ (by omega) (by decide) (fh_recv hK hP ((mkR_g (by omega) (by omega) (by omega)).trans mkG_sh) rfl) hP hS hl.1 rfl (by exact Nat.le_of_ble_eq_true rfl) (fh_d d_Ty_placeLimits 65 rfl) ⟨Nat.le_refl _, Nat.le_refl _⟩ (fun v9 h9 n9 H locs hq hP hS => ?_)
      obtain ⟨rfl, q26a, q26b⟩ := hq
      rw [q26a, q26b] at hP
      refine W.eq (g2 := F0 m 124 ls []) rfl ?_
      refine lv_iload hx hb (fh_d d_Ty_placeLimits 66 rfl) (lv_at hl 0 rfl) ?_
      refine lv_aload_n hx hb (fh_d d_Ty_placeLimits 67 rfl) rfl (lv_at hl 6 rfl) ?_
      refine fh_get (own := "FormulaSetter$Typesetter") (ref := "FormulaSetter$Nucleus") (C := "FormulaSetter$Nucleus") (T := T_Nu) (N := 15) (v := .int ((C u) 1)) hx hb hT i_Nu hown hK hP (mkR_nu (hu)) rfl 1 (by decide) (hT _ w94) (fun x9 h9 => u_same (hT _ w95) x9 h9) (rfl) (fh_d d_Ty_placeLimits 68 rfl) ?_
      refine lv_iadd hx hb (fh_d d_Ty_placeLimits 69 rfl) ?_
      refine lv_istore (lv' := [(7, .int (((((C i) 1) + (2 * (yT si))) + ((C u) 2)) + ((C u) 1))), (9, .int ((((C i) 1) + (2 * (yT si))) + ((C u) 2))), (6, .int (if ((C i) 0) < ((C u) 0) then ((C u) 0) else ((C i) 0))), (8, .int ((C i) 2)), (5, .int (2 * (yT si))), (4, .null), (3, .ref (x + 4 + u)), (0, .ref (x + 226)), (1, .ref (x + 4 + i)), (2, .ref (yA si))]) hx hb (fh_d d_Ty_placeLimits 70 rfl) hl (by decide) rfl (fun ls hl => ?_)
      refine lv_aloadN hx hb (fh_d d_Ty_placeLimits 71 rfl) (lv_at hl 5 rfl) ?_
      refine lv_ifnullN (tgt := 185) hx hb (fh_d d_Ty_placeLimits 72 rfl) rfl ?_
      refine lv_aload_n hx hb (fh_d d_Ty_placeLimits 98 rfl) rfl (lv_at hl 8 rfl) ?_
      refine lv_iload hx hb (fh_d d_Ty_placeLimits 99 rfl) (lv_at hl 2 rfl) ?_
      refine lv_iload hx hb (fh_d d_Ty_placeLimits 100 rfl) (lv_at hl 0 rfl) ?_
      refine lv_iload hx hb (fh_d d_Ty_placeLimits 101 rfl) (lv_at hl 3 rfl) ?_
      refine fh_callU (cc' := c_Bo_measure) (nL' := 4) (rest := []) (a := x + 4 + i) (As := [.int (if ((C i) 0) < ((C u) 0) then ((C u) 0) else ((C i) 0)), .int (((((C i) 1) + (2 * (yT si))) + ((C u) 2)) + ((C u) 1)), .int ((C i) 2)]) (Ck := "FormulaSetter$Nucleus") (owner := "FormulaSetter$Box") (x' := ⟨"FormulaSetter$Nucleus", "measure", "(III)V"⟩) X hR (m_Bo_measureNu l D ct b RO (r - 1) n x kA aA g (nI c0) (mvF (mvF F (ixI (C i 3)) (ixI (C i 4)) (((if ((C i) 0) < ((C u) 0) then ((C u) 0) else ((C i) 0)) - ((C i) 0)) / 2) 0) (ixI (C u 3)) (ixI (C u 4)) (((if ((C i) 0) < ((C u) 0) then ((C u) 0) else ((C i) 0)) - ((C u) 0)) / 2) ((((C i) 1) + (2 * (yT si))) + ((C u) 2))) W0 H0 D0 rows cols nc lc tx len at_ C R CL RL i (hi) (if ((C i) 0) < ((C u) 0) then ((C u) 0) else ((C i) 0)) (((((C i) 1) + (2 * (yT si))) + ((C u) 2)) + ((C u) 1)) ((C i) 2)) w655 w691 w692 rfl w654 w693 w3 ⟨by decide, by decide, by show _ = some 3; decide +kernel⟩ (by omega) (by decide) (fh_recv hK hP (mkR_nu (hi)) rfl) hP hS hl.1 rfl (by exact Nat.le_of_ble_eq_true rfl) (fh_d d_Ty_placeLimits 102 rfl) ⟨Nat.le_refl _, Nat.le_refl _⟩ (fun v9 h9 n9 H locs hq hP hS => ?_)
      obtain ⟨rfl, q28a, q28b⟩ := hq
      rw [q28a, q28b] at hP
      refine W.eq (g2 := F0 m 195 ls []) rfl ?_
      have f29 : (sT (sT (sT C i 0 (if ((C i) 0) < ((C u) 0) then ((C u) 0) else ((C i) 0))) i 1 (((((C i) 1) + (2 * (yT si))) + ((C u) 2)) + ((C u) 1))) i 2 ((C i) 2)) i 0 = if ((C i) 0) < ((C u) 0) then ((C u) 0) else ((C i) 0) := (sT_ne (by omega)).trans ((sT_ne (by omega)).trans sT_same)
      have f30 : (sT (sT (sT C i 0 (if ((C i) 0) < ((C u) 0) then ((C u) 0) else ((C i) 0))) i 1 (((((C i) 1) + (2 * (yT si))) + ((C u) 2)) + ((C u) 1))) i 2 ((C i) 2)) i 1 = ((((C i) 1) + (2 * (yT si))) + ((C u) 2)) + ((C u) 1) := (sT_ne (by omega)).trans sT_same
      have f31 : (sT (sT (sT C i 0 (if ((C i) 0) < ((C u) 0) then ((C u) 0) else ((C i) 0))) i 1 (((((C i) 1) + (2 * (yT si))) + ((C u) 2)) + ((C u) 1))) i 2 ((C i) 2)) i 2 = (C i) 2 := sT_same
      have y32 : okB (sT (sT (sT C i 0 (if ((C i) 0) < ((C u) 0) then ((C u) 0) else ((C i) 0))) i 1 (((((C i) 1) + (2 * (yT si))) + ((C u) 2)) + ((C u) 1))) i 2 ((C i) 2)) CL := okB_m hokB i (if ((C i) 0) < ((C u) 0) then ((C u) 0) else ((C i) 0)) (((((C i) 1) + (2 * (yT si))) + ((C u) 2)) + ((C u) 1)) ((C i) 2)
      refine fh_vret X hP hS (fh_d d_Ty_placeLimits 103 rfl) ⟨rfl, ?_, rfl⟩
      · unfold sLim; dsimp only; rw [h12, h13]; rfl
    · have hv2 := hu13 v2 h13
      refine lv_aload_n hx hb (fh_d d_Ty_placeLimits 0 rfl) rfl (lv_at hl 1 rfl) ?_
      refine fh_get (own := "FormulaSetter$Typesetter") (ref := "FormulaSetter$Nucleus") (C := "FormulaSetter$Nucleus") (T := T_Nu) (N := 15) (v := .ref (x + 4 + u)) hx hb hT i_Nu hown hK hP (mkR_nu (hi)) rfl 12 (by decide) (hT _ w74) (fun _ h9 => h9) (by show some (va_rf ((R i 12).map (fun z => x + 4 + z))) = _; rw [h12]; rfl) (fh_d d_Ty_placeLimits 1 rfl) ?_
      refine lv_astore_n (lv' := [(3, .ref (x + 4 + u)), (0, .ref (x + 226)), (1, .ref (x + 4 + i)), (2, .ref (yA si))]) hx hb (fh_d d_Ty_placeLimits 2 rfl) rfl hl (by decide) rfl (fun ls hl => ?_)
      refine lv_aload_n hx hb (fh_d d_Ty_placeLimits 3 rfl) rfl (lv_at hl 2 rfl) ?_
      refine fh_get (own := "FormulaSetter$Typesetter") (ref := "FormulaSetter$Nucleus") (C := "FormulaSetter$Nucleus") (T := T_Nu) (N := 15) (v := .ref (x + 4 + v2)) hx hb hT i_Nu hown hK hP (mkR_nu (hi)) rfl 13 (by decide) (hT _ w77) (fun _ h9 => h9) (by show some (va_rf ((R i 13).map (fun z => x + 4 + z))) = _; rw [h13]; rfl) (fh_d d_Ty_placeLimits 4 rfl) ?_
      refine lv_astore (lv' := [(4, .ref (x + 4 + v2)), (3, .ref (x + 4 + u)), (0, .ref (x + 226)), (1, .ref (x + 4 + i)), (2, .ref (yA si))]) hx hb (fh_d d_Ty_placeLimits 5 rfl) hl (by decide) rfl (fun ls hl => ?_)
      refine lv_iconst (v := 2) hx hb (fh_d d_Ty_placeLimits 6 rfl) (by decide) ?_
      refine lv_aload_n hx hb (fh_d d_Ty_placeLimits 7 rfl) rfl (lv_at hl 4 rfl) ?_
      refine vk_getf (own := "FormulaSetter$Typesetter") (ref := "FormulaSetter$Style") hx hb (((hEn _ hRO).2.2.1 si hsi).2.2.2.2.1) hS hown (hT _ w1251) (fun _ h9 => h9) (fh_d d_Ty_placeLimits 8 rfl) ?_
      refine lv_imul hx hb (fh_d d_Ty_placeLimits 9 rfl) ?_
      refine lv_istore (lv' := [(5, .int (2 * (yT si))), (4, .ref (x + 4 + v2)), (3, .ref (x + 4 + u)), (0, .ref (x + 226)), (1, .ref (x + 4 + i)), (2, .ref (yA si))]) hx hb (fh_d d_Ty_placeLimits 10 rfl) hl (by decide) rfl (fun ls hl => ?_)
      refine lv_aload_n hx hb (fh_d d_Ty_placeLimits 11 rfl) rfl (lv_at hl 4 rfl) ?_
      refine fh_get (own := "FormulaSetter$Typesetter") (ref := "FormulaSetter$Nucleus") (C := "FormulaSetter$Nucleus") (T := T_Nu) (N := 15) (v := .int ((C i) 0)) hx hb hT i_Nu hown hK hP (mkR_nu (hi)) rfl 0 (by decide) (hT _ w87) (fun x9 h9 => u_same (hT _ w88) x9 h9) (rfl) (fh_d d_Ty_placeLimits 12 rfl) ?_
      refine lv_istore (lv' := [(6, .int ((C i) 0)), (5, .int (2 * (yT si))), (4, .ref (x + 4 + v2)), (3, .ref (x + 4 + u)), (0, .ref (x + 226)), (1, .ref (x + 4 + i)), (2, .ref (yA si))]) hx hb (fh_d d_Ty_placeLimits 13 rfl) hl (by decide) rfl (fun ls hl => ?_)
      refine lv_aload_n hx hb (fh_d d_Ty_placeLimits 14 rfl) rfl (lv_at hl 5 rfl) ?_
      refine fh_get (own := "FormulaSetter$Typesetter") (ref := "FormulaSetter$Nucleus") (C := "FormulaSetter$Nucleus") (T := T_Nu) (N := 15) (v := .int ((C i) 1)) hx hb hT i_Nu hown hK hP (mkR_nu (hi)) rfl 1 (by decide) (hT _ w94) (fun x9 h9 => u_same (hT _ w95) x9 h9) (rfl) (fh_d d_Ty_placeLimits 15 rfl) ?_
      refine lv_istore (lv' := [(7, .int ((C i) 1)), (6, .int ((C i) 0)), (5, .int (2 * (yT si))), (4, .ref (x + 4 + v2)), (3, .ref (x + 4 + u)), (0, .ref (x + 226)), (1, .ref (x + 4 + i)), (2, .ref (yA si))]) hx hb (fh_d d_Ty_placeLimits 16 rfl) hl (by decide) rfl (fun ls hl => ?_)
      refine lv_aload_n hx hb (fh_d d_Ty_placeLimits 17 rfl) rfl (lv_at hl 6 rfl) ?_
      refine fh_get (own := "FormulaSetter$Typesetter") (ref := "FormulaSetter$Nucleus") (C := "FormulaSetter$Nucleus") (T := T_Nu) (N := 15) (v := .int ((C i) 2)) hx hb hT i_Nu hown hK hP (mkR_nu (hi)) rfl 2 (by decide) (hT _ w101) (fun x9 h9 => u_same (hT _ w102) x9 h9) (rfl) (fh_d d_Ty_placeLimits 18 rfl) ?_
      refine lv_istore (lv' := [(8, .int ((C i) 2)), (7, .int ((C i) 1)), (6, .int ((C i) 0)), (5, .int (2 * (yT si))), (4, .ref (x + 4 + v2)), (3, .ref (x + 4 + u)), (0, .ref (x + 226)), (1, .ref (x + 4 + i)), (2, .ref (yA si))]) hx hb (fh_d d_Ty_placeLimits 19 rfl) hl (by decide) rfl (fun ls hl => ?_)
      refine lv_aload_n hx hb (fh_d d_Ty_placeLimits 20 rfl) rfl (lv_at hl 5 rfl) ?_
      refine lv_ifnull hx hb (fh_d d_Ty_placeLimits 21 rfl) ?_
      refine lv_iload hx hb (fh_d d_Ty_placeLimits 22 rfl) (lv_at hl 2 rfl) ?_
      refine lv_aload_n hx hb (fh_d d_Ty_placeLimits 23 rfl) rfl (lv_at hl 5 rfl) ?_
      refine fh_get (own := "FormulaSetter$Typesetter") (ref := "FormulaSetter$Nucleus") (C := "FormulaSetter$Nucleus") (T := T_Nu) (N := 15) (v := .int ((C u) 0)) hx hb hT i_Nu hown hK hP (mkR_nu (hu)) rfl 0 (by decide) (hT _ w87) (fun x9 h9 => u_same (hT _ w88) x9 h9) (rfl) (fh_d d_Ty_placeLimits 24 rfl) ?_
      refine va_mmax hx hb (hml.trans hl.1.symm) hown (hT _ w704) (hT _ w431) (hT _ w14) (hT _ w432) (by show 1 ≤ r; omega) (by show _ ≤ 60 * r; simp [Value.category]; omega) (Nat.le_refl _) (Nat.le_refl _) (fh_d d_Ty_placeLimits 25 rfl) ?_
      refine lv_istore (lv' := [(6, .int (if ((C i) 0) < ((C u) 0) then ((C u) 0) else ((C i) 0))), (8, .int ((C i) 2)), (7, .int ((C i) 1)), (5, .int (2 * (yT si))), (4, .ref (x + 4 + v2)), (3, .ref (x + 4 + u)), (0, .ref (x + 226)), (1, .ref (x + 4 + i)), (2, .ref (yA si))]) hx hb (fh_d d_Ty_placeLimits 26 rfl) hl (by decide) rfl (fun ls hl => ?_)
      refine lv_aload hx hb (fh_d d_Ty_placeLimits 27 rfl) (lv_at hl 4 rfl) ?_
      refine lv_ifnull hx hb (fh_d d_Ty_placeLimits 28 rfl) ?_
      refine lv_iload hx hb (fh_d d_Ty_placeLimits 29 rfl) (lv_at hl 0 rfl) ?_
      refine lv_aload hx hb (fh_d d_Ty_placeLimits 30 rfl) (lv_at hl 4 rfl) ?_
      refine fh_get (own := "FormulaSetter$Typesetter") (ref := "FormulaSetter$Nucleus") (C := "FormulaSetter$Nucleus") (T := T_Nu) (N := 15) (v := .int ((C v2) 0)) hx hb hT i_Nu hown hK hP (mkR_nu (hv2)) rfl 0 (by decide) (hT _ w87) (fun x9 h9 => u_same (hT _ w88) x9 h9) (rfl) (fh_d d_Ty_placeLimits 31 rfl) ?_
      refine va_mmax hx hb (hml.trans hl.1.symm) hown (hT _ w704) (hT _ w431) (hT _ w14) (hT _ w432) (by show 1 ≤ r; omega) (by show _ ≤ 60 * r; simp [Value.category]; omega) (Nat.le_refl _) (Nat.le_refl _) (fh_d d_Ty_placeLimits 32 rfl) ?_
      refine lv_istore (lv' := [(6, .int (if (if ((C i) 0) < ((C u) 0) then ((C u) 0) else ((C i) 0)) < ((C v2) 0) then ((C v2) 0) else (if ((C i) 0) < ((C u) 0) then ((C u) 0) else ((C i) 0)))), (8, .int ((C i) 2)), (7, .int ((C i) 1)), (5, .int (2 * (yT si))), (4, .ref (x + 4 + v2)), (3, .ref (x + 4 + u)), (0, .ref (x + 226)), (1, .ref (x + 4 + i)), (2, .ref (yA si))]) hx hb (fh_d d_Ty_placeLimits 33 rfl) hl (by decide) rfl (fun ls hl => ?_)
      refine lv_aload_n hx hb (fh_d d_Ty_placeLimits 34 rfl) rfl (lv_at hl 6 rfl) ?_
      refine fh_get (own := "FormulaSetter$Typesetter") (ref := "FormulaSetter$Typesetter") (C := "FormulaSetter$Typesetter") (T := T_Ty) (N := 2) (v := .ref (x + 227)) hx hb hT i_Ty hown hK hP ((mkR_g (by omega) (by omega) (by omega)).trans mkG_ts) rfl 0 (by decide) (hT _ w247) (fun _ h9 => h9) rfl (fh_d d_Ty_placeLimits 35 rfl) ?_
      refine lv_aload_n hx hb (fh_d d_Ty_placeLimits 36 rfl) rfl (lv_at hl 7 rfl) ?_
      refine lv_iload hx hb (fh_d d_Ty_placeLimits 37 rfl) (lv_at hl 0 rfl) ?_
      refine lv_aload_n hx hb (fh_d d_Ty_placeLimits 38 rfl) rfl (lv_at hl 7 rfl) ?_
      refine fh_get (own := "FormulaSetter$Typesetter") (ref := "FormulaSetter$Nucleus") (C := "FormulaSetter$Nucleus") (T := T_Nu) (N := 15) (v := .int ((C i) 0)) hx hb hT i_Nu hown hK hP (mkR_nu (hi)) rfl 0 (by decide) (hT _ w87) (fun x9 h9 => u_same (hT _ w88) x9 h9) (rfl) (fh_d d_Ty_placeLimits 39 rfl) ?_
      refine lv_isub hx hb (fh_d d_Ty_placeLimits 40 rfl) ?_
      refine lv_iconst (v := 2) hx hb (fh_d d_Ty_placeLimits 41 rfl) (by decide) ?_
      refine lv_idiv hx hb (fh_d d_Ty_placeLimits 42 rfl) (by decide) ?_
      refine lv_iconst (v := 0) hx hb (fh_d d_Ty_placeLimits 43 rfl) (by decide) ?_
      refine fh_callV (cc' := c_Sh_move) (nL' := 5) (rest := []) (a := x + 227) (As := [.ref (x + 4 + i), .int (((if (if ((C i) 0) < ((C u) 0) then ((C u) 0) else ((C i) 0)) < ((C v2) 0) then ((C v2) 0) else (if ((C i) 0) < ((C u) 0) then ((C u) 0) else ((C i) 0))) - ((C i) 0)) / 2), .int 0]) X hR (m_Sh_mvNu l D ct b RO (r - 1) (by omega) n x kA aA g (nI c0) F W0 H0 D0 rows cols nc lc tx len at_ C R CL RL i (hi) (hokB.1 i (hi)).1 (hokB.1 i (hi)).2 (((if (if ((C i) 0) < ((C u) 0) then ((C u) 0) else ((C i) 0)) < ((C v2) 0) then ((C v2) 0) else (if ((C i) 0) < ((C u) 0) then ((C u) 0) else ((C i) 0))) - ((C i) 0)) / 2) 0) w723 w720 w721 w722 w7 ⟨by decide, by decide, by show _ = some 3; decide +kernel⟩ (by omega) (by decide) (fh_recv hK hP ((mkR_g (by omega) (by omega) (by omega)).trans mkG_sh) rfl) hP hS hl.1 rfl (by exact Nat.le_of_ble_eq_true rfl) (fh_d d_Ty_placeLimits 44 rfl) ⟨Nat.le_refl _, Nat.le_refl _⟩ (fun v9 h9 n9 H locs hq hP hS => ?_)
      obtain ⟨rfl, q35a, q35b⟩ := hq
      rw [q35a, q35b] at hP
      refine W.eq (g2 := F0 m 87 ls []) rfl ?_
      refine lv_aload_n hx hb (fh_d d_Ty_placeLimits 45 rfl) rfl (lv_at hl 5 rfl) ?_
      refine lv_ifnull hx hb (fh_d d_Ty_placeLimits 46 rfl) ?_
      refine lv_aload_n hx hb (fh_d d_Ty_placeLimits 47 rfl) rfl (lv_at hl 7 rfl) ?_
      refine fh_get (own := "FormulaSetter$Typesetter") (ref := "FormulaSetter$Nucleus") (C := "FormulaSetter$Nucleus") (T := T_Nu) (N := 15) (v := .int ((C i) 1)) hx hb hT i_Nu hown hK hP (mkR_nu (hi)) rfl 1 (by decide) (hT _ w94) (fun x9 h9 => u_same (hT _ w95) x9 h9) (rfl) (fh_d d_Ty_placeLimits 48 rfl) ?_
      refine lv_iload hx hb (fh_d d_Ty_placeLimits 49 rfl) (lv_at hl 3 rfl) ?_
      refine lv_iadd hx hb (fh_d d_Ty_placeLimits 50 rfl) ?_
      refine lv_aload_n hx hb (fh_d d_Ty_placeLimits 51 rfl) rfl (lv_at hl 5 rfl) ?_
      refine fh_get (own := "FormulaSetter$Typesetter") (ref := "FormulaSetter$Nucleus") (C := "FormulaSetter$Nucleus") (T := T_Nu) (N := 15) (v := .int ((C u) 2)) hx hb hT i_Nu hown hK hP (mkR_nu (hu)) rfl 2 (by decide) (hT _ w101) (fun x9 h9 => u_same (hT _ w102) x9 h9) (rfl) (fh_d d_Ty_placeLimits 52 rfl) ?_
      refine lv_iadd hx hb (fh_d d_Ty_placeLimits 53 rfl) ?_
      refine lv_istore (lv' := [(9, .int ((((C i) 1) + (2 * (yT si))) + ((C u) 2))), (6, .int (if (if ((C i) 0) < ((C u) 0) then ((C u) 0) else ((C i) 0)) < ((C v2) 0) then ((C v2) 0) else (if ((C i) 0) < ((C u) 0) then ((C u) 0) else ((C i) 0)))), (8, .int ((C i) 2)), (7, .int ((C i) 1)), (5, .int (2 * (yT si))), (4, .ref (x + 4 + v2)), (3, .ref (x + 4 + u)), (0, .ref (x + 226)), (1, .ref (x + 4 + i)), (2, .ref (yA si))]) hx hb (fh_d d_Ty_placeLimits 54 rfl) hl (by decide) rfl (fun ls hl => ?_)
      refine lv_aload_n hx hb (fh_d d_Ty_placeLimits 55 rfl) rfl (lv_at hl 7 rfl) ?_
      refine fh_get (own := "FormulaSetter$Typesetter") (ref := "FormulaSetter$Typesetter") (C := "FormulaSetter$Typesetter") (T := T_Ty) (N := 2) (v := .ref (x + 227)) hx hb hT i_Ty hown hK hP ((mkR_g (by omega) (by omega) (by omega)).trans mkG_ts) rfl 0 (by decide) (hT _ w247) (fun _ h9 => h9) rfl (fh_d d_Ty_placeLimits 56 rfl) ?_
      refine lv_aload_n hx hb (fh_d d_Ty_placeLimits 57 rfl) rfl (lv_at hl 6 rfl) ?_
      refine lv_iload hx hb (fh_d d_Ty_placeLimits 58 rfl) (lv_at hl 1 rfl) ?_
      refine lv_aload_n hx hb (fh_d d_Ty_placeLimits 59 rfl) rfl (lv_at hl 6 rfl) ?_
      refine fh_get (own := "FormulaSetter$Typesetter") (ref := "FormulaSetter$Nucleus") (C := "FormulaSetter$Nucleus") (T := T_Nu) (N := 15) (v := .int ((C u) 0)) hx hb hT i_Nu hown hK hP (mkR_nu (hu)) rfl 0 (by decide) (hT _ w87) (fun x9 h9 => u_same (hT _ w88) x9 h9) (rfl) (fh_d d_Ty_placeLimits 60 rfl) ?_
      refine lv_isub hx hb (fh_d d_Ty_placeLimits 61 rfl) ?_
      refine lv_iconst (v := 2) hx hb (fh_d d_Ty_placeLimits 62 rfl) (by decide) ?_
      refine lv_idiv hx hb (fh_d d_Ty_placeLimits 63 rfl) (by decide) ?_
      refine lv_iload hx hb (fh_d d_Ty_placeLimits 64 rfl) (lv_at hl 0 rfl) ?_
      refine fh_callV (cc' := c_Sh_move) (nL' := 5) (rest := []) (a := x + 227) (As := [.ref (x + 4 + u), .int (((if (if ((C i) 0) < ((C u) 0) then ((C u) 0) else ((C i) 0)) < ((C v2) 0) then ((C v2) 0) else (if ((C i) 0) < ((C u) 0) then ((C u) 0) else ((C i) 0))) - ((C u) 0)) / 2), .int ((((C i) 1) + (2 * (yT si))) + ((C u) 2))]) X hR (m_Sh_mvNu l D ct b RO (r - 1) (by omega) n x kA aA g (nI c0) (mvF F (ixI (C i 3)) (ixI (C i 4)) (((if (if ((C i) 0) < ((C u) 0) then ((C u) 0) else ((C i) 0)) < ((C v2) 0) then ((C v2) 0) else (if ((C i) 0) < ((C u) 0) then ((C u) 0) else ((C i) 0))) - ((C i) 0)) / 2) 0) W0 H0 D0 rows cols nc lc tx len at_ C R CL RL u (hu) (hokB.1 u (hu)).1 (hokB.1 u (hu)).2 (((if (if ((C i) 0) < ((C u) 0) then ((C u) 0) else ((C i) 0)) < ((C v2) 0) then ((C v2) 0) else (if ((C i) 0) < ((C u) 0) then ((C u) 0) else ((C i) 0))) - ((C u) 0)) / 2) ((((C i) 1) + (2 * (yT si))) + ((C u) 2))) w723 w720 w721 w722 w7 ⟨by decide, by decide, by show _ = some 3; decide +kernel⟩ (by omega) (by decide) (fh_recv hK hP ((mkR_g (by omega) (by omega) (by omega)).trans mkG_sh) rfl) hP hS hl.1 rfl (by exact Nat.le_of_ble_eq_true rfl) (fh_d d_Ty_placeLimits 65 rfl) ⟨Nat.le_refl _, Nat.le_refl _⟩ (fun v9 h9 n9 H locs hq hP hS => ?_)
      obtain ⟨rfl, q37a, q37b⟩ := hq
      rw [q37a, q37b] at hP
      refine W.eq (g2 := F0 m 124 ls []) rfl ?_
      refine lv_iload hx hb (fh_d d_Ty_placeLimits 66 rfl) (lv_at hl 0 rfl) ?_
      refine lv_aload_n hx hb (fh_d d_Ty_placeLimits 67 rfl) rfl (lv_at hl 6 rfl) ?_
      refine fh_get (own := "FormulaSetter$Typesetter") (ref := "FormulaSetter$Nucleus") (C := "FormulaSetter$Nucleus") (T := T_Nu) (N := 15) (v := .int ((C u) 1)) hx hb hT i_Nu hown hK hP (mkR_nu (hu)) rfl 1 (by decide) (hT _ w94) (fun x9 h9 => u_same (hT _ w95) x9 h9) (rfl) (fh_d d_Ty_placeLimits 68 rfl) ?_
      refine lv_iadd hx hb (fh_d d_Ty_placeLimits 69 rfl) ?_
      refine lv_istore (lv' := [(7, .int (((((C i) 1) + (2 * (yT si))) + ((C u) 2)) + ((C u) 1))), (9, .int ((((C i) 1) + (2 * (yT si))) + ((C u) 2))), (6, .int (if (if ((C i) 0) < ((C u) 0) then ((C u) 0) else ((C i) 0)) < ((C v2) 0) then ((C v2) 0) else (if ((C i) 0) < ((C u) 0) then ((C u) 0) else ((C i) 0)))), (8, .int ((C i) 2)), (5, .int (2 * (yT si))), (4, .ref (x + 4 + v2)), (3, .ref (x + 4 + u)), (0, .ref (x + 226)), (1, .ref (x + 4 + i)), (2, .ref (yA si))]) hx hb (fh_d d_Ty_placeLimits 70 rfl) hl (by decide) rfl (fun ls hl => ?_)
      refine lv_aload hx hb (fh_d d_Ty_placeLimits 71 rfl) (lv_at hl 5 rfl) ?_
      refine lv_ifnull hx hb (fh_d d_Ty_placeLimits 72 rfl) ?_
      refine lv_aload_n hx hb (fh_d d_Ty_placeLimits 73 rfl) rfl (lv_at hl 8 rfl) ?_
      refine fh_get (own := "FormulaSetter$Typesetter") (ref := "FormulaSetter$Nucleus") (C := "FormulaSetter$Nucleus") (T := T_Nu) (N := 15) (v := .int ((C i) 2)) hx hb hT i_Nu hown hK hP (mkR_nu (hi)) rfl 2 (by decide) (hT _ w101) (fun x9 h9 => u_same (hT _ w102) x9 h9) (rfl) (fh_d d_Ty_placeLimits 74 rfl) ?_
      refine lv_iload hx hb (fh_d d_Ty_placeLimits 75 rfl) (lv_at hl 4 rfl) ?_
      refine lv_iadd hx hb (fh_d d_Ty_placeLimits 76 rfl) ?_
      refine lv_aload hx hb (fh_d d_Ty_placeLimits 77 rfl) (lv_at hl 5 rfl) ?_
      refine fh_get (own := "FormulaSetter$Typesetter") (ref := "FormulaSetter$Nucleus") (C := "FormulaSetter$Nucleus") (T := T_Nu) (N := 15) (v := .int ((C v2) 1)) hx hb hT i_Nu hown hK hP (mkR_nu (hv2)) rfl 1 (by decide) (hT _ w94) (fun x9 h9 => u_same (hT _ w95) x9 h9) (rfl) (fh_d d_Ty_placeLimits 78 rfl) ?_
      refine lv_iadd hx hb (fh_d d_Ty_placeLimits 79 rfl) ?_
      refine lv_istore (lv' := [(9, .int ((((C i) 2) + (2 * (yT si))) + ((C v2) 1))), (7, .int (((((C i) 1) + (2 * (yT si))) + ((C u) 2)) + ((C u) 1))), (6, .int (if (if ((C i) 0) < ((C u) 0) then ((C u) 0) else ((C i) 0)) < ((C v2) 0) then ((C v2) 0) else (if ((C i) 0) < ((C u) 0) then ((C u) 0) else ((C i) 0)))), (8, .int ((C i) 2)), (5, .int (2 * (yT si))), (4, .ref (x + 4 + v2)), (3, .ref (x + 4 + u)), (0, .ref (x + 226)), (1, .ref (x + 4 + i)), (2, .ref (yA si))]) hx hb (fh_d d_Ty_placeLimits 80 rfl) hl (by decide) rfl (fun ls hl => ?_)
      refine lv_aload_n hx hb (fh_d d_Ty_placeLimits 81 rfl) rfl (lv_at hl 7 rfl) ?_
      refine fh_get (own := "FormulaSetter$Typesetter") (ref := "FormulaSetter$Typesetter") (C := "FormulaSetter$Typesetter") (T := T_Ty) (N := 2) (v := .ref (x + 227)) hx hb hT i_Ty hown hK hP ((mkR_g (by omega) (by omega) (by omega)).trans mkG_ts) rfl 0 (by decide) (hT _ w247) (fun _ h9 => h9) rfl (fh_d d_Ty_placeLimits 82 rfl) ?_
      refine lv_aload hx hb (fh_d d_Ty_placeLimits 83 rfl) (lv_at hl 5 rfl) ?_
      refine lv_iload hx hb (fh_d d_Ty_placeLimits 84 rfl) (lv_at hl 2 rfl) ?_
      refine lv_aload hx hb (fh_d d_Ty_placeLimits 85 rfl) (lv_at hl 5 rfl) ?_
      refine fh_get (own := "FormulaSetter$Typesetter") (ref := "FormulaSetter$Nucleus") (C := "FormulaSetter$Nucleus") (T := T_Nu) (N := 15) (v := .int ((C v2) 0)) hx hb hT i_Nu hown hK hP (mkR_nu (hv2)) rfl 0 (by decide) (hT _ w87) (fun x9 h9 => u_same (hT _ w88) x9 h9) (rfl) (fh_d d_Ty_placeLimits 86 rfl) ?_
      refine lv_isub hx hb (fh_d d_Ty_placeLimits 87 rfl) ?_
      refine lv_iconst (v := 2) hx hb (fh_d d_Ty_placeLimits 88 rfl) (by decide) ?_
      refine lv_idiv hx hb (fh_d d_Ty_placeLimits 89 rfl) (by decide) ?_
      refine lv_iload hx hb (fh_d d_Ty_placeLimits 90 rfl) (lv_at hl 0 rfl) ?_
      refine lv_ineg hx hb (fh_d d_Ty_placeLimits 91 rfl) ?_
      refine fh_callV (cc' := c_Sh_move) (nL' := 5) (rest := []) (a := x + 227) (As := [.ref (x + 4 + v2), .int (((if (if ((C i) 0) < ((C u) 0) then ((C u) 0) else ((C i) 0)) < ((C v2) 0) then ((C v2) 0) else (if ((C i) 0) < ((C u) 0) then ((C u) 0) else ((C i) 0))) - ((C v2) 0)) / 2), .int (-((((C i) 2) + (2 * (yT si))) + ((C v2) 1)))]) X hR (m_Sh_mvNu l D ct b RO (r - 1) (by omega) n x kA aA g (nI c0) (mvF (mvF F (ixI (C i 3)) (ixI (C i 4)) (((if (if ((C i) 0) < ((C u) 0) then ((C u) 0) else ((C i) 0)) < ((C v2) 0) then ((C v2) 0) else (if ((C i) 0) < ((C u) 0) then ((C u) 0) else ((C i) 0))) - ((C i) 0)) / 2) 0) (ixI (C u 3)) (ixI (C u 4)) (((if (if ((C i) 0) < ((C u) 0) then ((C u) 0) else ((C i) 0)) < ((C v2) 0) then ((C v2) 0) else (if ((C i) 0) < ((C u) 0) then ((C u) 0) else ((C i) 0))) - ((C u) 0)) / 2) ((((C i) 1) + (2 * (yT si))) + ((C u) 2))) W0 H0 D0 rows cols nc lc tx len at_ C R CL RL v2 (hv2) (hokB.1 v2 (hv2)).1 (hokB.1 v2 (hv2)).2 (((if (if ((C i) 0) < ((C u) 0) then ((C u) 0) else ((C i) 0)) < ((C v2) 0) then ((C v2) 0) else (if ((C i) 0) < ((C u) 0) then ((C u) 0) else ((C i) 0))) - ((C v2) 0)) / 2) (-((((C i) 2) + (2 * (yT si))) + ((C v2) 1)))) w723 w720 w721 w722 w7 ⟨by decide, by decide, by show _ = some 3; decide +kernel⟩ (by omega) (by decide) (fh_recv hK hP ((mkR_g (by omega) (by omega) (by omega)).trans mkG_sh) rfl) hP hS hl.1 rfl (by exact Nat.le_of_ble_eq_true rfl) (fh_d d_Ty_placeLimits 92 rfl) ⟨Nat.le_refl _, Nat.le_refl _⟩ (fun v9 h9 n9 H locs hq hP hS => ?_)
      obtain ⟨rfl, q39a, q39b⟩ := hq
      rw [q39a, q39b] at hP
      refine W.eq (g2 := F0 m 175 ls []) rfl ?_
      refine lv_iload hx hb (fh_d d_Ty_placeLimits 93 rfl) (lv_at hl 0 rfl) ?_
      refine lv_aload hx hb (fh_d d_Ty_placeLimits 94 rfl) (lv_at hl 5 rfl) ?_
      refine fh_get (own := "FormulaSetter$Typesetter") (ref := "FormulaSetter$Nucleus") (C := "FormulaSetter$Nucleus") (T := T_Nu) (N := 15) (v := .int ((C v2) 2)) hx hb hT i_Nu hown hK hP (mkR_nu (hv2)) rfl 2 (by decide) (hT _ w101) (fun x9 h9 => u_same (hT _ w102) x9 h9) (rfl) (fh_d d_Ty_placeLimits 95 rfl) ?_
      refine lv_iadd hx hb (fh_d d_Ty_placeLimits 96 rfl) ?_
      refine lv_istore (lv' := [(8, .int (((((C i) 2) + (2 * (yT si))) + ((C v2) 1)) + ((C v2) 2))), (9, .int ((((C i) 2) + (2 * (yT si))) + ((C v2) 1))), (7, .int (((((C i) 1) + (2 * (yT si))) + ((C u) 2)) + ((C u) 1))), (6, .int (if (if ((C i) 0) < ((C u) 0) then ((C u) 0) else ((C i) 0)) < ((C v2) 0) then ((C v2) 0) else (if ((C i) 0) < ((C u) 0) then ((C u) 0) else ((C i) 0)))), (5, .int (2 * (yT si))), (4, .ref (x + 4 + v2)), (3, .ref (x + 4 + u)), (0, .ref (x + 226)), (1, .ref (x + 4 + i)), (2, .ref (yA si))]) hx hb (fh_d d_Ty_placeLimits 97 rfl) hl (by decide) rfl (fun ls hl => ?_)
      refine lv_aload_n hx hb (fh_d d_Ty_placeLimits 98 rfl) rfl (lv_at hl 8 rfl) ?_
      refine lv_iload hx hb (fh_d d_Ty_placeLimits 99 rfl) (lv_at hl 3 rfl) ?_
      refine lv_iload hx hb (fh_d d_Ty_placeLimits 100 rfl) (lv_at hl 2 rfl) ?_
      refine lv_iload hx hb (fh_d d_Ty_placeLimits 101 rfl) (lv_at hl 0 rfl) ?_
      refine fh_callU (cc' := c_Bo_measure) (nL' := 4) (rest := []) (a := x + 4 + i) (As := [.int (if (if ((C i) 0) < ((C u) 0) then ((C u) 0) else ((C i) 0)) < ((C v2) 0) then ((C v2) 0) else (if ((C i) 0) < ((C u) 0) then ((C u) 0) else ((C i) 0))), .int (((((C i) 1) + (2 * (yT si))) + ((C u) 2)) + ((C u) 1)), .int (((((C i) 2) + (2 * (yT si))) + ((C v2) 1)) + ((C v2) 2))]) (Ck := "FormulaSetter$Nucleus") (owner := "FormulaSetter$Box") (x' := ⟨"FormulaSetter$Nucleus", "measure", "(III)V"⟩) X hR (m_Bo_measureNu l D ct b RO (r - 1) n x kA aA g (nI c0) (mvF (mvF (mvF F (ixI (C i 3)) (ixI (C i 4)) (((if (if ((C i) 0) < ((C u) 0) then ((C u) 0) else ((C i) 0)) < ((C v2) 0) then ((C v2) 0) else (if ((C i) 0) < ((C u) 0) then ((C u) 0) else ((C i) 0))) - ((C i) 0)) / 2) 0) (ixI (C u 3)) (ixI (C u 4)) (((if (if ((C i) 0) < ((C u) 0) then ((C u) 0) else ((C i) 0)) < ((C v2) 0) then ((C v2) 0) else (if ((C i) 0) < ((C u) 0) then ((C u) 0) else ((C i) 0))) - ((C u) 0)) / 2) ((((C i) 1) + (2 * (yT si))) + ((C u) 2))) (ixI (C v2 3)) (ixI (C v2 4)) (((if (if ((C i) 0) < ((C u) 0) then ((C u) 0) else ((C i) 0)) < ((C v2) 0) then ((C v2) 0) else (if ((C i) 0) < ((C u) 0) then ((C u) 0) else ((C i) 0))) - ((C v2) 0)) / 2) (-((((C i) 2) + (2 * (yT si))) + ((C v2) 1)))) W0 H0 D0 rows cols nc lc tx len at_ C R CL RL i (hi) (if (if ((C i) 0) < ((C u) 0) then ((C u) 0) else ((C i) 0)) < ((C v2) 0) then ((C v2) 0) else (if ((C i) 0) < ((C u) 0) then ((C u) 0) else ((C i) 0))) (((((C i) 1) + (2 * (yT si))) + ((C u) 2)) + ((C u) 1)) (((((C i) 2) + (2 * (yT si))) + ((C v2) 1)) + ((C v2) 2))) w655 w691 w692 rfl w654 w693 w3 ⟨by decide, by decide, by show _ = some 3; decide +kernel⟩ (by omega) (by decide) (fh_recv hK hP (mkR_nu (hi)) rfl) hP hS hl.1 rfl (by exact Nat.le_of_ble_eq_true rfl) (fh_d d_Ty_placeLimits 102 rfl) ⟨Nat.le_refl _, Nat.le_refl _⟩ (fun v9 h9 n9 H locs hq hP hS => ?_)
      obtain ⟨rfl, q40a, q40b⟩ := hq
      rw [q40a, q40b] at hP
      refine W.eq (g2 := F0 m 195 ls []) rfl ?_
      have f41 : (sT (sT (sT C i 0 (if (if ((C i) 0) < ((C u) 0) then ((C u) 0) else ((C i) 0)) < ((C v2) 0) then ((C v2) 0) else (if ((C i) 0) < ((C u) 0) then ((C u) 0) else ((C i) 0)))) i 1 (((((C i) 1) + (2 * (yT si))) + ((C u) 2)) + ((C u) 1))) i 2 (((((C i) 2) + (2 * (yT si))) + ((C v2) 1)) + ((C v2) 2))) i 0 = if (if ((C i) 0) < ((C u) 0) then ((C u) 0) else ((C i) 0)) < ((C v2) 0) then ((C v2) 0) else (if ((C i) 0) < ((C u) 0) then ((C u) 0) else ((C i) 0)) := (sT_ne (by omega)).trans ((sT_ne (by omega)).trans sT_same)
      have f42 : (sT (sT (sT C i 0 (if (if ((C i) 0) < ((C u) 0) then ((C u) 0) else ((C i) 0)) < ((C v2) 0) then ((C v2) 0) else (if ((C i) 0) < ((C u) 0) then ((C u) 0) else ((C i) 0)))) i 1 (((((C i) 1) + (2 * (yT si))) + ((C u) 2)) + ((C u) 1))) i 2 (((((C i) 2) + (2 * (yT si))) + ((C v2) 1)) + ((C v2) 2))) i 1 = ((((C i) 1) + (2 * (yT si))) + ((C u) 2)) + ((C u) 1) := (sT_ne (by omega)).trans sT_same
      have f43 : (sT (sT (sT C i 0 (if (if ((C i) 0) < ((C u) 0) then ((C u) 0) else ((C i) 0)) < ((C v2) 0) then ((C v2) 0) else (if ((C i) 0) < ((C u) 0) then ((C u) 0) else ((C i) 0)))) i 1 (((((C i) 1) + (2 * (yT si))) + ((C u) 2)) + ((C u) 1))) i 2 (((((C i) 2) + (2 * (yT si))) + ((C v2) 1)) + ((C v2) 2))) i 2 = ((((C i) 2) + (2 * (yT si))) + ((C v2) 1)) + ((C v2) 2) := sT_same
      have y44 : okB (sT (sT (sT C i 0 (if (if ((C i) 0) < ((C u) 0) then ((C u) 0) else ((C i) 0)) < ((C v2) 0) then ((C v2) 0) else (if ((C i) 0) < ((C u) 0) then ((C u) 0) else ((C i) 0)))) i 1 (((((C i) 1) + (2 * (yT si))) + ((C u) 2)) + ((C u) 1))) i 2 (((((C i) 2) + (2 * (yT si))) + ((C v2) 1)) + ((C v2) 2))) CL := okB_m hokB i (if (if ((C i) 0) < ((C u) 0) then ((C u) 0) else ((C i) 0)) < ((C v2) 0) then ((C v2) 0) else (if ((C i) 0) < ((C u) 0) then ((C u) 0) else ((C i) 0))) (((((C i) 1) + (2 * (yT si))) + ((C u) 2)) + ((C u) 1)) (((((C i) 2) + (2 * (yT si))) + ((C v2) 1)) + ((C v2) 2))
      refine fh_vret X hP hS (fh_d d_Ty_placeLimits 103 rfl) ⟨rfl, ?_, rfl⟩
      · unfold sLim; dsimp only; rw [h12, h13]; rfl

set_option maxHeartbeats 4000000 in
set_option maxRecDepth 100000 in
theorem m_Ty_placeScripts (l : Launch) (D : va_G) (ct : Nat → ClassId) (b : Nat) (RO : State → Prop) (hR : fh_R b RO) (sA sV : Nat → Nat) (hSt : ∀ U, RO U → ro_S b sA sV U) (kA aA yA : Nat → Nat) (tK tS tM : Nat) (hEn : ∀ U, RO U → ro_E b sA kA aA yA tK tS tM U) (hAd : ad_ok kA aA yA)  (n x : Nat) (g : fh_H) (c0 : Nat) (hc0 : c0 ≤ 120) (F W0 H0 D0 : Nat → Int32) (rows cols : Int32) (nc lc : Int32) (tx : Value) (len at_ : Int32) (C : Nat → Nat → Int32) (R : Nat → Nat → Option Nat) (CL : Nat → Nat → Int32) (RL : Nat → Nat → Option Nat) (hokB : okB C CL) (r : Nat) (hr : 2 ≤ r) (i si cr : Nat) (hi : i < 60) (hsi : si < 4) (hcr : cr ≤ 1) (k0 : Nat) (hk0 : k0 < 11) (h5 : R i 5 = some k0) (hu12 : ∀ u, R i 12 = some u → u < 60) (hu13 : ∀ u, R i 13 = some u → u < 60) : fh_C l D fh_cl (fh_tys ct) b RO y_Ty_placeScripts (Cond.code y_Ty_placeScripts c_Ty_placeScripts 12 (Option.none : Option FieldType) :: fh_T) (fh_rm r 0 0) [.ref (x + 226), .ref (x + 4 + i), .ref (yA si), .int (nI cr)] (mkR x kA aA (mkG ct x g (nI c0) F W0 H0 D0 rows cols) nc lc tx len at_ C R CL RL) n (fun v h' n' => v = none ∧ h' = hz ct x kA aA g nc lc tx len at_ R RL (sScr R i si cr (c0, F, W0, H0, D0, rows, cols, C, CL)) ∧ n' = n) 0 0 := by
  refine fh_enter (by decide) (Nat.le_of_ble_eq_true rfl) [(0, .ref (x + 226)), (1, .ref (x + 4 + i)), (2, .ref (yA si)), (3, .int (nI cr))] rfl ?_
  intro p e s m args below meth c H ls X hP hS hl
  have hx := X.1
  have hb := X.2.1
  have hml := X.2.2.1
  have hown : s.vm.findClass "FormulaSetter$Typesetter" = some m.cls := X.2.2.2.1
  have hT := X.2.2.2.2.1
  have hK := X.2.2.2.2.2.1
  have hRO := X.2.2.2.2.2.2.1
  have hnm : meth.name = "placeScripts" := X.2.2.2.2.2.2.2.2.2.2
  obtain ⟨o12, h12⟩ : ∃ z, R i 12 = z := ⟨_, rfl⟩
  obtain ⟨o13, h13⟩ : ∃ z, R i 13 = z := ⟨_, rfl⟩
  rcases o12 with _ | u
  · have hu : True := trivial
    rcases o13 with _ | v2
    · have hv2 : True := trivial
      refine lv_aload_n hx hb (fh_d d_Ty_placeScripts 0 rfl) rfl (lv_at hl 1 rfl) ?_
      refine fh_get (own := "FormulaSetter$Typesetter") (ref := "FormulaSetter$Nucleus") (C := "FormulaSetter$Nucleus") (T := T_Nu) (N := 15) (v := .null) hx hb hT i_Nu hown hK hP (mkR_nu (hi)) rfl 12 (by decide) (hT _ w74) (fun _ h9 => h9) (by show some (va_rf ((R i 12).map (fun z => x + 4 + z))) = _; rw [h12]; rfl) (fh_d d_Ty_placeScripts 1 rfl) ?_
      refine lv_astoreN (lv' := [(4, .null), (0, .ref (x + 226)), (1, .ref (x + 4 + i)), (2, .ref (yA si)), (3, .int (nI cr))]) hx hb (fh_d d_Ty_placeScripts 2 rfl) hl (by decide) rfl (fun ls hl => ?_)
      refine lv_aload_n hx hb (fh_d d_Ty_placeScripts 3 rfl) rfl (lv_at hl 2 rfl) ?_
      refine fh_get (own := "FormulaSetter$Typesetter") (ref := "FormulaSetter$Nucleus") (C := "FormulaSetter$Nucleus") (T := T_Nu) (N := 15) (v := .null) hx hb hT i_Nu hown hK hP (mkR_nu (hi)) rfl 13 (by decide) (hT _ w77) (fun _ h9 => h9) (by show some (va_rf ((R i 13).map (fun z => x + 4 + z))) = _; rw [h13]; rfl) (fh_d d_Ty_placeScripts 4 rfl) ?_
      refine lv_astoreN (lv' := [(5, .null), (4, .null), (0, .ref (x + 226)), (1, .ref (x + 4 + i)), (2, .ref (yA si)), (3, .int (nI cr))]) hx hb (fh_d d_Ty_placeScripts 5 rfl) hl (by decide) rfl (fun ls hl => ?_)
      refine lv_aload_n hx hb (fh_d d_Ty_placeScripts 6 rfl) rfl (lv_at hl 3 rfl) ?_
      refine fh_get (own := "FormulaSetter$Typesetter") (ref := "FormulaSetter$Nucleus") (C := "FormulaSetter$Nucleus") (T := T_Nu) (N := 15) (v := .int ((C i) 0)) hx hb hT i_Nu hown hK hP (mkR_nu (hi)) rfl 0 (by decide) (hT _ w87) (fun x9 h9 => u_same (hT _ w88) x9 h9) (rfl) (fh_d d_Ty_placeScripts 7 rfl) ?_
      refine lv_istore (lv' := [(6, .int ((C i) 0)), (5, .null), (4, .null), (0, .ref (x + 226)), (1, .ref (x + 4 + i)), (2, .ref (yA si)), (3, .int (nI cr))]) hx hb (fh_d d_Ty_placeScripts 8 rfl) hl (by decide) rfl (fun ls hl => ?_)
      refine lv_aload_n hx hb (fh_d d_Ty_placeScripts 9 rfl) rfl (lv_at hl 4 rfl) ?_
      refine fh_get (own := "FormulaSetter$Typesetter") (ref := "FormulaSetter$Nucleus") (C := "FormulaSetter$Nucleus") (T := T_Nu) (N := 15) (v := .int ((C i) 1)) hx hb hT i_Nu hown hK hP (mkR_nu (hi)) rfl 1 (by decide) (hT _ w94) (fun x9 h9 => u_same (hT _ w95) x9 h9) (rfl) (fh_d d_Ty_placeScripts 10 rfl) ?_
      refine lv_istore (lv' := [(7, .int ((C i) 1)), (6, .int ((C i) 0)), (5, .null), (4, .null), (0, .ref (x + 226)), (1, .ref (x + 4 + i)), (2, .ref (yA si)), (3, .int (nI cr))]) hx hb (fh_d d_Ty_placeScripts 11 rfl) hl (by decide) rfl (fun ls hl => ?_)
      refine lv_aload_n hx hb (fh_d d_Ty_placeScripts 12 rfl) rfl (lv_at hl 5 rfl) ?_
      refine fh_get (own := "FormulaSetter$Typesetter") (ref := "FormulaSetter$Nucleus") (C := "FormulaSetter$Nucleus") (T := T_Nu) (N := 15) (v := .int ((C i) 2)) hx hb hT i_Nu hown hK hP (mkR_nu (hi)) rfl 2 (by decide) (hT _ w101) (fun x9 h9 => u_same (hT _ w102) x9 h9) (rfl) (fh_d d_Ty_placeScripts 13 rfl) ?_
      refine lv_istore (lv' := [(8, .int ((C i) 2)), (7, .int ((C i) 1)), (6, .int ((C i) 0)), (5, .null), (4, .null), (0, .ref (x + 226)), (1, .ref (x + 4 + i)), (2, .ref (yA si)), (3, .int (nI cr))]) hx hb (fh_d d_Ty_placeScripts 14 rfl) hl (by decide) rfl (fun ls hl => ?_)
      refine lv_aloadN hx hb (fh_d d_Ty_placeScripts 15 rfl) (lv_at hl 4 rfl) ?_
      refine lv_ifnonnullN hx hb (fh_d d_Ty_placeScripts 16 rfl) ?_
      refine lv_iconst (v := 0) hx hb (fh_d d_Ty_placeScripts 17 rfl) (by decide) ?_
      refine lv_goto (tgt := 47) hx hb (fh_d d_Ty_placeScripts 18 rfl) rfl ?_
      refine lv_istore (lv' := [(9, .int 0), (8, .int ((C i) 2)), (7, .int ((C i) 1)), (6, .int ((C i) 0)), (5, .null), (4, .null), (0, .ref (x + 226)), (1, .ref (x + 4 + i)), (2, .ref (yA si)), (3, .int (nI cr))]) hx hb (fh_d d_Ty_placeScripts 24 rfl) hl (by decide) rfl (fun ls hl => ?_)
      refine lv_aloadN hx hb (fh_d d_Ty_placeScripts 25 rfl) (lv_at hl 5 rfl) ?_
      refine lv_ifnullN (tgt := 101) hx hb (fh_d d_Ty_placeScripts 26 rfl) rfl ?_
      refine lv_aloadN hx hb (fh_d d_Ty_placeScripts 49 rfl) (lv_at hl 4 rfl) ?_
      refine lv_ifnullN (tgt := 229) hx hb (fh_d d_Ty_placeScripts 50 rfl) rfl ?_
      refine lv_aload_n hx hb (fh_d d_Ty_placeScripts 113 rfl) rfl (lv_at hl 7 rfl) ?_
      refine lv_iload hx hb (fh_d d_Ty_placeScripts 114 rfl) (lv_at hl 3 rfl) ?_
      refine lv_aload_n hx hb (fh_d d_Ty_placeScripts 115 rfl) rfl (lv_at hl 8 rfl) ?_
      refine vk_getf (own := "FormulaSetter$Typesetter") (ref := "FormulaSetter$Style") hx hb (((hEn _ hRO).2.2.1 si hsi).2.2.2.1) hS hown (hT _ w1249) (fun _ h9 => h9) (fh_d d_Ty_placeScripts 116 rfl) ?_
      refine lv_iconst (v := 2) hx hb (fh_d d_Ty_placeScripts 117 rfl) (by decide) ?_
      refine lv_idiv hx hb (fh_d d_Ty_placeScripts 118 rfl) (by decide) ?_
      refine lv_iadd hx hb (fh_d d_Ty_placeScripts 119 rfl) ?_
      refine lv_iload hx hb (fh_d d_Ty_placeScripts 120 rfl) (lv_at hl 2 rfl) ?_
      refine lv_iload hx hb (fh_d d_Ty_placeScripts 121 rfl) (lv_at hl 1 rfl) ?_
      refine fh_callU (cc' := c_Bo_measure) (nL' := 4) (rest := []) (a := x + 4 + i) (As := [.int (((C i) 0) + ((yS si) / 2)), .int ((C i) 1), .int ((C i) 2)]) (Ck := "FormulaSetter$Nucleus") (owner := "FormulaSetter$Box") (x' := ⟨"FormulaSetter$Nucleus", "measure", "(III)V"⟩) X hR (m_Bo_measureNu l D ct b RO (r - 1) n x kA aA g (nI c0) F W0 H0 D0 rows cols nc lc tx len at_ C R CL RL i (hi) (((C i) 0) + ((yS si) / 2)) ((C i) 1) ((C i) 2)) w655 w691 w692 rfl w654 w693 w3 ⟨by decide, by decide, by show _ = some 3; decide +kernel⟩ (by omega) (by decide) (fh_recv hK hP (mkR_nu (hi)) rfl) hP hS hl.1 rfl (by exact Nat.le_of_ble_eq_true rfl) (fh_d d_Ty_placeScripts 122 rfl) ⟨Nat.le_refl _, Nat.le_refl _⟩ (fun v9 h9 n9 H locs hq hP hS => ?_)
      obtain ⟨rfl, q4a, q4b⟩ := hq
      rw [q4a, q4b] at hP
      refine W.eq (g2 := F0 m 246 ls []) rfl ?_
      have f5 : (sT (sT (sT C i 0 (((C i) 0) + ((yS si) / 2))) i 1 ((C i) 1)) i 2 ((C i) 2)) i 0 = ((C i) 0) + ((yS si) / 2) := (sT_ne (by omega)).trans ((sT_ne (by omega)).trans sT_same)
      have f6 : (sT (sT (sT C i 0 (((C i) 0) + ((yS si) / 2))) i 1 ((C i) 1)) i 2 ((C i) 2)) i 1 = (C i) 1 := (sT_ne (by omega)).trans sT_same
      have f7 : (sT (sT (sT C i 0 (((C i) 0) + ((yS si) / 2))) i 1 ((C i) 1)) i 2 ((C i) 2)) i 2 = (C i) 2 := sT_same
      have y8 : okB (sT (sT (sT C i 0 (((C i) 0) + ((yS si) / 2))) i 1 ((C i) 1)) i 2 ((C i) 2)) CL := okB_m hokB i (((C i) 0) + ((yS si) / 2)) ((C i) 1) ((C i) 2)
      refine fh_vret X hP hS (fh_d d_Ty_placeScripts 123 rfl) ⟨rfl, ?_, rfl⟩
      · unfold sScr; dsimp only; rw [h12, h13, h5]; rfl
    · have hv2 := hu13 v2 h13
      refine lv_aload_n hx hb (fh_d d_Ty_placeScripts 0 rfl) rfl (lv_at hl 1 rfl) ?_
      refine fh_get (own := "FormulaSetter$Typesetter") (ref := "FormulaSetter$Nucleus") (C := "FormulaSetter$Nucleus") (T := T_Nu) (N := 15) (v := .null) hx hb hT i_Nu hown hK hP (mkR_nu (hi)) rfl 12 (by decide) (hT _ w74) (fun _ h9 => h9) (by show some (va_rf ((R i 12).map (fun z => x + 4 + z))) = _; rw [h12]; rfl) (fh_d d_Ty_placeScripts 1 rfl) ?_
      refine lv_astoreN (lv' := [(4, .null), (0, .ref (x + 226)), (1, .ref (x + 4 + i)), (2, .ref (yA si)), (3, .int (nI cr))]) hx hb (fh_d d_Ty_placeScripts 2 rfl) hl (by decide) rfl (fun ls hl => ?_)
      refine lv_aload_n hx hb (fh_d d_Ty_placeScripts 3 rfl) rfl (lv_at hl 2 rfl) ?_
      refine fh_get (own := "FormulaSetter$Typesetter") (ref := "FormulaSetter$Nucleus") (C := "FormulaSetter$Nucleus") (T := T_Nu) (N := 15) (v := .ref (x + 4 + v2)) hx hb hT i_Nu hown hK hP (mkR_nu (hi)) rfl 13 (by decide) (hT _ w77) (fun _ h9 => h9) (by show some (va_rf ((R i 13).map (fun z => x + 4 + z))) = _; rw [h13]; rfl) (fh_d d_Ty_placeScripts 4 rfl) ?_
      refine lv_astore (lv' := [(5, .ref (x + 4 + v2)), (4, .null), (0, .ref (x + 226)), (1, .ref (x + 4 + i)), (2, .ref (yA si)), (3, .int (nI cr))]) hx hb (fh_d d_Ty_placeScripts 5 rfl) hl (by decide) rfl (fun ls hl => ?_)
      refine lv_aload_n hx hb (fh_d d_Ty_placeScripts 6 rfl) rfl (lv_at hl 3 rfl) ?_
      refine fh_get (own := "FormulaSetter$Typesetter") (ref := "FormulaSetter$Nucleus") (C := "FormulaSetter$Nucleus") (T := T_Nu) (N := 15) (v := .int ((C i) 0)) hx hb hT i_Nu hown hK hP (mkR_nu (hi)) rfl 0 (by decide) (hT _ w87) (fun x9 h9 => u_same (hT _ w88) x9 h9) (rfl) (fh_d d_Ty_placeScripts 7 rfl) ?_
      refine lv_istore (lv' := [(6, .int ((C i) 0)), (5, .ref (x + 4 + v2)), (4, .null), (0, .ref (x + 226)), (1, .ref (x + 4 + i)), (2, .ref (yA si)), (3, .int (nI cr))]) hx hb (fh_d d_Ty_placeScripts 8 rfl) hl (by decide) rfl (fun ls hl => ?_)
      refine lv_aload_n hx hb (fh_d d_Ty_placeScripts 9 rfl) rfl (lv_at hl 4 rfl) ?_
      refine fh_get (own := "FormulaSetter$Typesetter") (ref := "FormulaSetter$Nucleus") (C := "FormulaSetter$Nucleus") (T := T_Nu) (N := 15) (v := .int ((C i) 1)) hx hb hT i_Nu hown hK hP (mkR_nu (hi)) rfl 1 (by decide) (hT _ w94) (fun x9 h9 => u_same (hT _ w95) x9 h9) (rfl) (fh_d d_Ty_placeScripts 10 rfl) ?_
      refine lv_istore (lv' := [(7, .int ((C i) 1)), (6, .int ((C i) 0)), (5, .ref (x + 4 + v2)), (4, .null), (0, .ref (x + 226)), (1, .ref (x + 4 + i)), (2, .ref (yA si)), (3, .int (nI cr))]) hx hb (fh_d d_Ty_placeScripts 11 rfl) hl (by decide) rfl (fun ls hl => ?_)
      refine lv_aload_n hx hb (fh_d d_Ty_placeScripts 12 rfl) rfl (lv_at hl 5 rfl) ?_
      refine fh_get (own := "FormulaSetter$Typesetter") (ref := "FormulaSetter$Nucleus") (C := "FormulaSetter$Nucleus") (T := T_Nu) (N := 15) (v := .int ((C i) 2)) hx hb hT i_Nu hown hK hP (mkR_nu (hi)) rfl 2 (by decide) (hT _ w101) (fun x9 h9 => u_same (hT _ w102) x9 h9) (rfl) (fh_d d_Ty_placeScripts 13 rfl) ?_
      refine lv_istore (lv' := [(8, .int ((C i) 2)), (7, .int ((C i) 1)), (6, .int ((C i) 0)), (5, .ref (x + 4 + v2)), (4, .null), (0, .ref (x + 226)), (1, .ref (x + 4 + i)), (2, .ref (yA si)), (3, .int (nI cr))]) hx hb (fh_d d_Ty_placeScripts 14 rfl) hl (by decide) rfl (fun ls hl => ?_)
      refine lv_aloadN hx hb (fh_d d_Ty_placeScripts 15 rfl) (lv_at hl 4 rfl) ?_
      refine lv_ifnonnullN hx hb (fh_d d_Ty_placeScripts 16 rfl) ?_
      refine lv_iconst (v := 0) hx hb (fh_d d_Ty_placeScripts 17 rfl) (by decide) ?_
      refine lv_goto (tgt := 47) hx hb (fh_d d_Ty_placeScripts 18 rfl) rfl ?_
      refine lv_istore (lv' := [(9, .int 0), (8, .int ((C i) 2)), (7, .int ((C i) 1)), (6, .int ((C i) 0)), (5, .ref (x + 4 + v2)), (4, .null), (0, .ref (x + 226)), (1, .ref (x + 4 + i)), (2, .ref (yA si)), (3, .int (nI cr))]) hx hb (fh_d d_Ty_placeScripts 24 rfl) hl (by decide) rfl (fun ls hl => ?_)
      refine lv_aloadN hx hb (fh_d d_Ty_placeScripts 25 rfl) (lv_at hl 5 rfl) ?_
      refine lv_ifnullN (tgt := 101) hx hb (fh_d d_Ty_placeScripts 26 rfl) rfl ?_
      refine lv_aload hx hb (fh_d d_Ty_placeScripts 49 rfl) (lv_at hl 4 rfl) ?_
      refine lv_ifnull hx hb (fh_d d_Ty_placeScripts 50 rfl) ?_
      refine lv_aload hx hb (fh_d d_Ty_placeScripts 51 rfl) (lv_at hl 4 rfl) ?_
      refine lv_aload_n hx hb (fh_d d_Ty_placeScripts 52 rfl) rfl (lv_at hl 7 rfl) ?_
      refine lv_aload_n hx hb (fh_d d_Ty_placeScripts 53 rfl) rfl (lv_at hl 8 rfl) ?_
      refine fh_callS (cc' := c_Ty_dropOf) (nL' := 4) (rest := []) (av := [.ref (x + 4 + v2), .ref (x + 4 + i), .ref (yA si)]) X hR (m_Ty_dropOf l D ct b RO hR sA sV hSt kA aA yA tK tS tM hEn hAd (r - 1) (by omega) i v2 si 0 hi hv2 hsi (by omega) n x g c0 hc0 F W0 H0 D0 rows cols nc lc tx len at_ C R CL RL hokB) w822 w820 w821 w6 ⟨by decide, by decide, by show _ = some 3; decide +kernel⟩ (by omega) (by decide) hP hS hl.1 rfl (by exact Nat.le_of_ble_eq_true rfl) (fh_d d_Ty_placeScripts 54 rfl) ⟨Nat.le_refl _, Nat.le_refl _⟩ (fun v9 h9 n9 H locs hq hP hS => ?_)
      obtain ⟨rfl, q12a, q12b⟩ := hq
      rw [q12a, q12b] at hP
      replace hP : fh_P D fh_cl b (mkR x kA aA (mkG ct x g (nI c0) F W0 H0 D0 rows cols) nc lc tx len at_ C R CL RL) n H := hP
      refine W.eq (g2 := F0 m 113 ls [.int (drO si (C v2 1) (C i 2))]) rfl ?_
      refine lv_istore (lv' := [(10, .int (drO si (C v2 1) (C i 2))), (9, .int 0), (8, .int ((C i) 2)), (7, .int ((C i) 1)), (6, .int ((C i) 0)), (5, .ref (x + 4 + v2)), (4, .null), (0, .ref (x + 226)), (1, .ref (x + 4 + i)), (2, .ref (yA si)), (3, .int (nI cr))]) hx hb (fh_d d_Ty_placeScripts 55 rfl) hl (by decide) rfl (fun ls hl => ?_)
      refine lv_aloadN hx hb (fh_d d_Ty_placeScripts 56 rfl) (lv_at hl 6 rfl) ?_
      refine lv_ifnullN (tgt := 157) hx hb (fh_d d_Ty_placeScripts 57 rfl) rfl ?_
      refine lv_aload_n hx hb (fh_d d_Ty_placeScripts 79 rfl) rfl (lv_at hl 8 rfl) ?_
      refine fh_get (own := "FormulaSetter$Typesetter") (ref := "FormulaSetter$Nucleus") (C := "FormulaSetter$Nucleus") (T := T_Nu) (N := 15) (v := .ref (kA k0)) hx hb hT i_Nu hown hK hP (mkR_nu (hi)) rfl 5 (by decide) (hT _ w52) (fun _ h9 => h9) (by show some (va_rf ((R i 5).map kA)) = _; rw [h5]; rfl) (fh_d d_Ty_placeScripts 80 rfl) ?_
      refine va_gets (own := "FormulaSetter$Typesetter") (ref := "FormulaSetter$Kind") (n := "INT") hx hb ((hEn _ hRO).1 4 (by decide)).1 hS hown (hT _ w823) (fun _ h9 => h9) (fh_d d_Ty_placeScripts 81 rfl) ?_
      refine lv_acmp_ne (rx := some (kA k0)) (ry := some (kA 4)) (tgt := 179) hx hb (fh_d d_Ty_placeScripts 82 rfl) rfl (fun c14 => ?_) (fun c14 => ?_)
      · refine lv_aload_n hx hb (fh_d d_Ty_placeScripts 89 rfl) rfl (lv_at hl 8 rfl) ?_
        refine fh_get (own := "FormulaSetter$Typesetter") (ref := "FormulaSetter$Nucleus") (C := "FormulaSetter$Nucleus") (T := T_Nu) (N := 15) (v := .int ((C i) 0)) hx hb hT i_Nu hown hK hP (mkR_nu (hi)) rfl 0 (by decide) (hT _ w87) (fun x9 h9 => u_same (hT _ w88) x9 h9) (rfl) (fh_d d_Ty_placeScripts 90 rfl) ?_
        refine lv_istore (lv' := [(11, .int ((C i) 0)), (10, .int (drO si (C v2 1) (C i 2))), (9, .int 0), (8, .int ((C i) 2)), (7, .int ((C i) 1)), (6, .int ((C i) 0)), (5, .ref (x + 4 + v2)), (4, .null), (0, .ref (x + 226)), (1, .ref (x + 4 + i)), (2, .ref (yA si)), (3, .int (nI cr))]) hx hb (fh_d d_Ty_placeScripts 91 rfl) hl (by decide) rfl (fun ls hl => ?_)
        refine lv_aload_n hx hb (fh_d d_Ty_placeScripts 92 rfl) rfl (lv_at hl 8 rfl) ?_
        refine fh_get (own := "FormulaSetter$Typesetter") (ref := "FormulaSetter$Typesetter") (C := "FormulaSetter$Typesetter") (T := T_Ty) (N := 2) (v := .ref (x + 227)) hx hb hT i_Ty hown hK hP ((mkR_g (by omega) (by omega) (by omega)).trans mkG_ts) rfl 0 (by decide) (hT _ w247) (fun _ h9 => h9) rfl (fh_d d_Ty_placeScripts 93 rfl) ?_
        refine lv_aload hx hb (fh_d d_Ty_placeScripts 94 rfl) (lv_at hl 6 rfl) ?_
        refine lv_iload hx hb (fh_d d_Ty_placeScripts 95 rfl) (lv_at hl 0 rfl) ?_
        refine lv_iload hx hb (fh_d d_Ty_placeScripts 96 rfl) (lv_at hl 1 rfl) ?_
        refine lv_ineg hx hb (fh_d d_Ty_placeScripts 97 rfl) ?_
        refine fh_callV (cc' := c_Sh_move) (nL' := 5) (rest := []) (a := x + 227) (As := [.ref (x + 4 + v2), .int ((C i) 0), .int (-(drO si (C v2 1) (C i 2)))]) X hR (m_Sh_mvNu l D ct b RO (r - 1) (by omega) n x kA aA g (nI c0) F W0 H0 D0 rows cols nc lc tx len at_ C R CL RL v2 (hv2) (hokB.1 v2 (hv2)).1 (hokB.1 v2 (hv2)).2 ((C i) 0) (-(drO si (C v2 1) (C i 2)))) w723 w720 w721 w722 w7 ⟨by decide, by decide, by show _ = some 3; decide +kernel⟩ (by omega) (by decide) (fh_recv hK hP ((mkR_g (by omega) (by omega) (by omega)).trans mkG_sh) rfl) hP hS hl.1 rfl (by exact Nat.le_of_ble_eq_true rfl) (fh_d d_Ty_placeScripts 98 rfl) ⟨Nat.le_refl _, Nat.le_refl _⟩ (fun v9 h9 n9 H locs hq hP hS => ?_)
        obtain ⟨rfl, q15a, q15b⟩ := hq
        rw [q15a, q15b] at hP
        refine W.eq (g2 := F0 m 199 ls []) rfl ?_
        refine lv_iload hx hb (fh_d d_Ty_placeScripts 99 rfl) (lv_at hl 5 rfl) ?_
        refine lv_iload hx hb (fh_d d_Ty_placeScripts 100 rfl) (lv_at hl 0 rfl) ?_
        refine lv_aload hx hb (fh_d d_Ty_placeScripts 101 rfl) (lv_at hl 6 rfl) ?_
        refine fh_get (own := "FormulaSetter$Typesetter") (ref := "FormulaSetter$Nucleus") (C := "FormulaSetter$Nucleus") (T := T_Nu) (N := 15) (v := .int ((C v2) 0)) hx hb hT i_Nu hown hK hP (mkR_nu (hv2)) rfl 0 (by decide) (hT _ w87) (fun x9 h9 => u_same (hT _ w88) x9 h9) (rfl) (fh_d d_Ty_placeScripts 102 rfl) ?_
        refine lv_iadd hx hb (fh_d d_Ty_placeScripts 103 rfl) ?_
        refine va_mmax hx hb (hml.trans hl.1.symm) hown (hT _ w704) (hT _ w431) (hT _ w14) (hT _ w432) (by show 1 ≤ r; omega) (by show _ ≤ 60 * r; simp [Value.category]; omega) (Nat.le_refl _) (Nat.le_refl _) (fh_d d_Ty_placeScripts 104 rfl) ?_
        refine lv_istore (lv' := [(6, .int (if ((C i) 0) < (((C i) 0) + ((C v2) 0)) then (((C i) 0) + ((C v2) 0)) else ((C i) 0))), (11, .int ((C i) 0)), (10, .int (drO si (C v2 1) (C i 2))), (9, .int 0), (8, .int ((C i) 2)), (7, .int ((C i) 1)), (5, .ref (x + 4 + v2)), (4, .null), (0, .ref (x + 226)), (1, .ref (x + 4 + i)), (2, .ref (yA si)), (3, .int (nI cr))]) hx hb (fh_d d_Ty_placeScripts 105 rfl) hl (by decide) rfl (fun ls hl => ?_)
        refine lv_iload hx hb (fh_d d_Ty_placeScripts 106 rfl) (lv_at hl 4 rfl) ?_
        refine lv_iload hx hb (fh_d d_Ty_placeScripts 107 rfl) (lv_at hl 2 rfl) ?_
        refine lv_aload hx hb (fh_d d_Ty_placeScripts 108 rfl) (lv_at hl 6 rfl) ?_
        refine fh_get (own := "FormulaSetter$Typesetter") (ref := "FormulaSetter$Nucleus") (C := "FormulaSetter$Nucleus") (T := T_Nu) (N := 15) (v := .int ((C v2) 2)) hx hb hT i_Nu hown hK hP (mkR_nu (hv2)) rfl 2 (by decide) (hT _ w101) (fun x9 h9 => u_same (hT _ w102) x9 h9) (rfl) (fh_d d_Ty_placeScripts 109 rfl) ?_
        refine lv_iadd hx hb (fh_d d_Ty_placeScripts 110 rfl) ?_
        refine va_mmax hx hb (hml.trans hl.1.symm) hown (hT _ w704) (hT _ w431) (hT _ w14) (hT _ w432) (by show 1 ≤ r; omega) (by show _ ≤ 60 * r; simp [Value.category]; omega) (Nat.le_refl _) (Nat.le_refl _) (fh_d d_Ty_placeScripts 111 rfl) ?_
        refine lv_istore (lv' := [(8, .int (if ((C i) 2) < ((drO si (C v2 1) (C i 2)) + ((C v2) 2)) then ((drO si (C v2 1) (C i 2)) + ((C v2) 2)) else ((C i) 2))), (6, .int (if ((C i) 0) < (((C i) 0) + ((C v2) 0)) then (((C i) 0) + ((C v2) 0)) else ((C i) 0))), (11, .int ((C i) 0)), (10, .int (drO si (C v2 1) (C i 2))), (9, .int 0), (7, .int ((C i) 1)), (5, .ref (x + 4 + v2)), (4, .null), (0, .ref (x + 226)), (1, .ref (x + 4 + i)), (2, .ref (yA si)), (3, .int (nI cr))]) hx hb (fh_d d_Ty_placeScripts 112 rfl) hl (by decide) rfl (fun ls hl => ?_)
        refine lv_aload_n hx hb (fh_d d_Ty_placeScripts 113 rfl) rfl (lv_at hl 9 rfl) ?_
        refine lv_iload hx hb (fh_d d_Ty_placeScripts 114 rfl) (lv_at hl 1 rfl) ?_
        refine lv_aload_n hx hb (fh_d d_Ty_placeScripts 115 rfl) rfl (lv_at hl 10 rfl) ?_
        refine vk_getf (own := "FormulaSetter$Typesetter") (ref := "FormulaSetter$Style") hx hb (((hEn _ hRO).2.2.1 si hsi).2.2.2.1) hS hown (hT _ w1249) (fun _ h9 => h9) (fh_d d_Ty_placeScripts 116 rfl) ?_
        refine lv_iconst (v := 2) hx hb (fh_d d_Ty_placeScripts 117 rfl) (by decide) ?_
        refine lv_idiv hx hb (fh_d d_Ty_placeScripts 118 rfl) (by decide) ?_
        refine lv_iadd hx hb (fh_d d_Ty_placeScripts 119 rfl) ?_
        refine lv_iload hx hb (fh_d d_Ty_placeScripts 120 rfl) (lv_at hl 5 rfl) ?_
        refine lv_iload hx hb (fh_d d_Ty_placeScripts 121 rfl) (lv_at hl 0 rfl) ?_
        refine fh_callU (cc' := c_Bo_measure) (nL' := 4) (rest := []) (a := x + 4 + i) (As := [.int ((if ((C i) 0) < (((C i) 0) + ((C v2) 0)) then (((C i) 0) + ((C v2) 0)) else ((C i) 0)) + ((yS si) / 2)), .int ((C i) 1), .int (if ((C i) 2) < ((drO si (C v2 1) (C i 2)) + ((C v2) 2)) then ((drO si (C v2 1) (C i 2)) + ((C v2) 2)) else ((C i) 2))]) (Ck := "FormulaSetter$Nucleus") (owner := "FormulaSetter$Box") (x' := ⟨"FormulaSetter$Nucleus", "measure", "(III)V"⟩) X hR (m_Bo_measureNu l D ct b RO (r - 1) n x kA aA g (nI c0) (mvF F (ixI (C v2 3)) (ixI (C v2 4)) ((C i) 0) (-(drO si (C v2 1) (C i 2)))) W0 H0 D0 rows cols nc lc tx len at_ C R CL RL i (hi) ((if ((C i) 0) < (((C i) 0) + ((C v2) 0)) then (((C i) 0) + ((C v2) 0)) else ((C i) 0)) + ((yS si) / 2)) ((C i) 1) (if ((C i) 2) < ((drO si (C v2 1) (C i 2)) + ((C v2) 2)) then ((drO si (C v2 1) (C i 2)) + ((C v2) 2)) else ((C i) 2))) w655 w691 w692 rfl w654 w693 w3 ⟨by decide, by decide, by show _ = some 3; decide +kernel⟩ (by omega) (by decide) (fh_recv hK hP (mkR_nu (hi)) rfl) hP hS hl.1 rfl (by exact Nat.le_of_ble_eq_true rfl) (fh_d d_Ty_placeScripts 122 rfl) ⟨Nat.le_refl _, Nat.le_refl _⟩ (fun v9 h9 n9 H locs hq hP hS => ?_)
        obtain ⟨rfl, q16a, q16b⟩ := hq
        rw [q16a, q16b] at hP
        refine W.eq (g2 := F0 m 246 ls []) rfl ?_
        have f17 : (sT (sT (sT C i 0 ((if ((C i) 0) < (((C i) 0) + ((C v2) 0)) then (((C i) 0) + ((C v2) 0)) else ((C i) 0)) + ((yS si) / 2))) i 1 ((C i) 1)) i 2 (if ((C i) 2) < ((drO si (C v2 1) (C i 2)) + ((C v2) 2)) then ((drO si (C v2 1) (C i 2)) + ((C v2) 2)) else ((C i) 2))) i 0 = (if ((C i) 0) < (((C i) 0) + ((C v2) 0)) then (((C i) 0) + ((C v2) 0)) else ((C i) 0)) + ((yS si) / 2) := (sT_ne (by omega)).trans ((sT_ne (by omega)).trans sT_same)
        have f18 : (sT (sT (sT C i 0 ((if ((C i) 0) < (((C i) 0) + ((C v2) 0)) then (((C i) 0) + ((C v2) 0)) else ((C i) 0)) + ((yS si) / 2))) i 1 ((C i) 1)) i 2 (if ((C i) 2) < ((drO si (C v2 1) (C i 2)) + ((C v2) 2)) then ((drO si (C v2 1) (C i 2)) + ((C v2) 2)) else ((C i) 2))) i 1 = (C i) 1 := (sT_ne (by omega)).trans sT_same
        have f19 : (sT (sT (sT C i 0 ((if ((C i) 0) < (((C i) 0) + ((C v2) 0)) then (((C i) 0) + ((C v2) 0)) else ((C i) 0)) + ((yS si) / 2))) i 1 ((C i) 1)) i 2 (if ((C i) 2) < ((drO si (C v2 1) (C i 2)) + ((C v2) 2)) then ((drO si (C v2 1) (C i 2)) + ((C v2) 2)) else ((C i) 2))) i 2 = if ((C i) 2) < ((drO si (C v2 1) (C i 2)) + ((C v2) 2)) then ((drO si (C v2 1) (C i 2)) + ((C v2) 2)) else ((C i) 2) := sT_same
        have y20 : okB (sT (sT (sT C i 0 ((if ((C i) 0) < (((C i) 0) + ((C v2) 0)) then (((C i) 0) + ((C v2) 0)) else ((C i) 0)) + ((yS si) / 2))) i 1 ((C i) 1)) i 2 (if ((C i) 2) < ((drO si (C v2 1) (C i 2)) + ((C v2) 2)) then ((drO si (C v2 1) (C i 2)) + ((C v2) 2)) else ((C i) 2))) CL := okB_m hokB i ((if ((C i) 0) < (((C i) 0) + ((C v2) 0)) then (((C i) 0) + ((C v2) 0)) else ((C i) 0)) + ((yS si) / 2)) ((C i) 1) (if ((C i) 2) < ((drO si (C v2 1) (C i 2)) + ((C v2) 2)) then ((drO si (C v2 1) (C i 2)) + ((C v2) 2)) else ((C i) 2))
        refine fh_vret X hP hS (fh_d d_Ty_placeScripts 123 rfl) ⟨rfl, ?_, rfl⟩
        · unfold sScr; dsimp only; rw [h12, h13, h5]; rw [if_neg (fun z : some k0 = some 4 => c14 (by rw [Option.some.inj z]))]; rfl
      · refine lv_aload_n hx hb (fh_d d_Ty_placeScripts 83 rfl) rfl (lv_at hl 8 rfl) ?_
        refine fh_get (own := "FormulaSetter$Typesetter") (ref := "FormulaSetter$Nucleus") (C := "FormulaSetter$Nucleus") (T := T_Nu) (N := 15) (v := .int ((C i) 0)) hx hb hT i_Nu hown hK hP (mkR_nu (hi)) rfl 0 (by decide) (hT _ w87) (fun x9 h9 => u_same (hT _ w88) x9 h9) (rfl) (fh_d d_Ty_placeScripts 84 rfl) ?_
        refine lv_aload_n hx hb (fh_d d_Ty_placeScripts 85 rfl) rfl (lv_at hl 9 rfl) ?_
        refine vk_getf (own := "FormulaSetter$Typesetter") (ref := "FormulaSetter$Style") hx hb (((hEn _ hRO).2.2.1 si hsi).2.2.2.1) hS hown (hT _ w1249) (fun _ h9 => h9) (fh_d d_Ty_placeScripts 86 rfl) ?_
        refine lv_isub hx hb (fh_d d_Ty_placeScripts 87 rfl) ?_
        refine lv_goto (tgt := 183) hx hb (fh_d d_Ty_placeScripts 88 rfl) rfl ?_
        refine lv_istore (lv' := [(11, .int (((C i) 0) - (yS si))), (10, .int (drO si (C v2 1) (C i 2))), (9, .int 0), (8, .int ((C i) 2)), (7, .int ((C i) 1)), (6, .int ((C i) 0)), (5, .ref (x + 4 + v2)), (4, .null), (0, .ref (x + 226)), (1, .ref (x + 4 + i)), (2, .ref (yA si)), (3, .int (nI cr))]) hx hb (fh_d d_Ty_placeScripts 91 rfl) hl (by decide) rfl (fun ls hl => ?_)
        refine lv_aload_n hx hb (fh_d d_Ty_placeScripts 92 rfl) rfl (lv_at hl 8 rfl) ?_
        refine fh_get (own := "FormulaSetter$Typesetter") (ref := "FormulaSetter$Typesetter") (C := "FormulaSetter$Typesetter") (T := T_Ty) (N := 2) (v := .ref (x + 227)) hx hb hT i_Ty hown hK hP ((mkR_g (by omega) (by omega) (by omega)).trans mkG_ts) rfl 0 (by decide) (hT _ w247) (fun _ h9 => h9) rfl (fh_d d_Ty_placeScripts 93 rfl) ?_
        refine lv_aload hx hb (fh_d d_Ty_placeScripts 94 rfl) (lv_at hl 6 rfl) ?_
        refine lv_iload hx hb (fh_d d_Ty_placeScripts 95 rfl) (lv_at hl 0 rfl) ?_
        refine lv_iload hx hb (fh_d d_Ty_placeScripts 96 rfl) (lv_at hl 1 rfl) ?_
        refine lv_ineg hx hb (fh_d d_Ty_placeScripts 97 rfl) ?_
        refine fh_callV (cc' := c_Sh_move) (nL' := 5) (rest := []) (a := x + 227) (As := [.ref (x + 4 + v2), .int (((C i) 0) - (yS si)), .int (-(drO si (C v2 1) (C i 2)))]) X hR (m_Sh_mvNu l D ct b RO (r - 1) (by omega) n x kA aA g (nI c0) F W0 H0 D0 rows cols nc lc tx len at_ C R CL RL v2 (hv2) (hokB.1 v2 (hv2)).1 (hokB.1 v2 (hv2)).2 (((C i) 0) - (yS si)) (-(drO si (C v2 1) (C i 2)))) w723 w720 w721 w722 w7 ⟨by decide, by decide, by show _ = some 3; decide +kernel⟩ (by omega) (by decide) (fh_recv hK hP ((mkR_g (by omega) (by omega) (by omega)).trans mkG_sh) rfl) hP hS hl.1 rfl (by exact Nat.le_of_ble_eq_true rfl) (fh_d d_Ty_placeScripts 98 rfl) ⟨Nat.le_refl _, Nat.le_refl _⟩ (fun v9 h9 n9 H locs hq hP hS => ?_)
        obtain ⟨rfl, q21a, q21b⟩ := hq
        rw [q21a, q21b] at hP
        refine W.eq (g2 := F0 m 199 ls []) rfl ?_
        refine lv_iload hx hb (fh_d d_Ty_placeScripts 99 rfl) (lv_at hl 5 rfl) ?_
        refine lv_iload hx hb (fh_d d_Ty_placeScripts 100 rfl) (lv_at hl 0 rfl) ?_
        refine lv_aload hx hb (fh_d d_Ty_placeScripts 101 rfl) (lv_at hl 6 rfl) ?_
        refine fh_get (own := "FormulaSetter$Typesetter") (ref := "FormulaSetter$Nucleus") (C := "FormulaSetter$Nucleus") (T := T_Nu) (N := 15) (v := .int ((C v2) 0)) hx hb hT i_Nu hown hK hP (mkR_nu (hv2)) rfl 0 (by decide) (hT _ w87) (fun x9 h9 => u_same (hT _ w88) x9 h9) (rfl) (fh_d d_Ty_placeScripts 102 rfl) ?_
        refine lv_iadd hx hb (fh_d d_Ty_placeScripts 103 rfl) ?_
        refine va_mmax hx hb (hml.trans hl.1.symm) hown (hT _ w704) (hT _ w431) (hT _ w14) (hT _ w432) (by show 1 ≤ r; omega) (by show _ ≤ 60 * r; simp [Value.category]; omega) (Nat.le_refl _) (Nat.le_refl _) (fh_d d_Ty_placeScripts 104 rfl) ?_
        refine lv_istore (lv' := [(6, .int (if ((C i) 0) < ((((C i) 0) - (yS si)) + ((C v2) 0)) then ((((C i) 0) - (yS si)) + ((C v2) 0)) else ((C i) 0))), (11, .int (((C i) 0) - (yS si))), (10, .int (drO si (C v2 1) (C i 2))), (9, .int 0), (8, .int ((C i) 2)), (7, .int ((C i) 1)), (5, .ref (x + 4 + v2)), (4, .null), (0, .ref (x + 226)), (1, .ref (x + 4 + i)), (2, .ref (yA si)), (3, .int (nI cr))]) hx hb (fh_d d_Ty_placeScripts 105 rfl) hl (by decide) rfl (fun ls hl => ?_)
        refine lv_iload hx hb (fh_d d_Ty_placeScripts 106 rfl) (lv_at hl 4 rfl) ?_
        refine lv_iload hx hb (fh_d d_Ty_placeScripts 107 rfl) (lv_at hl 2 rfl) ?_
        refine lv_aload hx hb (fh_d d_Ty_placeScripts 108 rfl) (lv_at hl 6 rfl) ?_
        refine fh_get (own := "FormulaSetter$Typesetter") (ref := "FormulaSetter$Nucleus") (C := "FormulaSetter$Nucleus") (T := T_Nu) (N := 15) (v := .int ((C v2) 2)) hx hb hT i_Nu hown hK hP (mkR_nu (hv2)) rfl 2 (by decide) (hT _ w101) (fun x9 h9 => u_same (hT _ w102) x9 h9) (rfl) (fh_d d_Ty_placeScripts 109 rfl) ?_
        refine lv_iadd hx hb (fh_d d_Ty_placeScripts 110 rfl) ?_
        refine va_mmax hx hb (hml.trans hl.1.symm) hown (hT _ w704) (hT _ w431) (hT _ w14) (hT _ w432) (by show 1 ≤ r; omega) (by show _ ≤ 60 * r; simp [Value.category]; omega) (Nat.le_refl _) (Nat.le_refl _) (fh_d d_Ty_placeScripts 111 rfl) ?_
        refine lv_istore (lv' := [(8, .int (if ((C i) 2) < ((drO si (C v2 1) (C i 2)) + ((C v2) 2)) then ((drO si (C v2 1) (C i 2)) + ((C v2) 2)) else ((C i) 2))), (6, .int (if ((C i) 0) < ((((C i) 0) - (yS si)) + ((C v2) 0)) then ((((C i) 0) - (yS si)) + ((C v2) 0)) else ((C i) 0))), (11, .int (((C i) 0) - (yS si))), (10, .int (drO si (C v2 1) (C i 2))), (9, .int 0), (7, .int ((C i) 1)), (5, .ref (x + 4 + v2)), (4, .null), (0, .ref (x + 226)), (1, .ref (x + 4 + i)), (2, .ref (yA si)), (3, .int (nI cr))]) hx hb (fh_d d_Ty_placeScripts 112 rfl) hl (by decide) rfl (fun ls hl => ?_)
        refine lv_aload_n hx hb (fh_d d_Ty_placeScripts 113 rfl) rfl (lv_at hl 9 rfl) ?_
        refine lv_iload hx hb (fh_d d_Ty_placeScripts 114 rfl) (lv_at hl 1 rfl) ?_
        refine lv_aload_n hx hb (fh_d d_Ty_placeScripts 115 rfl) rfl (lv_at hl 10 rfl) ?_
        refine vk_getf (own := "FormulaSetter$Typesetter") (ref := "FormulaSetter$Style") hx hb (((hEn _ hRO).2.2.1 si hsi).2.2.2.1) hS hown (hT _ w1249) (fun _ h9 => h9) (fh_d d_Ty_placeScripts 116 rfl) ?_
        refine lv_iconst (v := 2) hx hb (fh_d d_Ty_placeScripts 117 rfl) (by decide) ?_
        refine lv_idiv hx hb (fh_d d_Ty_placeScripts 118 rfl) (by decide) ?_
        refine lv_iadd hx hb (fh_d d_Ty_placeScripts 119 rfl) ?_
        refine lv_iload hx hb (fh_d d_Ty_placeScripts 120 rfl) (lv_at hl 5 rfl) ?_
        refine lv_iload hx hb (fh_d d_Ty_placeScripts 121 rfl) (lv_at hl 0 rfl) ?_
        refine fh_callU (cc' := c_Bo_measure) (nL' := 4) (rest := []) (a := x + 4 + i) (As := [.int ((if ((C i) 0) < ((((C i) 0) - (yS si)) + ((C v2) 0)) then ((((C i) 0) - (yS si)) + ((C v2) 0)) else ((C i) 0)) + ((yS si) / 2)), .int ((C i) 1), .int (if ((C i) 2) < ((drO si (C v2 1) (C i 2)) + ((C v2) 2)) then ((drO si (C v2 1) (C i 2)) + ((C v2) 2)) else ((C i) 2))]) (Ck := "FormulaSetter$Nucleus") (owner := "FormulaSetter$Box") (x' := ⟨"FormulaSetter$Nucleus", "measure", "(III)V"⟩) X hR (m_Bo_measureNu l D ct b RO (r - 1) n x kA aA g (nI c0) (mvF F (ixI (C v2 3)) (ixI (C v2 4)) (((C i) 0) - (yS si)) (-(drO si (C v2 1) (C i 2)))) W0 H0 D0 rows cols nc lc tx len at_ C R CL RL i (hi) ((if ((C i) 0) < ((((C i) 0) - (yS si)) + ((C v2) 0)) then ((((C i) 0) - (yS si)) + ((C v2) 0)) else ((C i) 0)) + ((yS si) / 2)) ((C i) 1) (if ((C i) 2) < ((drO si (C v2 1) (C i 2)) + ((C v2) 2)) then ((drO si (C v2 1) (C i 2)) + ((C v2) 2)) else ((C i) 2))) w655 w691 w692 rfl w654 w693 w3 ⟨by decide, by decide, by show _ = some 3; decide +kernel⟩ (by omega) (by decide) (fh_recv hK hP (mkR_nu (hi)) rfl) hP hS hl.1 rfl (by exact Nat.le_of_ble_eq_true rfl) (fh_d d_Ty_placeScripts 122 rfl) ⟨Nat.le_refl _, Nat.le_refl _⟩ (fun v9 h9 n9 H locs hq hP hS => ?_)
        obtain ⟨rfl, q22a, q22b⟩ := hq
        rw [q22a, q22b] at hP
        refine W.eq (g2 := F0 m 246 ls []) rfl ?_
        have f23 : (sT (sT (sT C i 0 ((if ((C i) 0) < ((((C i) 0) - (yS si)) + ((C v2) 0)) then ((((C i) 0) - (yS si)) + ((C v2) 0)) else ((C i) 0)) + ((yS si) / 2))) i 1 ((C i) 1)) i 2 (if ((C i) 2) < ((drO si (C v2 1) (C i 2)) + ((C v2) 2)) then ((drO si (C v2 1) (C i 2)) + ((C v2) 2)) else ((C i) 2))) i 0 = (if ((C i) 0) < ((((C i) 0) - (yS si)) + ((C v2) 0)) then ((((C i) 0) - (yS si)) + ((C v2) 0)) else ((C i) 0)) + ((yS si) / 2) := (sT_ne (by omega)).trans ((sT_ne (by omega)).trans sT_same)
        have f24 : (sT (sT (sT C i 0 ((if ((C i) 0) < ((((C i) 0) - (yS si)) + ((C v2) 0)) then ((((C i) 0) - (yS si)) + ((C v2) 0)) else ((C i) 0)) + ((yS si) / 2))) i 1 ((C i) 1)) i 2 (if ((C i) 2) < ((drO si (C v2 1) (C i 2)) + ((C v2) 2)) then ((drO si (C v2 1) (C i 2)) + ((C v2) 2)) else ((C i) 2))) i 1 = (C i) 1 := (sT_ne (by omega)).trans sT_same
        have f25 : (sT (sT (sT C i 0 ((if ((C i) 0) < ((((C i) 0) - (yS si)) + ((C v2) 0)) then ((((C i) 0) - (yS si)) + ((C v2) 0)) else ((C i) 0)) + ((yS si) / 2))) i 1 ((C i) 1)) i 2 (if ((C i) 2) < ((drO si (C v2 1) (C i 2)) + ((C v2) 2)) then ((drO si (C v2 1) (C i 2)) + ((C v2) 2)) else ((C i) 2))) i 2 = if ((C i) 2) < ((drO si (C v2 1) (C i 2)) + ((C v2) 2)) then ((drO si (C v2 1) (C i 2)) + ((C v2) 2)) else ((C i) 2) := sT_same
        have y26 : okB (sT (sT (sT C i 0 ((if ((C i) 0) < ((((C i) 0) - (yS si)) + ((C v2) 0)) then ((((C i) 0) - (yS si)) + ((C v2) 0)) else ((C i) 0)) + ((yS si) / 2))) i 1 ((C i) 1)) i 2 (if ((C i) 2) < ((drO si (C v2 1) (C i 2)) + ((C v2) 2)) then ((drO si (C v2 1) (C i 2)) + ((C v2) 2)) else ((C i) 2))) CL := okB_m hokB i ((if ((C i) 0) < ((((C i) 0) - (yS si)) + ((C v2) 0)) then ((((C i) 0) - (yS si)) + ((C v2) 0)) else ((C i) 0)) + ((yS si) / 2)) ((C i) 1) (if ((C i) 2) < ((drO si (C v2 1) (C i 2)) + ((C v2) 2)) then ((drO si (C v2 1) (C i 2)) + ((C v2) 2)) else ((C i) 2))
        refine fh_vret X hP hS (fh_d d_Ty_placeScripts 123 rfl) ⟨rfl, ?_, rfl⟩
        · unfold sScr; dsimp only; rw [h12, h13, h5]; rw [if_pos (show some k0 = some 4 by rw [hAd.1 _ _ hk0 (by decide) (Option.some.inj c14)])]; rfl
  · have hu := hu12 u h12
    rcases o13 with _ | v2
    · have hv2 : True := trivial
      refine lv_aload_n hx hb (fh_d d_Ty_placeScripts 0 rfl) rfl (lv_at hl 1 rfl) ?_
      refine fh_get (own := "FormulaSetter$Typesetter") (ref := "FormulaSetter$Nucleus") (C := "FormulaSetter$Nucleus") (T := T_Nu) (N := 15) (v := .ref (x + 4 + u)) hx hb hT i_Nu hown hK hP (mkR_nu (hi)) rfl 12 (by decide) (hT _ w74) (fun _ h9 => h9) (by show some (va_rf ((R i 12).map (fun z => x + 4 + z))) = _; rw [h12]; rfl) (fh_d d_Ty_placeScripts 1 rfl) ?_
      refine lv_astore (lv' := [(4, .ref (x + 4 + u)), (0, .ref (x + 226)), (1, .ref (x + 4 + i)), (2, .ref (yA si)), (3, .int (nI cr))]) hx hb (fh_d d_Ty_placeScripts 2 rfl) hl (by decide) rfl (fun ls hl => ?_)
      refine lv_aload_n hx hb (fh_d d_Ty_placeScripts 3 rfl) rfl (lv_at hl 2 rfl) ?_
      refine fh_get (own := "FormulaSetter$Typesetter") (ref := "FormulaSetter$Nucleus") (C := "FormulaSetter$Nucleus") (T := T_Nu) (N := 15) (v := .null) hx hb hT i_Nu hown hK hP (mkR_nu (hi)) rfl 13 (by decide) (hT _ w77) (fun _ h9 => h9) (by show some (va_rf ((R i 13).map (fun z => x + 4 + z))) = _; rw [h13]; rfl) (fh_d d_Ty_placeScripts 4 rfl) ?_
      refine lv_astoreN (lv' := [(5, .null), (4, .ref (x + 4 + u)), (0, .ref (x + 226)), (1, .ref (x + 4 + i)), (2, .ref (yA si)), (3, .int (nI cr))]) hx hb (fh_d d_Ty_placeScripts 5 rfl) hl (by decide) rfl (fun ls hl => ?_)
      refine lv_aload_n hx hb (fh_d d_Ty_placeScripts 6 rfl) rfl (lv_at hl 3 rfl) ?_
      refine fh_get (own := "FormulaSetter$Typesetter") (ref := "FormulaSetter$Nucleus") (C := "FormulaSetter$Nucleus") (T := T_Nu) (N := 15) (v := .int ((C i) 0)) hx hb hT i_Nu hown hK hP (mkR_nu (hi)) rfl 0 (by decide) (hT _ w87) (fun x9 h9 => u_same (hT _ w88) x9 h9) (rfl) (fh_d d_Ty_placeScripts 7 rfl) ?_
      refine lv_istore (lv' := [(6, .int ((C i) 0)), (5, .null), (4, .ref (x + 4 + u)), (0, .ref (x + 226)), (1, .ref (x + 4 + i)), (2, .ref (yA si)), (3, .int (nI cr))]) hx hb (fh_d d_Ty_placeScripts 8 rfl) hl (by decide) rfl (fun ls hl => ?_)
      refine lv_aload_n hx hb (fh_d d_Ty_placeScripts 9 rfl) rfl (lv_at hl 4 rfl) ?_
      refine fh_get (own := "FormulaSetter$Typesetter") (ref := "FormulaSetter$Nucleus") (C := "FormulaSetter$Nucleus") (T := T_Nu) (N := 15) (v := .int ((C i) 1)) hx hb hT i_Nu hown hK hP (mkR_nu (hi)) rfl 1 (by decide) (hT _ w94) (fun x9 h9 => u_same (hT _ w95) x9 h9) (rfl) (fh_d d_Ty_placeScripts 10 rfl) ?_
      refine lv_istore (lv' := [(7, .int ((C i) 1)), (6, .int ((C i) 0)), (5, .null), (4, .ref (x + 4 + u)), (0, .ref (x + 226)), (1, .ref (x + 4 + i)), (2, .ref (yA si)), (3, .int (nI cr))]) hx hb (fh_d d_Ty_placeScripts 11 rfl) hl (by decide) rfl (fun ls hl => ?_)
      refine lv_aload_n hx hb (fh_d d_Ty_placeScripts 12 rfl) rfl (lv_at hl 5 rfl) ?_
      refine fh_get (own := "FormulaSetter$Typesetter") (ref := "FormulaSetter$Nucleus") (C := "FormulaSetter$Nucleus") (T := T_Nu) (N := 15) (v := .int ((C i) 2)) hx hb hT i_Nu hown hK hP (mkR_nu (hi)) rfl 2 (by decide) (hT _ w101) (fun x9 h9 => u_same (hT _ w102) x9 h9) (rfl) (fh_d d_Ty_placeScripts 13 rfl) ?_
      refine lv_istore (lv' := [(8, .int ((C i) 2)), (7, .int ((C i) 1)), (6, .int ((C i) 0)), (5, .null), (4, .ref (x + 4 + u)), (0, .ref (x + 226)), (1, .ref (x + 4 + i)), (2, .ref (yA si)), (3, .int (nI cr))]) hx hb (fh_d d_Ty_placeScripts 14 rfl) hl (by decide) rfl (fun ls hl => ?_)
      refine lv_aload hx hb (fh_d d_Ty_placeScripts 15 rfl) (lv_at hl 4 rfl) ?_
      refine lv_ifnonnull (tgt := 39) hx hb (fh_d d_Ty_placeScripts 16 rfl) rfl ?_
      refine lv_aload hx hb (fh_d d_Ty_placeScripts 19 rfl) (lv_at hl 4 rfl) ?_
      refine lv_aload_n hx hb (fh_d d_Ty_placeScripts 20 rfl) rfl (lv_at hl 6 rfl) ?_
      refine lv_aload_n hx hb (fh_d d_Ty_placeScripts 21 rfl) rfl (lv_at hl 7 rfl) ?_
      refine lv_iload_n hx hb (fh_d d_Ty_placeScripts 22 rfl) rfl (lv_at hl 8 rfl) ?_
      refine fh_callS (cc' := c_Ty_raiseOf) (nL' := 5) (rest := []) (av := [.ref (x + 4 + u), .ref (x + 4 + i), .ref (yA si), .int (nI cr)]) X hR (m_Ty_raiseOf l D ct b RO hR sA sV hSt kA aA yA tK tS tM hEn hAd (r - 1) (by omega) i u si cr hi hu hsi hcr n x g c0 hc0 F W0 H0 D0 rows cols nc lc tx len at_ C R CL RL hokB) w819 w817 w818 w6 ⟨by decide, by decide, by show _ = some 4; decide +kernel⟩ (by omega) (by decide) hP hS hl.1 rfl (by exact Nat.le_of_ble_eq_true rfl) (fh_d d_Ty_placeScripts 23 rfl) ⟨Nat.le_refl _, Nat.le_refl _⟩ (fun v9 h9 n9 H locs hq hP hS => ?_)
      obtain ⟨rfl, q28a, q28b⟩ := hq
      rw [q28a, q28b] at hP
      replace hP : fh_P D fh_cl b (mkR x kA aA (mkG ct x g (nI c0) F W0 H0 D0 rows cols) nc lc tx len at_ C R CL RL) n H := hP
      refine W.eq (g2 := F0 m 47 ls [.int (raO si cr (C u 2) (C i 1))]) rfl ?_
      refine lv_istore (lv' := [(9, .int (raO si cr (C u 2) (C i 1))), (8, .int ((C i) 2)), (7, .int ((C i) 1)), (6, .int ((C i) 0)), (5, .null), (4, .ref (x + 4 + u)), (0, .ref (x + 226)), (1, .ref (x + 4 + i)), (2, .ref (yA si)), (3, .int (nI cr))]) hx hb (fh_d d_Ty_placeScripts 24 rfl) hl (by decide) rfl (fun ls hl => ?_)
      refine lv_aload hx hb (fh_d d_Ty_placeScripts 25 rfl) (lv_at hl 5 rfl) ?_
      refine lv_ifnull hx hb (fh_d d_Ty_placeScripts 26 rfl) ?_
      refine lv_aload_n hx hb (fh_d d_Ty_placeScripts 27 rfl) rfl (lv_at hl 6 rfl) ?_
      refine fh_get (own := "FormulaSetter$Typesetter") (ref := "FormulaSetter$Typesetter") (C := "FormulaSetter$Typesetter") (T := T_Ty) (N := 2) (v := .ref (x + 227)) hx hb hT i_Ty hown hK hP ((mkR_g (by omega) (by omega) (by omega)).trans mkG_ts) rfl 0 (by decide) (hT _ w247) (fun _ h9 => h9) rfl (fh_d d_Ty_placeScripts 28 rfl) ?_
      refine lv_aload hx hb (fh_d d_Ty_placeScripts 29 rfl) (lv_at hl 5 rfl) ?_
      refine lv_aload_n hx hb (fh_d d_Ty_placeScripts 30 rfl) rfl (lv_at hl 7 rfl) ?_
      refine fh_get (own := "FormulaSetter$Typesetter") (ref := "FormulaSetter$Nucleus") (C := "FormulaSetter$Nucleus") (T := T_Nu) (N := 15) (v := .int ((C i) 0)) hx hb hT i_Nu hown hK hP (mkR_nu (hi)) rfl 0 (by decide) (hT _ w87) (fun x9 h9 => u_same (hT _ w88) x9 h9) (rfl) (fh_d d_Ty_placeScripts 31 rfl) ?_
      refine lv_iload hx hb (fh_d d_Ty_placeScripts 32 rfl) (lv_at hl 0 rfl) ?_
      refine fh_callV (cc' := c_Sh_move) (nL' := 5) (rest := []) (a := x + 227) (As := [.ref (x + 4 + u), .int ((C i) 0), .int (raO si cr (C u 2) (C i 1))]) X hR (m_Sh_mvNu l D ct b RO (r - 1) (by omega) n x kA aA g (nI c0) F W0 H0 D0 rows cols nc lc tx len at_ C R CL RL u (hu) (hokB.1 u (hu)).1 (hokB.1 u (hu)).2 ((C i) 0) (raO si cr (C u 2) (C i 1))) w723 w720 w721 w722 w7 ⟨by decide, by decide, by show _ = some 3; decide +kernel⟩ (by omega) (by decide) (fh_recv hK hP ((mkR_g (by omega) (by omega) (by omega)).trans mkG_sh) rfl) hP hS hl.1 rfl (by exact Nat.le_of_ble_eq_true rfl) (fh_d d_Ty_placeScripts 33 rfl) ⟨Nat.le_refl _, Nat.le_refl _⟩ (fun v9 h9 n9 H locs hq hP hS => ?_)
      obtain ⟨rfl, q30a, q30b⟩ := hq
      rw [q30a, q30b] at hP
      refine W.eq (g2 := F0 m 69 ls []) rfl ?_
      refine lv_iload hx hb (fh_d d_Ty_placeScripts 34 rfl) (lv_at hl 3 rfl) ?_
      refine lv_aload_n hx hb (fh_d d_Ty_placeScripts 35 rfl) rfl (lv_at hl 7 rfl) ?_
      refine fh_get (own := "FormulaSetter$Typesetter") (ref := "FormulaSetter$Nucleus") (C := "FormulaSetter$Nucleus") (T := T_Nu) (N := 15) (v := .int ((C i) 0)) hx hb hT i_Nu hown hK hP (mkR_nu (hi)) rfl 0 (by decide) (hT _ w87) (fun x9 h9 => u_same (hT _ w88) x9 h9) (rfl) (fh_d d_Ty_placeScripts 36 rfl) ?_
      refine lv_aload hx hb (fh_d d_Ty_placeScripts 37 rfl) (lv_at hl 5 rfl) ?_
      refine fh_get (own := "FormulaSetter$Typesetter") (ref := "FormulaSetter$Nucleus") (C := "FormulaSetter$Nucleus") (T := T_Nu) (N := 15) (v := .int ((C u) 0)) hx hb hT i_Nu hown hK hP (mkR_nu (hu)) rfl 0 (by decide) (hT _ w87) (fun x9 h9 => u_same (hT _ w88) x9 h9) (rfl) (fh_d d_Ty_placeScripts 38 rfl) ?_
      refine lv_iadd hx hb (fh_d d_Ty_placeScripts 39 rfl) ?_
      refine va_mmax hx hb (hml.trans hl.1.symm) hown (hT _ w704) (hT _ w431) (hT _ w14) (hT _ w432) (by show 1 ≤ r; omega) (by show _ ≤ 60 * r; simp [Value.category]; omega) (Nat.le_refl _) (Nat.le_refl _) (fh_d d_Ty_placeScripts 40 rfl) ?_
      refine lv_istore (lv' := [(6, .int (if ((C i) 0) < (((C i) 0) + ((C u) 0)) then (((C i) 0) + ((C u) 0)) else ((C i) 0))), (9, .int (raO si cr (C u 2) (C i 1))), (8, .int ((C i) 2)), (7, .int ((C i) 1)), (5, .null), (4, .ref (x + 4 + u)), (0, .ref (x + 226)), (1, .ref (x + 4 + i)), (2, .ref (yA si)), (3, .int (nI cr))]) hx hb (fh_d d_Ty_placeScripts 41 rfl) hl (by decide) rfl (fun ls hl => ?_)
      refine lv_iload hx hb (fh_d d_Ty_placeScripts 42 rfl) (lv_at hl 3 rfl) ?_
      refine lv_iload hx hb (fh_d d_Ty_placeScripts 43 rfl) (lv_at hl 1 rfl) ?_
      refine lv_aload hx hb (fh_d d_Ty_placeScripts 44 rfl) (lv_at hl 5 rfl) ?_
      refine fh_get (own := "FormulaSetter$Typesetter") (ref := "FormulaSetter$Nucleus") (C := "FormulaSetter$Nucleus") (T := T_Nu) (N := 15) (v := .int ((C u) 1)) hx hb hT i_Nu hown hK hP (mkR_nu (hu)) rfl 1 (by decide) (hT _ w94) (fun x9 h9 => u_same (hT _ w95) x9 h9) (rfl) (fh_d d_Ty_placeScripts 45 rfl) ?_
      refine lv_iadd hx hb (fh_d d_Ty_placeScripts 46 rfl) ?_
      refine va_mmax hx hb (hml.trans hl.1.symm) hown (hT _ w704) (hT _ w431) (hT _ w14) (hT _ w432) (by show 1 ≤ r; omega) (by show _ ≤ 60 * r; simp [Value.category]; omega) (Nat.le_refl _) (Nat.le_refl _) (fh_d d_Ty_placeScripts 47 rfl) ?_
      refine lv_istore (lv' := [(7, .int (if ((C i) 1) < ((raO si cr (C u 2) (C i 1)) + ((C u) 1)) then ((raO si cr (C u 2) (C i 1)) + ((C u) 1)) else ((C i) 1))), (6, .int (if ((C i) 0) < (((C i) 0) + ((C u) 0)) then (((C i) 0) + ((C u) 0)) else ((C i) 0))), (9, .int (raO si cr (C u 2) (C i 1))), (8, .int ((C i) 2)), (5, .null), (4, .ref (x + 4 + u)), (0, .ref (x + 226)), (1, .ref (x + 4 + i)), (2, .ref (yA si)), (3, .int (nI cr))]) hx hb (fh_d d_Ty_placeScripts 48 rfl) hl (by decide) rfl (fun ls hl => ?_)
      refine lv_aloadN hx hb (fh_d d_Ty_placeScripts 49 rfl) (lv_at hl 4 rfl) ?_
      refine lv_ifnullN (tgt := 229) hx hb (fh_d d_Ty_placeScripts 50 rfl) rfl ?_
      refine lv_aload_n hx hb (fh_d d_Ty_placeScripts 113 rfl) rfl (lv_at hl 7 rfl) ?_
      refine lv_iload hx hb (fh_d d_Ty_placeScripts 114 rfl) (lv_at hl 1 rfl) ?_
      refine lv_aload_n hx hb (fh_d d_Ty_placeScripts 115 rfl) rfl (lv_at hl 8 rfl) ?_
      refine vk_getf (own := "FormulaSetter$Typesetter") (ref := "FormulaSetter$Style") hx hb (((hEn _ hRO).2.2.1 si hsi).2.2.2.1) hS hown (hT _ w1249) (fun _ h9 => h9) (fh_d d_Ty_placeScripts 116 rfl) ?_
      refine lv_iconst (v := 2) hx hb (fh_d d_Ty_placeScripts 117 rfl) (by decide) ?_
      refine lv_idiv hx hb (fh_d d_Ty_placeScripts 118 rfl) (by decide) ?_
      refine lv_iadd hx hb (fh_d d_Ty_placeScripts 119 rfl) ?_
      refine lv_iload hx hb (fh_d d_Ty_placeScripts 120 rfl) (lv_at hl 0 rfl) ?_
      refine lv_iload hx hb (fh_d d_Ty_placeScripts 121 rfl) (lv_at hl 3 rfl) ?_
      refine fh_callU (cc' := c_Bo_measure) (nL' := 4) (rest := []) (a := x + 4 + i) (As := [.int ((if ((C i) 0) < (((C i) 0) + ((C u) 0)) then (((C i) 0) + ((C u) 0)) else ((C i) 0)) + ((yS si) / 2)), .int (if ((C i) 1) < ((raO si cr (C u 2) (C i 1)) + ((C u) 1)) then ((raO si cr (C u 2) (C i 1)) + ((C u) 1)) else ((C i) 1)), .int ((C i) 2)]) (Ck := "FormulaSetter$Nucleus") (owner := "FormulaSetter$Box") (x' := ⟨"FormulaSetter$Nucleus", "measure", "(III)V"⟩) X hR (m_Bo_measureNu l D ct b RO (r - 1) n x kA aA g (nI c0) (mvF F (ixI (C u 3)) (ixI (C u 4)) ((C i) 0) (raO si cr (C u 2) (C i 1))) W0 H0 D0 rows cols nc lc tx len at_ C R CL RL i (hi) ((if ((C i) 0) < (((C i) 0) + ((C u) 0)) then (((C i) 0) + ((C u) 0)) else ((C i) 0)) + ((yS si) / 2)) (if ((C i) 1) < ((raO si cr (C u 2) (C i 1)) + ((C u) 1)) then ((raO si cr (C u 2) (C i 1)) + ((C u) 1)) else ((C i) 1)) ((C i) 2)) w655 w691 w692 rfl w654 w693 w3 ⟨by decide, by decide, by show _ = some 3; decide +kernel⟩ (by omega) (by decide) (fh_recv hK hP (mkR_nu (hi)) rfl) hP hS hl.1 rfl (by exact Nat.le_of_ble_eq_true rfl) (fh_d d_Ty_placeScripts 122 rfl) ⟨Nat.le_refl _, Nat.le_refl _⟩ (fun v9 h9 n9 H locs hq hP hS => ?_)
      obtain ⟨rfl, q32a, q32b⟩ := hq
      rw [q32a, q32b] at hP
      refine W.eq (g2 := F0 m 246 ls []) rfl ?_
      have f33 : (sT (sT (sT C i 0 ((if ((C i) 0) < (((C i) 0) + ((C u) 0)) then (((C i) 0) + ((C u) 0)) else ((C i) 0)) + ((yS si) / 2))) i 1 (if ((C i) 1) < ((raO si cr (C u 2) (C i 1)) + ((C u) 1)) then ((raO si cr (C u 2) (C i 1)) + ((C u) 1)) else ((C i) 1))) i 2 ((C i) 2)) i 0 = (if ((C i) 0) < (((C i) 0) + ((C u) 0)) then (((C i) 0) + ((C u) 0)) else ((C i) 0)) + ((yS si) / 2) := (sT_ne (by omega)).trans ((sT_ne (by omega)).trans sT_same)
      have f34 : (sT (sT (sT C i 0 ((if ((C i) 0) < (((C i) 0) + ((C u) 0)) then (((C i) 0) + ((C u) 0)) else ((C i) 0)) + ((yS si) / 2))) i 1 (if ((C i) 1) < ((raO si cr (C u 2) (C i 1)) + ((C u) 1)) then ((raO si cr (C u 2) (C i 1)) + ((C u) 1)) else ((C i) 1))) i 2 ((C i) 2)) i 1 = if ((C i) 1) < ((raO si cr (C u 2) (C i 1)) + ((C u) 1)) then ((raO si cr (C u 2) (C i 1)) + ((C u) 1)) else ((C i) 1) := (sT_ne (by omega)).trans sT_same
      have f35 : (sT (sT (sT C i 0 ((if ((C i) 0) < (((C i) 0) + ((C u) 0)) then (((C i) 0) + ((C u) 0)) else ((C i) 0)) + ((yS si) / 2))) i 1 (if ((C i) 1) < ((raO si cr (C u 2) (C i 1)) + ((C u) 1)) then ((raO si cr (C u 2) (C i 1)) + ((C u) 1)) else ((C i) 1))) i 2 ((C i) 2)) i 2 = (C i) 2 := sT_same
      have y36 : okB (sT (sT (sT C i 0 ((if ((C i) 0) < (((C i) 0) + ((C u) 0)) then (((C i) 0) + ((C u) 0)) else ((C i) 0)) + ((yS si) / 2))) i 1 (if ((C i) 1) < ((raO si cr (C u 2) (C i 1)) + ((C u) 1)) then ((raO si cr (C u 2) (C i 1)) + ((C u) 1)) else ((C i) 1))) i 2 ((C i) 2)) CL := okB_m hokB i ((if ((C i) 0) < (((C i) 0) + ((C u) 0)) then (((C i) 0) + ((C u) 0)) else ((C i) 0)) + ((yS si) / 2)) (if ((C i) 1) < ((raO si cr (C u 2) (C i 1)) + ((C u) 1)) then ((raO si cr (C u 2) (C i 1)) + ((C u) 1)) else ((C i) 1)) ((C i) 2)
      refine fh_vret X hP hS (fh_d d_Ty_placeScripts 123 rfl) ⟨rfl, ?_, rfl⟩
      · unfold sScr; dsimp only; rw [h12, h13, h5]; rfl
    · have hv2 := hu13 v2 h13
      refine lv_aload_n hx hb (fh_d d_Ty_placeScripts 0 rfl) rfl (lv_at hl 1 rfl) ?_
      refine fh_get (own := "FormulaSetter$Typesetter") (ref := "FormulaSetter$Nucleus") (C := "FormulaSetter$Nucleus") (T := T_Nu) (N := 15) (v := .ref (x + 4 + u)) hx hb hT i_Nu hown hK hP (mkR_nu (hi)) rfl 12 (by decide) (hT _ w74) (fun _ h9 => h9) (by show some (va_rf ((R i 12).map (fun z => x + 4 + z))) = _; rw [h12]; rfl) (fh_d d_Ty_placeScripts 1 rfl) ?_
      refine lv_astore (lv' := [(4, .ref (x + 4 + u)), (0, .ref (x + 226)), (1, .ref (x + 4 + i)), (2, .ref (yA si)), (3, .int (nI cr))]) hx hb (fh_d d_Ty_placeScripts 2 rfl) hl (by decide) rfl (fun ls hl => ?_)
      refine lv_aload_n hx hb (fh_d d_Ty_placeScripts 3 rfl) rfl (lv_at hl 2 rfl) ?_
      refine fh_get (own := "FormulaSetter$Typesetter") (ref := "FormulaSetter$Nucleus") (C := "FormulaSetter$Nucleus") (T := T_Nu) (N := 15) (v := .ref (x + 4 + v2)) hx hb hT i_Nu hown hK hP (mkR_nu (hi)) rfl 13 (by decide) (hT _ w77) (fun _ h9 => h9) (by show some (va_rf ((R i 13).map (fun z => x + 4 + z))) = _; rw [h13]; rfl) (fh_d d_Ty_placeScripts 4 rfl) ?_
      refine lv_astore (lv' := [(5, .ref (x + 4 + v2)), (4, .ref (x + 4 + u)), (0, .ref (x + 226)), (1, .ref (x + 4 + i)), (2, .ref (yA si)), (3, .int (nI cr))]) hx hb (fh_d d_Ty_placeScripts 5 rfl) hl (by decide) rfl (fun ls hl => ?_)
      refine lv_aload_n hx hb (fh_d d_Ty_placeScripts 6 rfl) rfl (lv_at hl 3 rfl) ?_
      refine fh_get (own := "FormulaSetter$Typesetter") (ref := "FormulaSetter$Nucleus") (C := "FormulaSetter$Nucleus") (T := T_Nu) (N := 15) (v := .int ((C i) 0)) hx hb hT i_Nu hown hK hP (mkR_nu (hi)) rfl 0 (by decide) (hT _ w87) (fun x9 h9 => u_same (hT _ w88) x9 h9) (rfl) (fh_d d_Ty_placeScripts 7 rfl) ?_
      refine lv_istore (lv' := [(6, .int ((C i) 0)), (5, .ref (x + 4 + v2)), (4, .ref (x + 4 + u)), (0, .ref (x + 226)), (1, .ref (x + 4 + i)), (2, .ref (yA si)), (3, .int (nI cr))]) hx hb (fh_d d_Ty_placeScripts 8 rfl) hl (by decide) rfl (fun ls hl => ?_)
      refine lv_aload_n hx hb (fh_d d_Ty_placeScripts 9 rfl) rfl (lv_at hl 4 rfl) ?_
      refine fh_get (own := "FormulaSetter$Typesetter") (ref := "FormulaSetter$Nucleus") (C := "FormulaSetter$Nucleus") (T := T_Nu) (N := 15) (v := .int ((C i) 1)) hx hb hT i_Nu hown hK hP (mkR_nu (hi)) rfl 1 (by decide) (hT _ w94) (fun x9 h9 => u_same (hT _ w95) x9 h9) (rfl) (fh_d d_Ty_placeScripts 10 rfl) ?_
      refine lv_istore (lv' := [(7, .int ((C i) 1)), (6, .int ((C i) 0)), (5, .ref (x + 4 + v2)), (4, .ref (x + 4 + u)), (0, .ref (x + 226)), (1, .ref (x + 4 + i)), (2, .ref (yA si)), (3, .int (nI cr))]) hx hb (fh_d d_Ty_placeScripts 11 rfl) hl (by decide) rfl (fun ls hl => ?_)
      refine lv_aload_n hx hb (fh_d d_Ty_placeScripts 12 rfl) rfl (lv_at hl 5 rfl) ?_
      refine fh_get (own := "FormulaSetter$Typesetter") (ref := "FormulaSetter$Nucleus") (C := "FormulaSetter$Nucleus") (T := T_Nu) (N := 15) (v := .int ((C i) 2)) hx hb hT i_Nu hown hK hP (mkR_nu (hi)) rfl 2 (by decide) (hT _ w101) (fun x9 h9 => u_same (hT _ w102) x9 h9) (rfl) (fh_d d_Ty_placeScripts 13 rfl) ?_
      refine lv_istore (lv' := [(8, .int ((C i) 2)), (7, .int ((C i) 1)), (6, .int ((C i) 0)), (5, .ref (x + 4 + v2)), (4, .ref (x + 4 + u)), (0, .ref (x + 226)), (1, .ref (x + 4 + i)), (2, .ref (yA si)), (3, .int (nI cr))]) hx hb (fh_d d_Ty_placeScripts 14 rfl) hl (by decide) rfl (fun ls hl => ?_)
      refine lv_aload hx hb (fh_d d_Ty_placeScripts 15 rfl) (lv_at hl 4 rfl) ?_
      refine lv_ifnonnull (tgt := 39) hx hb (fh_d d_Ty_placeScripts 16 rfl) rfl ?_
      refine lv_aload hx hb (fh_d d_Ty_placeScripts 19 rfl) (lv_at hl 4 rfl) ?_
      refine lv_aload_n hx hb (fh_d d_Ty_placeScripts 20 rfl) rfl (lv_at hl 6 rfl) ?_
      refine lv_aload_n hx hb (fh_d d_Ty_placeScripts 21 rfl) rfl (lv_at hl 7 rfl) ?_
      refine lv_iload_n hx hb (fh_d d_Ty_placeScripts 22 rfl) rfl (lv_at hl 8 rfl) ?_
      refine fh_callS (cc' := c_Ty_raiseOf) (nL' := 5) (rest := []) (av := [.ref (x + 4 + u), .ref (x + 4 + i), .ref (yA si), .int (nI cr)]) X hR (m_Ty_raiseOf l D ct b RO hR sA sV hSt kA aA yA tK tS tM hEn hAd (r - 1) (by omega) i u si cr hi hu hsi hcr n x g c0 hc0 F W0 H0 D0 rows cols nc lc tx len at_ C R CL RL hokB) w819 w817 w818 w6 ⟨by decide, by decide, by show _ = some 4; decide +kernel⟩ (by omega) (by decide) hP hS hl.1 rfl (by exact Nat.le_of_ble_eq_true rfl) (fh_d d_Ty_placeScripts 23 rfl) ⟨Nat.le_refl _, Nat.le_refl _⟩ (fun v9 h9 n9 H locs hq hP hS => ?_)
      obtain ⟨rfl, q38a, q38b⟩ := hq
      rw [q38a, q38b] at hP
      replace hP : fh_P D fh_cl b (mkR x kA aA (mkG ct x g (nI c0) F W0 H0 D0 rows cols) nc lc tx len at_ C R CL RL) n H := hP
      refine W.eq (g2 := F0 m 47 ls [.int (raO si cr (C u 2) (C i 1))]) rfl ?_
      refine lv_istore (lv' := [(9, .int (raO si cr (C u 2) (C i 1))), (8, .int ((C i) 2)), (7, .int ((C i) 1)), (6, .int ((C i) 0)), (5, .ref (x + 4 + v2)), (4, .ref (x + 4 + u)), (0, .ref (x + 226)), (1, .ref (x + 4 + i)), (2, .ref (yA si)), (3, .int (nI cr))]) hx hb (fh_d d_Ty_placeScripts 24 rfl) hl (by decide) rfl (fun ls hl => ?_)
      refine lv_aload hx hb (fh_d d_Ty_placeScripts 25 rfl) (lv_at hl 5 rfl) ?_
      refine lv_ifnull hx hb (fh_d d_Ty_placeScripts 26 rfl) ?_
      refine lv_aload_n hx hb (fh_d d_Ty_placeScripts 27 rfl) rfl (lv_at hl 6 rfl) ?_
      refine fh_get (own := "FormulaSetter$Typesetter") (ref := "FormulaSetter$Typesetter") (C := "FormulaSetter$Typesetter") (T := T_Ty) (N := 2) (v := .ref (x + 227)) hx hb hT i_Ty hown hK hP ((mkR_g (by omega) (by omega) (by omega)).trans mkG_ts) rfl 0 (by decide) (hT _ w247) (fun _ h9 => h9) rfl (fh_d d_Ty_placeScripts 28 rfl) ?_
      refine lv_aload hx hb (fh_d d_Ty_placeScripts 29 rfl) (lv_at hl 5 rfl) ?_
      refine lv_aload_n hx hb (fh_d d_Ty_placeScripts 30 rfl) rfl (lv_at hl 7 rfl) ?_
      refine fh_get (own := "FormulaSetter$Typesetter") (ref := "FormulaSetter$Nucleus") (C := "FormulaSetter$Nucleus") (T := T_Nu) (N := 15) (v := .int ((C i) 0)) hx hb hT i_Nu hown hK hP (mkR_nu (hi)) rfl 0 (by decide) (hT _ w87) (fun x9 h9 => u_same (hT _ w88) x9 h9) (rfl) (fh_d d_Ty_placeScripts 31 rfl) ?_
      refine lv_iload hx hb (fh_d d_Ty_placeScripts 32 rfl) (lv_at hl 0 rfl) ?_
      refine fh_callV (cc' := c_Sh_move) (nL' := 5) (rest := []) (a := x + 227) (As := [.ref (x + 4 + u), .int ((C i) 0), .int (raO si cr (C u 2) (C i 1))]) X hR (m_Sh_mvNu l D ct b RO (r - 1) (by omega) n x kA aA g (nI c0) F W0 H0 D0 rows cols nc lc tx len at_ C R CL RL u (hu) (hokB.1 u (hu)).1 (hokB.1 u (hu)).2 ((C i) 0) (raO si cr (C u 2) (C i 1))) w723 w720 w721 w722 w7 ⟨by decide, by decide, by show _ = some 3; decide +kernel⟩ (by omega) (by decide) (fh_recv hK hP ((mkR_g (by omega) (by omega) (by omega)).trans mkG_sh) rfl) hP hS hl.1 rfl (by exact Nat.le_of_ble_eq_true rfl) (fh_d d_Ty_placeScripts 33 rfl) ⟨Nat.le_refl _, Nat.le_refl _⟩ (fun v9 h9 n9 H locs hq hP hS => ?_)
      obtain ⟨rfl, q40a, q40b⟩ := hq
      rw [q40a, q40b] at hP
      refine W.eq (g2 := F0 m 69 ls []) rfl ?_
      refine lv_iload hx hb (fh_d d_Ty_placeScripts 34 rfl) (lv_at hl 3 rfl) ?_
      refine lv_aload_n hx hb (fh_d d_Ty_placeScripts 35 rfl) rfl (lv_at hl 7 rfl) ?_
      refine fh_get (own := "FormulaSetter$Typesetter") (ref := "FormulaSetter$Nucleus") (C := "FormulaSetter$Nucleus") (T := T_Nu) (N := 15) (v := .int ((C i) 0)) hx hb hT i_Nu hown hK hP (mkR_nu (hi)) rfl 0 (by decide) (hT _ w87) (fun x9 h9 => u_same (hT _ w88) x9 h9) (rfl) (fh_d d_Ty_placeScripts 36 rfl) ?_
      refine lv_aload hx hb (fh_d d_Ty_placeScripts 37 rfl) (lv_at hl 5 rfl) ?_
      refine fh_get (own := "FormulaSetter$Typesetter") (ref := "FormulaSetter$Nucleus") (C := "FormulaSetter$Nucleus") (T := T_Nu) (N := 15) (v := .int ((C u) 0)) hx hb hT i_Nu hown hK hP (mkR_nu (hu)) rfl 0 (by decide) (hT _ w87) (fun x9 h9 => u_same (hT _ w88) x9 h9) (rfl) (fh_d d_Ty_placeScripts 38 rfl) ?_
      refine lv_iadd hx hb (fh_d d_Ty_placeScripts 39 rfl) ?_
      refine va_mmax hx hb (hml.trans hl.1.symm) hown (hT _ w704) (hT _ w431) (hT _ w14) (hT _ w432) (by show 1 ≤ r; omega) (by show _ ≤ 60 * r; simp [Value.category]; omega) (Nat.le_refl _) (Nat.le_refl _) (fh_d d_Ty_placeScripts 40 rfl) ?_
      refine lv_istore (lv' := [(6, .int (if ((C i) 0) < (((C i) 0) + ((C u) 0)) then (((C i) 0) + ((C u) 0)) else ((C i) 0))), (9, .int (raO si cr (C u 2) (C i 1))), (8, .int ((C i) 2)), (7, .int ((C i) 1)), (5, .ref (x + 4 + v2)), (4, .ref (x + 4 + u)), (0, .ref (x + 226)), (1, .ref (x + 4 + i)), (2, .ref (yA si)), (3, .int (nI cr))]) hx hb (fh_d d_Ty_placeScripts 41 rfl) hl (by decide) rfl (fun ls hl => ?_)
      refine lv_iload hx hb (fh_d d_Ty_placeScripts 42 rfl) (lv_at hl 3 rfl) ?_
      refine lv_iload hx hb (fh_d d_Ty_placeScripts 43 rfl) (lv_at hl 1 rfl) ?_
      refine lv_aload hx hb (fh_d d_Ty_placeScripts 44 rfl) (lv_at hl 5 rfl) ?_
      refine fh_get (own := "FormulaSetter$Typesetter") (ref := "FormulaSetter$Nucleus") (C := "FormulaSetter$Nucleus") (T := T_Nu) (N := 15) (v := .int ((C u) 1)) hx hb hT i_Nu hown hK hP (mkR_nu (hu)) rfl 1 (by decide) (hT _ w94) (fun x9 h9 => u_same (hT _ w95) x9 h9) (rfl) (fh_d d_Ty_placeScripts 45 rfl) ?_
      refine lv_iadd hx hb (fh_d d_Ty_placeScripts 46 rfl) ?_
      refine va_mmax hx hb (hml.trans hl.1.symm) hown (hT _ w704) (hT _ w431) (hT _ w14) (hT _ w432) (by show 1 ≤ r; omega) (by show _ ≤ 60 * r; simp [Value.category]; omega) (Nat.le_refl _) (Nat.le_refl _) (fh_d d_Ty_placeScripts 47 rfl) ?_
      refine lv_istore (lv' := [(7, .int (if ((C i) 1) < ((raO si cr (C u 2) (C i 1)) + ((C u) 1)) then ((raO si cr (C u 2) (C i 1)) + ((C u) 1)) else ((C i) 1))), (6, .int (if ((C i) 0) < (((C i) 0) + ((C u) 0)) then (((C i) 0) + ((C u) 0)) else ((C i) 0))), (9, .int (raO si cr (C u 2) (C i 1))), (8, .int ((C i) 2)), (5, .ref (x + 4 + v2)), (4, .ref (x + 4 + u)), (0, .ref (x + 226)), (1, .ref (x + 4 + i)), (2, .ref (yA si)), (3, .int (nI cr))]) hx hb (fh_d d_Ty_placeScripts 48 rfl) hl (by decide) rfl (fun ls hl => ?_)
      refine lv_aload hx hb (fh_d d_Ty_placeScripts 49 rfl) (lv_at hl 4 rfl) ?_
      refine lv_ifnull hx hb (fh_d d_Ty_placeScripts 50 rfl) ?_
      refine lv_aload hx hb (fh_d d_Ty_placeScripts 51 rfl) (lv_at hl 4 rfl) ?_
      refine lv_aload_n hx hb (fh_d d_Ty_placeScripts 52 rfl) rfl (lv_at hl 7 rfl) ?_
      refine lv_aload_n hx hb (fh_d d_Ty_placeScripts 53 rfl) rfl (lv_at hl 8 rfl) ?_
      refine fh_callS (cc' := c_Ty_dropOf) (nL' := 4) (rest := []) (av := [.ref (x + 4 + v2), .ref (x + 4 + i), .ref (yA si)]) X hR (m_Ty_dropOf l D ct b RO hR sA sV hSt kA aA yA tK tS tM hEn hAd (r - 1) (by omega) i v2 si 0 hi hv2 hsi (by omega) n x g c0 hc0 (mvF F (ixI (C u 3)) (ixI (C u 4)) ((C i) 0) (raO si cr (C u 2) (C i 1))) W0 H0 D0 rows cols nc lc tx len at_ C R CL RL hokB) w822 w820 w821 w6 ⟨by decide, by decide, by show _ = some 3; decide +kernel⟩ (by omega) (by decide) hP hS hl.1 rfl (by exact Nat.le_of_ble_eq_true rfl) (fh_d d_Ty_placeScripts 54 rfl) ⟨Nat.le_refl _, Nat.le_refl _⟩ (fun v9 h9 n9 H locs hq hP hS => ?_)
      obtain ⟨rfl, q42a, q42b⟩ := hq
      rw [q42a, q42b] at hP
      replace hP : fh_P D fh_cl b (mkR x kA aA (mkG ct x g (nI c0) (mvF F (ixI (C u 3)) (ixI (C u 4)) ((C i) 0) (raO si cr (C u 2) (C i 1))) W0 H0 D0 rows cols) nc lc tx len at_ C R CL RL) n H := hP
      refine W.eq (g2 := F0 m 113 ls [.int (drO si (C v2 1) (C i 2))]) rfl ?_
      refine lv_istore (lv' := [(10, .int (drO si (C v2 1) (C i 2))), (7, .int (if ((C i) 1) < ((raO si cr (C u 2) (C i 1)) + ((C u) 1)) then ((raO si cr (C u 2) (C i 1)) + ((C u) 1)) else ((C i) 1))), (6, .int (if ((C i) 0) < (((C i) 0) + ((C u) 0)) then (((C i) 0) + ((C u) 0)) else ((C i) 0))), (9, .int (raO si cr (C u 2) (C i 1))), (8, .int ((C i) 2)), (5, .ref (x + 4 + v2)), (4, .ref (x + 4 + u)), (0, .ref (x + 226)), (1, .ref (x + 4 + i)), (2, .ref (yA si)), (3, .int (nI cr))]) hx hb (fh_d d_Ty_placeScripts 55 rfl) hl (by decide) rfl (fun ls hl => ?_)
      refine lv_aload hx hb (fh_d d_Ty_placeScripts 56 rfl) (lv_at hl 6 rfl) ?_
      refine lv_ifnull hx hb (fh_d d_Ty_placeScripts 57 rfl) ?_
      refine lv_iload hx hb (fh_d d_Ty_placeScripts 58 rfl) (lv_at hl 3 rfl) ?_
      refine lv_aload hx hb (fh_d d_Ty_placeScripts 59 rfl) (lv_at hl 6 rfl) ?_
      refine fh_get (own := "FormulaSetter$Typesetter") (ref := "FormulaSetter$Nucleus") (C := "FormulaSetter$Nucleus") (T := T_Nu) (N := 15) (v := .int ((C u) 2)) hx hb hT i_Nu hown hK hP (mkR_nu (hu)) rfl 2 (by decide) (hT _ w101) (fun x9 h9 => u_same (hT _ w102) x9 h9) (rfl) (fh_d d_Ty_placeScripts 60 rfl) ?_
      refine lv_isub hx hb (fh_d d_Ty_placeScripts 61 rfl) ?_
      refine lv_aload hx hb (fh_d d_Ty_placeScripts 62 rfl) (lv_at hl 5 rfl) ?_
      refine fh_get (own := "FormulaSetter$Typesetter") (ref := "FormulaSetter$Nucleus") (C := "FormulaSetter$Nucleus") (T := T_Nu) (N := 15) (v := .int ((C v2) 1)) hx hb hT i_Nu hown hK hP (mkR_nu (hv2)) rfl 1 (by decide) (hT _ w94) (fun x9 h9 => u_same (hT _ w95) x9 h9) (rfl) (fh_d d_Ty_placeScripts 63 rfl) ?_
      refine lv_iload hx hb (fh_d d_Ty_placeScripts 64 rfl) (lv_at hl 0 rfl) ?_
      refine lv_isub hx hb (fh_d d_Ty_placeScripts 65 rfl) ?_
      refine lv_isub hx hb (fh_d d_Ty_placeScripts 66 rfl) ?_
      refine lv_istore (lv' := [(11, .int (((raO si cr (C u 2) (C i 1)) - ((C u) 2)) - (((C v2) 1) - (drO si (C v2 1) (C i 2))))), (10, .int (drO si (C v2 1) (C i 2))), (7, .int (if ((C i) 1) < ((raO si cr (C u 2) (C i 1)) + ((C u) 1)) then ((raO si cr (C u 2) (C i 1)) + ((C u) 1)) else ((C i) 1))), (6, .int (if ((C i) 0) < (((C i) 0) + ((C u) 0)) then (((C i) 0) + ((C u) 0)) else ((C i) 0))), (9, .int (raO si cr (C u 2) (C i 1))), (8, .int ((C i) 2)), (5, .ref (x + 4 + v2)), (4, .ref (x + 4 + u)), (0, .ref (x + 226)), (1, .ref (x + 4 + i)), (2, .ref (yA si)), (3, .int (nI cr))]) hx hb (fh_d d_Ty_placeScripts 67 rfl) hl (by decide) rfl (fun ls hl => ?_)
      refine lv_iload hx hb (fh_d d_Ty_placeScripts 68 rfl) (lv_at hl 1 rfl) ?_
      refine lv_iconst (v := 0) hx hb (fh_d d_Ty_placeScripts 69 rfl) (by decide) ?_
      refine lv_iconst (v := 4) hx hb (fh_d d_Ty_placeScripts 70 rfl) (by decide) ?_
      refine lv_aload_n hx hb (fh_d d_Ty_placeScripts 71 rfl) rfl (lv_at hl 10 rfl) ?_
      refine vk_getf (own := "FormulaSetter$Typesetter") (ref := "FormulaSetter$Style") hx hb (((hEn _ hRO).2.2.1 si hsi).2.2.2.2.1) hS hown (hT _ w1251) (fun _ h9 => h9) (fh_d d_Ty_placeScripts 72 rfl) ?_
      refine lv_imul hx hb (fh_d d_Ty_placeScripts 73 rfl) ?_
      refine lv_iload hx hb (fh_d d_Ty_placeScripts 74 rfl) (lv_at hl 0 rfl) ?_
      refine lv_isub hx hb (fh_d d_Ty_placeScripts 75 rfl) ?_
      refine va_mmax hx hb (hml.trans hl.1.symm) hown (hT _ w704) (hT _ w431) (hT _ w14) (hT _ w432) (by show 1 ≤ r; omega) (by show _ ≤ 60 * r; simp [Value.category]; omega) (Nat.le_refl _) (Nat.le_refl _) (fh_d d_Ty_placeScripts 76 rfl) ?_
      refine lv_iadd hx hb (fh_d d_Ty_placeScripts 77 rfl) ?_
      refine lv_istore (lv' := [(10, .int ((drO si (C v2 1) (C i 2)) + (if (0 : Int32) < ((4 * (yT si)) - (((raO si cr (C u 2) (C i 1)) - ((C u) 2)) - (((C v2) 1) - (drO si (C v2 1) (C i 2))))) then ((4 * (yT si)) - (((raO si cr (C u 2) (C i 1)) - ((C u) 2)) - (((C v2) 1) - (drO si (C v2 1) (C i 2))))) else (0 : Int32)))), (11, .int (((raO si cr (C u 2) (C i 1)) - ((C u) 2)) - (((C v2) 1) - (drO si (C v2 1) (C i 2))))), (7, .int (if ((C i) 1) < ((raO si cr (C u 2) (C i 1)) + ((C u) 1)) then ((raO si cr (C u 2) (C i 1)) + ((C u) 1)) else ((C i) 1))), (6, .int (if ((C i) 0) < (((C i) 0) + ((C u) 0)) then (((C i) 0) + ((C u) 0)) else ((C i) 0))), (9, .int (raO si cr (C u 2) (C i 1))), (8, .int ((C i) 2)), (5, .ref (x + 4 + v2)), (4, .ref (x + 4 + u)), (0, .ref (x + 226)), (1, .ref (x + 4 + i)), (2, .ref (yA si)), (3, .int (nI cr))]) hx hb (fh_d d_Ty_placeScripts 78 rfl) hl (by decide) rfl (fun ls hl => ?_)
      refine lv_aload_n hx hb (fh_d d_Ty_placeScripts 79 rfl) rfl (lv_at hl 9 rfl) ?_
      refine fh_get (own := "FormulaSetter$Typesetter") (ref := "FormulaSetter$Nucleus") (C := "FormulaSetter$Nucleus") (T := T_Nu) (N := 15) (v := .ref (kA k0)) hx hb hT i_Nu hown hK hP (mkR_nu (hi)) rfl 5 (by decide) (hT _ w52) (fun _ h9 => h9) (by show some (va_rf ((R i 5).map kA)) = _; rw [h5]; rfl) (fh_d d_Ty_placeScripts 80 rfl) ?_
      refine va_gets (own := "FormulaSetter$Typesetter") (ref := "FormulaSetter$Kind") (n := "INT") hx hb ((hEn _ hRO).1 4 (by decide)).1 hS hown (hT _ w823) (fun _ h9 => h9) (fh_d d_Ty_placeScripts 81 rfl) ?_
      refine lv_acmp_ne (rx := some (kA k0)) (ry := some (kA 4)) (tgt := 179) hx hb (fh_d d_Ty_placeScripts 82 rfl) rfl (fun c44 => ?_) (fun c44 => ?_)
      · refine lv_aload_n hx hb (fh_d d_Ty_placeScripts 89 rfl) rfl (lv_at hl 9 rfl) ?_
        refine fh_get (own := "FormulaSetter$Typesetter") (ref := "FormulaSetter$Nucleus") (C := "FormulaSetter$Nucleus") (T := T_Nu) (N := 15) (v := .int ((C i) 0)) hx hb hT i_Nu hown hK hP (mkR_nu (hi)) rfl 0 (by decide) (hT _ w87) (fun x9 h9 => u_same (hT _ w88) x9 h9) (rfl) (fh_d d_Ty_placeScripts 90 rfl) ?_
        refine lv_istore (lv' := [(11, .int ((C i) 0)), (10, .int ((drO si (C v2 1) (C i 2)) + (if (0 : Int32) < ((4 * (yT si)) - (((raO si cr (C u 2) (C i 1)) - ((C u) 2)) - (((C v2) 1) - (drO si (C v2 1) (C i 2))))) then ((4 * (yT si)) - (((raO si cr (C u 2) (C i 1)) - ((C u) 2)) - (((C v2) 1) - (drO si (C v2 1) (C i 2))))) else (0 : Int32)))), (7, .int (if ((C i) 1) < ((raO si cr (C u 2) (C i 1)) + ((C u) 1)) then ((raO si cr (C u 2) (C i 1)) + ((C u) 1)) else ((C i) 1))), (6, .int (if ((C i) 0) < (((C i) 0) + ((C u) 0)) then (((C i) 0) + ((C u) 0)) else ((C i) 0))), (9, .int (raO si cr (C u 2) (C i 1))), (8, .int ((C i) 2)), (5, .ref (x + 4 + v2)), (4, .ref (x + 4 + u)), (0, .ref (x + 226)), (1, .ref (x + 4 + i)), (2, .ref (yA si)), (3, .int (nI cr))]) hx hb (fh_d d_Ty_placeScripts 91 rfl) hl (by decide) rfl (fun ls hl => ?_)
        refine lv_aload_n hx hb (fh_d d_Ty_placeScripts 92 rfl) rfl (lv_at hl 8 rfl) ?_
        refine fh_get (own := "FormulaSetter$Typesetter") (ref := "FormulaSetter$Typesetter") (C := "FormulaSetter$Typesetter") (T := T_Ty) (N := 2) (v := .ref (x + 227)) hx hb hT i_Ty hown hK hP ((mkR_g (by omega) (by omega) (by omega)).trans mkG_ts) rfl 0 (by decide) (hT _ w247) (fun _ h9 => h9) rfl (fh_d d_Ty_placeScripts 93 rfl) ?_
        refine lv_aload hx hb (fh_d d_Ty_placeScripts 94 rfl) (lv_at hl 6 rfl) ?_
        refine lv_iload hx hb (fh_d d_Ty_placeScripts 95 rfl) (lv_at hl 0 rfl) ?_
        refine lv_iload hx hb (fh_d d_Ty_placeScripts 96 rfl) (lv_at hl 1 rfl) ?_
        refine lv_ineg hx hb (fh_d d_Ty_placeScripts 97 rfl) ?_
        refine fh_callV (cc' := c_Sh_move) (nL' := 5) (rest := []) (a := x + 227) (As := [.ref (x + 4 + v2), .int ((C i) 0), .int (-((drO si (C v2 1) (C i 2)) + (if (0 : Int32) < ((4 * (yT si)) - (((raO si cr (C u 2) (C i 1)) - ((C u) 2)) - (((C v2) 1) - (drO si (C v2 1) (C i 2))))) then ((4 * (yT si)) - (((raO si cr (C u 2) (C i 1)) - ((C u) 2)) - (((C v2) 1) - (drO si (C v2 1) (C i 2))))) else (0 : Int32))))]) X hR (m_Sh_mvNu l D ct b RO (r - 1) (by omega) n x kA aA g (nI c0) (mvF F (ixI (C u 3)) (ixI (C u 4)) ((C i) 0) (raO si cr (C u 2) (C i 1))) W0 H0 D0 rows cols nc lc tx len at_ C R CL RL v2 (hv2) (hokB.1 v2 (hv2)).1 (hokB.1 v2 (hv2)).2 ((C i) 0) (-((drO si (C v2 1) (C i 2)) + (if (0 : Int32) < ((4 * (yT si)) - (((raO si cr (C u 2) (C i 1)) - ((C u) 2)) - (((C v2) 1) - (drO si (C v2 1) (C i 2))))) then ((4 * (yT si)) - (((raO si cr (C u 2) (C i 1)) - ((C u) 2)) - (((C v2) 1) - (drO si (C v2 1) (C i 2))))) else (0 : Int32))))) w723 w720 w721 w722 w7 ⟨by decide, by decide, by show _ = some 3; decide +kernel⟩ (by omega) (by decide) (fh_recv hK hP ((mkR_g (by omega) (by omega) (by omega)).trans mkG_sh) rfl) hP hS hl.1 rfl (by exact Nat.le_of_ble_eq_true rfl) (fh_d d_Ty_placeScripts 98 rfl) ⟨Nat.le_refl _, Nat.le_refl _⟩ (fun v9 h9 n9 H locs hq hP hS => ?_)
        obtain ⟨rfl, q45a, q45b⟩ := hq
        rw [q45a, q45b] at hP
        refine W.eq (g2 := F0 m 199 ls []) rfl ?_
        refine lv_iload hx hb (fh_d d_Ty_placeScripts 99 rfl) (lv_at hl 3 rfl) ?_
        refine lv_iload hx hb (fh_d d_Ty_placeScripts 100 rfl) (lv_at hl 0 rfl) ?_
        refine lv_aload hx hb (fh_d d_Ty_placeScripts 101 rfl) (lv_at hl 6 rfl) ?_
        refine fh_get (own := "FormulaSetter$Typesetter") (ref := "FormulaSetter$Nucleus") (C := "FormulaSetter$Nucleus") (T := T_Nu) (N := 15) (v := .int ((C v2) 0)) hx hb hT i_Nu hown hK hP (mkR_nu (hv2)) rfl 0 (by decide) (hT _ w87) (fun x9 h9 => u_same (hT _ w88) x9 h9) (rfl) (fh_d d_Ty_placeScripts 102 rfl) ?_
        refine lv_iadd hx hb (fh_d d_Ty_placeScripts 103 rfl) ?_
        refine va_mmax hx hb (hml.trans hl.1.symm) hown (hT _ w704) (hT _ w431) (hT _ w14) (hT _ w432) (by show 1 ≤ r; omega) (by show _ ≤ 60 * r; simp [Value.category]; omega) (Nat.le_refl _) (Nat.le_refl _) (fh_d d_Ty_placeScripts 104 rfl) ?_
        refine lv_istore (lv' := [(6, .int (if (if ((C i) 0) < (((C i) 0) + ((C u) 0)) then (((C i) 0) + ((C u) 0)) else ((C i) 0)) < (((C i) 0) + ((C v2) 0)) then (((C i) 0) + ((C v2) 0)) else (if ((C i) 0) < (((C i) 0) + ((C u) 0)) then (((C i) 0) + ((C u) 0)) else ((C i) 0)))), (11, .int ((C i) 0)), (10, .int ((drO si (C v2 1) (C i 2)) + (if (0 : Int32) < ((4 * (yT si)) - (((raO si cr (C u 2) (C i 1)) - ((C u) 2)) - (((C v2) 1) - (drO si (C v2 1) (C i 2))))) then ((4 * (yT si)) - (((raO si cr (C u 2) (C i 1)) - ((C u) 2)) - (((C v2) 1) - (drO si (C v2 1) (C i 2))))) else (0 : Int32)))), (7, .int (if ((C i) 1) < ((raO si cr (C u 2) (C i 1)) + ((C u) 1)) then ((raO si cr (C u 2) (C i 1)) + ((C u) 1)) else ((C i) 1))), (9, .int (raO si cr (C u 2) (C i 1))), (8, .int ((C i) 2)), (5, .ref (x + 4 + v2)), (4, .ref (x + 4 + u)), (0, .ref (x + 226)), (1, .ref (x + 4 + i)), (2, .ref (yA si)), (3, .int (nI cr))]) hx hb (fh_d d_Ty_placeScripts 105 rfl) hl (by decide) rfl (fun ls hl => ?_)
        refine lv_iload hx hb (fh_d d_Ty_placeScripts 106 rfl) (lv_at hl 5 rfl) ?_
        refine lv_iload hx hb (fh_d d_Ty_placeScripts 107 rfl) (lv_at hl 2 rfl) ?_
        refine lv_aload hx hb (fh_d d_Ty_placeScripts 108 rfl) (lv_at hl 6 rfl) ?_
        refine fh_get (own := "FormulaSetter$Typesetter") (ref := "FormulaSetter$Nucleus") (C := "FormulaSetter$Nucleus") (T := T_Nu) (N := 15) (v := .int ((C v2) 2)) hx hb hT i_Nu hown hK hP (mkR_nu (hv2)) rfl 2 (by decide) (hT _ w101) (fun x9 h9 => u_same (hT _ w102) x9 h9) (rfl) (fh_d d_Ty_placeScripts 109 rfl) ?_
        refine lv_iadd hx hb (fh_d d_Ty_placeScripts 110 rfl) ?_
        refine va_mmax hx hb (hml.trans hl.1.symm) hown (hT _ w704) (hT _ w431) (hT _ w14) (hT _ w432) (by show 1 ≤ r; omega) (by show _ ≤ 60 * r; simp [Value.category]; omega) (Nat.le_refl _) (Nat.le_refl _) (fh_d d_Ty_placeScripts 111 rfl) ?_
        refine lv_istore (lv' := [(8, .int (if ((C i) 2) < (((drO si (C v2 1) (C i 2)) + (if (0 : Int32) < ((4 * (yT si)) - (((raO si cr (C u 2) (C i 1)) - ((C u) 2)) - (((C v2) 1) - (drO si (C v2 1) (C i 2))))) then ((4 * (yT si)) - (((raO si cr (C u 2) (C i 1)) - ((C u) 2)) - (((C v2) 1) - (drO si (C v2 1) (C i 2))))) else (0 : Int32))) + ((C v2) 2)) then (((drO si (C v2 1) (C i 2)) + (if (0 : Int32) < ((4 * (yT si)) - (((raO si cr (C u 2) (C i 1)) - ((C u) 2)) - (((C v2) 1) - (drO si (C v2 1) (C i 2))))) then ((4 * (yT si)) - (((raO si cr (C u 2) (C i 1)) - ((C u) 2)) - (((C v2) 1) - (drO si (C v2 1) (C i 2))))) else (0 : Int32))) + ((C v2) 2)) else ((C i) 2))), (6, .int (if (if ((C i) 0) < (((C i) 0) + ((C u) 0)) then (((C i) 0) + ((C u) 0)) else ((C i) 0)) < (((C i) 0) + ((C v2) 0)) then (((C i) 0) + ((C v2) 0)) else (if ((C i) 0) < (((C i) 0) + ((C u) 0)) then (((C i) 0) + ((C u) 0)) else ((C i) 0)))), (11, .int ((C i) 0)), (10, .int ((drO si (C v2 1) (C i 2)) + (if (0 : Int32) < ((4 * (yT si)) - (((raO si cr (C u 2) (C i 1)) - ((C u) 2)) - (((C v2) 1) - (drO si (C v2 1) (C i 2))))) then ((4 * (yT si)) - (((raO si cr (C u 2) (C i 1)) - ((C u) 2)) - (((C v2) 1) - (drO si (C v2 1) (C i 2))))) else (0 : Int32)))), (7, .int (if ((C i) 1) < ((raO si cr (C u 2) (C i 1)) + ((C u) 1)) then ((raO si cr (C u 2) (C i 1)) + ((C u) 1)) else ((C i) 1))), (9, .int (raO si cr (C u 2) (C i 1))), (5, .ref (x + 4 + v2)), (4, .ref (x + 4 + u)), (0, .ref (x + 226)), (1, .ref (x + 4 + i)), (2, .ref (yA si)), (3, .int (nI cr))]) hx hb (fh_d d_Ty_placeScripts 112 rfl) hl (by decide) rfl (fun ls hl => ?_)
        refine lv_aload_n hx hb (fh_d d_Ty_placeScripts 113 rfl) rfl (lv_at hl 9 rfl) ?_
        refine lv_iload hx hb (fh_d d_Ty_placeScripts 114 rfl) (lv_at hl 1 rfl) ?_
        refine lv_aload_n hx hb (fh_d d_Ty_placeScripts 115 rfl) rfl (lv_at hl 10 rfl) ?_
        refine vk_getf (own := "FormulaSetter$Typesetter") (ref := "FormulaSetter$Style") hx hb (((hEn _ hRO).2.2.1 si hsi).2.2.2.1) hS hown (hT _ w1249) (fun _ h9 => h9) (fh_d d_Ty_placeScripts 116 rfl) ?_
        refine lv_iconst (v := 2) hx hb (fh_d d_Ty_placeScripts 117 rfl) (by decide) ?_
        refine lv_idiv hx hb (fh_d d_Ty_placeScripts 118 rfl) (by decide) ?_
        refine lv_iadd hx hb (fh_d d_Ty_placeScripts 119 rfl) ?_
        refine lv_iload hx hb (fh_d d_Ty_placeScripts 120 rfl) (lv_at hl 4 rfl) ?_
        refine lv_iload hx hb (fh_d d_Ty_placeScripts 121 rfl) (lv_at hl 0 rfl) ?_
        refine fh_callU (cc' := c_Bo_measure) (nL' := 4) (rest := []) (a := x + 4 + i) (As := [.int ((if (if ((C i) 0) < (((C i) 0) + ((C u) 0)) then (((C i) 0) + ((C u) 0)) else ((C i) 0)) < (((C i) 0) + ((C v2) 0)) then (((C i) 0) + ((C v2) 0)) else (if ((C i) 0) < (((C i) 0) + ((C u) 0)) then (((C i) 0) + ((C u) 0)) else ((C i) 0))) + ((yS si) / 2)), .int (if ((C i) 1) < ((raO si cr (C u 2) (C i 1)) + ((C u) 1)) then ((raO si cr (C u 2) (C i 1)) + ((C u) 1)) else ((C i) 1)), .int (if ((C i) 2) < (((drO si (C v2 1) (C i 2)) + (if (0 : Int32) < ((4 * (yT si)) - (((raO si cr (C u 2) (C i 1)) - ((C u) 2)) - (((C v2) 1) - (drO si (C v2 1) (C i 2))))) then ((4 * (yT si)) - (((raO si cr (C u 2) (C i 1)) - ((C u) 2)) - (((C v2) 1) - (drO si (C v2 1) (C i 2))))) else (0 : Int32))) + ((C v2) 2)) then (((drO si (C v2 1) (C i 2)) + (if (0 : Int32) < ((4 * (yT si)) - (((raO si cr (C u 2) (C i 1)) - ((C u) 2)) - (((C v2) 1) - (drO si (C v2 1) (C i 2))))) then ((4 * (yT si)) - (((raO si cr (C u 2) (C i 1)) - ((C u) 2)) - (((C v2) 1) - (drO si (C v2 1) (C i 2))))) else (0 : Int32))) + ((C v2) 2)) else ((C i) 2))]) (Ck := "FormulaSetter$Nucleus") (owner := "FormulaSetter$Box") (x' := ⟨"FormulaSetter$Nucleus", "measure", "(III)V"⟩) X hR (m_Bo_measureNu l D ct b RO (r - 1) n x kA aA g (nI c0) (mvF (mvF F (ixI (C u 3)) (ixI (C u 4)) ((C i) 0) (raO si cr (C u 2) (C i 1))) (ixI (C v2 3)) (ixI (C v2 4)) ((C i) 0) (-((drO si (C v2 1) (C i 2)) + (if (0 : Int32) < ((4 * (yT si)) - (((raO si cr (C u 2) (C i 1)) - ((C u) 2)) - (((C v2) 1) - (drO si (C v2 1) (C i 2))))) then ((4 * (yT si)) - (((raO si cr (C u 2) (C i 1)) - ((C u) 2)) - (((C v2) 1) - (drO si (C v2 1) (C i 2))))) else (0 : Int32))))) W0 H0 D0 rows cols nc lc tx len at_ C R CL RL i (hi) ((if (if ((C i) 0) < (((C i) 0) + ((C u) 0)) then (((C i) 0) + ((C u) 0)) else ((C i) 0)) < (((C i) 0) + ((C v2) 0)) then (((C i) 0) + ((C v2) 0)) else (if ((C i) 0) < (((C i) 0) + ((C u) 0)) then (((C i) 0) + ((C u) 0)) else ((C i) 0))) + ((yS si) / 2)) (if ((C i) 1) < ((raO si cr (C u 2) (C i 1)) + ((C u) 1)) then ((raO si cr (C u 2) (C i 1)) + ((C u) 1)) else ((C i) 1)) (if ((C i) 2) < (((drO si (C v2 1) (C i 2)) + (if (0 : Int32) < ((4 * (yT si)) - (((raO si cr (C u 2) (C i 1)) - ((C u) 2)) - (((C v2) 1) - (drO si (C v2 1) (C i 2))))) then ((4 * (yT si)) - (((raO si cr (C u 2) (C i 1)) - ((C u) 2)) - (((C v2) 1) - (drO si (C v2 1) (C i 2))))) else (0 : Int32))) + ((C v2) 2)) then (((drO si (C v2 1) (C i 2)) + (if (0 : Int32) < ((4 * (yT si)) - (((raO si cr (C u 2) (C i 1)) - ((C u) 2)) - (((C v2) 1) - (drO si (C v2 1) (C i 2))))) then ((4 * (yT si)) - (((raO si cr (C u 2) (C i 1)) - ((C u) 2)) - (((C v2) 1) - (drO si (C v2 1) (C i 2))))) else (0 : Int32))) + ((C v2) 2)) else ((C i) 2))) w655 w691 w692 rfl w654 w693 w3 ⟨by decide, by decide, by show _ = some 3; decide +kernel⟩ (by omega) (by decide) (fh_recv hK hP (mkR_nu (hi)) rfl) hP hS hl.1 rfl (by exact Nat.le_of_ble_eq_true rfl) (fh_d d_Ty_placeScripts 122 rfl) ⟨Nat.le_refl _, Nat.le_refl _⟩ (fun v9 h9 n9 H locs hq hP hS => ?_)
        obtain ⟨rfl, q46a, q46b⟩ := hq
        rw [q46a, q46b] at hP
        refine W.eq (g2 := F0 m 246 ls []) rfl ?_
        have f47 : (sT (sT (sT C i 0 ((if (if ((C i) 0) < (((C i) 0) + ((C u) 0)) then (((C i) 0) + ((C u) 0)) else ((C i) 0)) < (((C i) 0) + ((C v2) 0)) then (((C i) 0) + ((C v2) 0)) else (if ((C i) 0) < (((C i) 0) + ((C u) 0)) then (((C i) 0) + ((C u) 0)) else ((C i) 0))) + ((yS si) / 2))) i 1 (if ((C i) 1) < ((raO si cr (C u 2) (C i 1)) + ((C u) 1)) then ((raO si cr (C u 2) (C i 1)) + ((C u) 1)) else ((C i) 1))) i 2 (if ((C i) 2) < (((drO si (C v2 1) (C i 2)) + (if (0 : Int32) < ((4 * (yT si)) - (((raO si cr (C u 2) (C i 1)) - ((C u) 2)) - (((C v2) 1) - (drO si (C v2 1) (C i 2))))) then ((4 * (yT si)) - (((raO si cr (C u 2) (C i 1)) - ((C u) 2)) - (((C v2) 1) - (drO si (C v2 1) (C i 2))))) else (0 : Int32))) + ((C v2) 2)) then (((drO si (C v2 1) (C i 2)) + (if (0 : Int32) < ((4 * (yT si)) - (((raO si cr (C u 2) (C i 1)) - ((C u) 2)) - (((C v2) 1) - (drO si (C v2 1) (C i 2))))) then ((4 * (yT si)) - (((raO si cr (C u 2) (C i 1)) - ((C u) 2)) - (((C v2) 1) - (drO si (C v2 1) (C i 2))))) else (0 : Int32))) + ((C v2) 2)) else ((C i) 2))) i 0 = (if (if ((C i) 0) < (((C i) 0) + ((C u) 0)) then (((C i) 0) + ((C u) 0)) else ((C i) 0)) < (((C i) 0) + ((C v2) 0)) then (((C i) 0) + ((C v2) 0)) else (if ((C i) 0) < (((C i) 0) + ((C u) 0)) then (((C i) 0) + ((C u) 0)) else ((C i) 0))) + ((yS si) / 2) := (sT_ne (by omega)).trans ((sT_ne (by omega)).trans sT_same)
        have f48 : (sT (sT (sT C i 0 ((if (if ((C i) 0) < (((C i) 0) + ((C u) 0)) then (((C i) 0) + ((C u) 0)) else ((C i) 0)) < (((C i) 0) + ((C v2) 0)) then (((C i) 0) + ((C v2) 0)) else (if ((C i) 0) < (((C i) 0) + ((C u) 0)) then (((C i) 0) + ((C u) 0)) else ((C i) 0))) + ((yS si) / 2))) i 1 (if ((C i) 1) < ((raO si cr (C u 2) (C i 1)) + ((C u) 1)) then ((raO si cr (C u 2) (C i 1)) + ((C u) 1)) else ((C i) 1))) i 2 (if ((C i) 2) < (((drO si (C v2 1) (C i 2)) + (if (0 : Int32) < ((4 * (yT si)) - (((raO si cr (C u 2) (C i 1)) - ((C u) 2)) - (((C v2) 1) - (drO si (C v2 1) (C i 2))))) then ((4 * (yT si)) - (((raO si cr (C u 2) (C i 1)) - ((C u) 2)) - (((C v2) 1) - (drO si (C v2 1) (C i 2))))) else (0 : Int32))) + ((C v2) 2)) then (((drO si (C v2 1) (C i 2)) + (if (0 : Int32) < ((4 * (yT si)) - (((raO si cr (C u 2) (C i 1)) - ((C u) 2)) - (((C v2) 1) - (drO si (C v2 1) (C i 2))))) then ((4 * (yT si)) - (((raO si cr (C u 2) (C i 1)) - ((C u) 2)) - (((C v2) 1) - (drO si (C v2 1) (C i 2))))) else (0 : Int32))) + ((C v2) 2)) else ((C i) 2))) i 1 = if ((C i) 1) < ((raO si cr (C u 2) (C i 1)) + ((C u) 1)) then ((raO si cr (C u 2) (C i 1)) + ((C u) 1)) else ((C i) 1) := (sT_ne (by omega)).trans sT_same
        have f49 : (sT (sT (sT C i 0 ((if (if ((C i) 0) < (((C i) 0) + ((C u) 0)) then (((C i) 0) + ((C u) 0)) else ((C i) 0)) < (((C i) 0) + ((C v2) 0)) then (((C i) 0) + ((C v2) 0)) else (if ((C i) 0) < (((C i) 0) + ((C u) 0)) then (((C i) 0) + ((C u) 0)) else ((C i) 0))) + ((yS si) / 2))) i 1 (if ((C i) 1) < ((raO si cr (C u 2) (C i 1)) + ((C u) 1)) then ((raO si cr (C u 2) (C i 1)) + ((C u) 1)) else ((C i) 1))) i 2 (if ((C i) 2) < (((drO si (C v2 1) (C i 2)) + (if (0 : Int32) < ((4 * (yT si)) - (((raO si cr (C u 2) (C i 1)) - ((C u) 2)) - (((C v2) 1) - (drO si (C v2 1) (C i 2))))) then ((4 * (yT si)) - (((raO si cr (C u 2) (C i 1)) - ((C u) 2)) - (((C v2) 1) - (drO si (C v2 1) (C i 2))))) else (0 : Int32))) + ((C v2) 2)) then (((drO si (C v2 1) (C i 2)) + (if (0 : Int32) < ((4 * (yT si)) - (((raO si cr (C u 2) (C i 1)) - ((C u) 2)) - (((C v2) 1) - (drO si (C v2 1) (C i 2))))) then ((4 * (yT si)) - (((raO si cr (C u 2) (C i 1)) - ((C u) 2)) - (((C v2) 1) - (drO si (C v2 1) (C i 2))))) else (0 : Int32))) + ((C v2) 2)) else ((C i) 2))) i 2 = if ((C i) 2) < (((drO si (C v2 1) (C i 2)) + (if (0 : Int32) < ((4 * (yT si)) - (((raO si cr (C u 2) (C i 1)) - ((C u) 2)) - (((C v2) 1) - (drO si (C v2 1) (C i 2))))) then ((4 * (yT si)) - (((raO si cr (C u 2) (C i 1)) - ((C u) 2)) - (((C v2) 1) - (drO si (C v2 1) (C i 2))))) else (0 : Int32))) + ((C v2) 2)) then (((drO si (C v2 1) (C i 2)) + (if (0 : Int32) < ((4 * (yT si)) - (((raO si cr (C u 2) (C i 1)) - ((C u) 2)) - (((C v2) 1) - (drO si (C v2 1) (C i 2))))) then ((4 * (yT si)) - (((raO si cr (C u 2) (C i 1)) - ((C u) 2)) - (((C v2) 1) - (drO si (C v2 1) (C i 2))))) else (0 : Int32))) + ((C v2) 2)) else ((C i) 2) := sT_same
        have y50 : okB (sT (sT (sT C i 0 ((if (if ((C i) 0) < (((C i) 0) + ((C u) 0)) then (((C i) 0) + ((C u) 0)) else ((C i) 0)) < (((C i) 0) + ((C v2) 0)) then (((C i) 0) + ((C v2) 0)) else (if ((C i) 0) < (((C i) 0) + ((C u) 0)) then (((C i) 0) + ((C u) 0)) else ((C i) 0))) + ((yS si) / 2))) i 1 (if ((C i) 1) < ((raO si cr (C u 2) (C i 1)) + ((C u) 1)) then ((raO si cr (C u 2) (C i 1)) + ((C u) 1)) else ((C i) 1))) i 2 (if ((C i) 2) < (((drO si (C v2 1) (C i 2)) + (if (0 : Int32) < ((4 * (yT si)) - (((raO si cr (C u 2) (C i 1)) - ((C u) 2)) - (((C v2) 1) - (drO si (C v2 1) (C i 2))))) then ((4 * (yT si)) - (((raO si cr (C u 2) (C i 1)) - ((C u) 2)) - (((C v2) 1) - (drO si (C v2 1) (C i 2))))) else (0 : Int32))) + ((C v2) 2)) then (((drO si (C v2 1) (C i 2)) + (if (0 : Int32) < ((4 * (yT si)) - (((raO si cr (C u 2) (C i 1)) - ((C u) 2)) - (((C v2) 1) - (drO si (C v2 1) (C i 2))))) then ((4 * (yT si)) - (((raO si cr (C u 2) (C i 1)) - ((C u) 2)) - (((C v2) 1) - (drO si (C v2 1) (C i 2))))) else (0 : Int32))) + ((C v2) 2)) else ((C i) 2))) CL := okB_m hokB i ((if (if ((C i) 0) < (((C i) 0) + ((C u) 0)) then (((C i) 0) + ((C u) 0)) else ((C i) 0)) < (((C i) 0) + ((C v2) 0)) then (((C i) 0) + ((C v2) 0)) else (if ((C i) 0) < (((C i) 0) + ((C u) 0)) then (((C i) 0) + ((C u) 0)) else ((C i) 0))) + ((yS si) / 2)) (if ((C i) 1) < ((raO si cr (C u 2) (C i 1)) + ((C u) 1)) then ((raO si cr (C u 2) (C i 1)) + ((C u) 1)) else ((C i) 1)) (if ((C i) 2) < (((drO si (C v2 1) (C i 2)) + (if (0 : Int32) < ((4 * (yT si)) - (((raO si cr (C u 2) (C i 1)) - ((C u) 2)) - (((C v2) 1) - (drO si (C v2 1) (C i 2))))) then ((4 * (yT si)) - (((raO si cr (C u 2) (C i 1)) - ((C u) 2)) - (((C v2) 1) - (drO si (C v2 1) (C i 2))))) else (0 : Int32))) + ((C v2) 2)) then (((drO si (C v2 1) (C i 2)) + (if (0 : Int32) < ((4 * (yT si)) - (((raO si cr (C u 2) (C i 1)) - ((C u) 2)) - (((C v2) 1) - (drO si (C v2 1) (C i 2))))) then ((4 * (yT si)) - (((raO si cr (C u 2) (C i 1)) - ((C u) 2)) - (((C v2) 1) - (drO si (C v2 1) (C i 2))))) else (0 : Int32))) + ((C v2) 2)) else ((C i) 2))
        refine fh_vret X hP hS (fh_d d_Ty_placeScripts 123 rfl) ⟨rfl, ?_, rfl⟩
        · unfold sScr; dsimp only; rw [h12, h13, h5]; rw [if_neg (fun z : some k0 = some 4 => c44 (by rw [Option.some.inj z]))]; rfl
      · refine lv_aload_n hx hb (fh_d d_Ty_placeScripts 83 rfl) rfl (lv_at hl 9 rfl) ?_
        refine fh_get (own := "FormulaSetter$Typesetter") (ref := "FormulaSetter$Nucleus") (C := "FormulaSetter$Nucleus") (T := T_Nu) (N := 15) (v := .int ((C i) 0)) hx hb hT i_Nu hown hK hP (mkR_nu (hi)) rfl 0 (by decide) (hT _ w87) (fun x9 h9 => u_same (hT _ w88) x9 h9) (rfl) (fh_d d_Ty_placeScripts 84 rfl) ?_
        refine lv_aload_n hx hb (fh_d d_Ty_placeScripts 85 rfl) rfl (lv_at hl 10 rfl) ?_
        refine vk_getf (own := "FormulaSetter$Typesetter") (ref := "FormulaSetter$Style") hx hb (((hEn _ hRO).2.2.1 si hsi).2.2.2.1) hS hown (hT _ w1249) (fun _ h9 => h9) (fh_d d_Ty_placeScripts 86 rfl) ?_
        refine lv_isub hx hb (fh_d d_Ty_placeScripts 87 rfl) ?_
        refine lv_goto (tgt := 183) hx hb (fh_d d_Ty_placeScripts 88 rfl) rfl ?_
        refine lv_istore (lv' := [(11, .int (((C i) 0) - (yS si))), (10, .int ((drO si (C v2 1) (C i 2)) + (if (0 : Int32) < ((4 * (yT si)) - (((raO si cr (C u 2) (C i 1)) - ((C u) 2)) - (((C v2) 1) - (drO si (C v2 1) (C i 2))))) then ((4 * (yT si)) - (((raO si cr (C u 2) (C i 1)) - ((C u) 2)) - (((C v2) 1) - (drO si (C v2 1) (C i 2))))) else (0 : Int32)))), (7, .int (if ((C i) 1) < ((raO si cr (C u 2) (C i 1)) + ((C u) 1)) then ((raO si cr (C u 2) (C i 1)) + ((C u) 1)) else ((C i) 1))), (6, .int (if ((C i) 0) < (((C i) 0) + ((C u) 0)) then (((C i) 0) + ((C u) 0)) else ((C i) 0))), (9, .int (raO si cr (C u 2) (C i 1))), (8, .int ((C i) 2)), (5, .ref (x + 4 + v2)), (4, .ref (x + 4 + u)), (0, .ref (x + 226)), (1, .ref (x + 4 + i)), (2, .ref (yA si)), (3, .int (nI cr))]) hx hb (fh_d d_Ty_placeScripts 91 rfl) hl (by decide) rfl (fun ls hl => ?_)
        refine lv_aload_n hx hb (fh_d d_Ty_placeScripts 92 rfl) rfl (lv_at hl 8 rfl) ?_
        refine fh_get (own := "FormulaSetter$Typesetter") (ref := "FormulaSetter$Typesetter") (C := "FormulaSetter$Typesetter") (T := T_Ty) (N := 2) (v := .ref (x + 227)) hx hb hT i_Ty hown hK hP ((mkR_g (by omega) (by omega) (by omega)).trans mkG_ts) rfl 0 (by decide) (hT _ w247) (fun _ h9 => h9) rfl (fh_d d_Ty_placeScripts 93 rfl) ?_
        refine lv_aload hx hb (fh_d d_Ty_placeScripts 94 rfl) (lv_at hl 6 rfl) ?_
        refine lv_iload hx hb (fh_d d_Ty_placeScripts 95 rfl) (lv_at hl 0 rfl) ?_
        refine lv_iload hx hb (fh_d d_Ty_placeScripts 96 rfl) (lv_at hl 1 rfl) ?_
        refine lv_ineg hx hb (fh_d d_Ty_placeScripts 97 rfl) ?_
        refine fh_callV (cc' := c_Sh_move) (nL' := 5) (rest := []) (a := x + 227) (As := [.ref (x + 4 + v2), .int (((C i) 0) - (yS si)), .int (-((drO si (C v2 1) (C i 2)) + (if (0 : Int32) < ((4 * (yT si)) - (((raO si cr (C u 2) (C i 1)) - ((C u) 2)) - (((C v2) 1) - (drO si (C v2 1) (C i 2))))) then ((4 * (yT si)) - (((raO si cr (C u 2) (C i 1)) - ((C u) 2)) - (((C v2) 1) - (drO si (C v2 1) (C i 2))))) else (0 : Int32))))]) X hR (m_Sh_mvNu l D ct b RO (r - 1) (by omega) n x kA aA g (nI c0) (mvF F (ixI (C u 3)) (ixI (C u 4)) ((C i) 0) (raO si cr (C u 2) (C i 1))) W0 H0 D0 rows cols nc lc tx len at_ C R CL RL v2 (hv2) (hokB.1 v2 (hv2)).1 (hokB.1 v2 (hv2)).2 (((C i) 0) - (yS si)) (-((drO si (C v2 1) (C i 2)) + (if (0 : Int32) < ((4 * (yT si)) - (((raO si cr (C u 2) (C i 1)) - ((C u) 2)) - (((C v2) 1) - (drO si (C v2 1) (C i 2))))) then ((4 * (yT si)) - (((raO si cr (C u 2) (C i 1)) - ((C u) 2)) - (((C v2) 1) - (drO si (C v2 1) (C i 2))))) else (0 : Int32))))) w723 w720 w721 w722 w7 ⟨by decide, by decide, by show _ = some 3; decide +kernel⟩ (by omega) (by decide) (fh_recv hK hP ((mkR_g (by omega) (by omega) (by omega)).trans mkG_sh) rfl) hP hS hl.1 rfl (by exact Nat.le_of_ble_eq_true rfl) (fh_d d_Ty_placeScripts 98 rfl) ⟨Nat.le_refl _, Nat.le_refl _⟩ (fun v9 h9 n9 H locs hq hP hS => ?_)
        obtain ⟨rfl, q51a, q51b⟩ := hq
        rw [q51a, q51b] at hP
        refine W.eq (g2 := F0 m 199 ls []) rfl ?_
        refine lv_iload hx hb (fh_d d_Ty_placeScripts 99 rfl) (lv_at hl 3 rfl) ?_
        refine lv_iload hx hb (fh_d d_Ty_placeScripts 100 rfl) (lv_at hl 0 rfl) ?_
        refine lv_aload hx hb (fh_d d_Ty_placeScripts 101 rfl) (lv_at hl 6 rfl) ?_
        refine fh_get (own := "FormulaSetter$Typesetter") (ref := "FormulaSetter$Nucleus") (C := "FormulaSetter$Nucleus") (T := T_Nu) (N := 15) (v := .int ((C v2) 0)) hx hb hT i_Nu hown hK hP (mkR_nu (hv2)) rfl 0 (by decide) (hT _ w87) (fun x9 h9 => u_same (hT _ w88) x9 h9) (rfl) (fh_d d_Ty_placeScripts 102 rfl) ?_
        refine lv_iadd hx hb (fh_d d_Ty_placeScripts 103 rfl) ?_
        refine va_mmax hx hb (hml.trans hl.1.symm) hown (hT _ w704) (hT _ w431) (hT _ w14) (hT _ w432) (by show 1 ≤ r; omega) (by show _ ≤ 60 * r; simp [Value.category]; omega) (Nat.le_refl _) (Nat.le_refl _) (fh_d d_Ty_placeScripts 104 rfl) ?_
        refine lv_istore (lv' := [(6, .int (if (if ((C i) 0) < (((C i) 0) + ((C u) 0)) then (((C i) 0) + ((C u) 0)) else ((C i) 0)) < ((((C i) 0) - (yS si)) + ((C v2) 0)) then ((((C i) 0) - (yS si)) + ((C v2) 0)) else (if ((C i) 0) < (((C i) 0) + ((C u) 0)) then (((C i) 0) + ((C u) 0)) else ((C i) 0)))), (11, .int (((C i) 0) - (yS si))), (10, .int ((drO si (C v2 1) (C i 2)) + (if (0 : Int32) < ((4 * (yT si)) - (((raO si cr (C u 2) (C i 1)) - ((C u) 2)) - (((C v2) 1) - (drO si (C v2 1) (C i 2))))) then ((4 * (yT si)) - (((raO si cr (C u 2) (C i 1)) - ((C u) 2)) - (((C v2) 1) - (drO si (C v2 1) (C i 2))))) else (0 : Int32)))), (7, .int (if ((C i) 1) < ((raO si cr (C u 2) (C i 1)) + ((C u) 1)) then ((raO si cr (C u 2) (C i 1)) + ((C u) 1)) else ((C i) 1))), (9, .int (raO si cr (C u 2) (C i 1))), (8, .int ((C i) 2)), (5, .ref (x + 4 + v2)), (4, .ref (x + 4 + u)), (0, .ref (x + 226)), (1, .ref (x + 4 + i)), (2, .ref (yA si)), (3, .int (nI cr))]) hx hb (fh_d d_Ty_placeScripts 105 rfl) hl (by decide) rfl (fun ls hl => ?_)
        refine lv_iload hx hb (fh_d d_Ty_placeScripts 106 rfl) (lv_at hl 5 rfl) ?_
        refine lv_iload hx hb (fh_d d_Ty_placeScripts 107 rfl) (lv_at hl 2 rfl) ?_
        refine lv_aload hx hb (fh_d d_Ty_placeScripts 108 rfl) (lv_at hl 6 rfl) ?_
        refine fh_get (own := "FormulaSetter$Typesetter") (ref := "FormulaSetter$Nucleus") (C := "FormulaSetter$Nucleus") (T := T_Nu) (N := 15) (v := .int ((C v2) 2)) hx hb hT i_Nu hown hK hP (mkR_nu (hv2)) rfl 2 (by decide) (hT _ w101) (fun x9 h9 => u_same (hT _ w102) x9 h9) (rfl) (fh_d d_Ty_placeScripts 109 rfl) ?_
        refine lv_iadd hx hb (fh_d d_Ty_placeScripts 110 rfl) ?_
        refine va_mmax hx hb (hml.trans hl.1.symm) hown (hT _ w704) (hT _ w431) (hT _ w14) (hT _ w432) (by show 1 ≤ r; omega) (by show _ ≤ 60 * r; simp [Value.category]; omega) (Nat.le_refl _) (Nat.le_refl _) (fh_d d_Ty_placeScripts 111 rfl) ?_
        refine lv_istore (lv' := [(8, .int (if ((C i) 2) < (((drO si (C v2 1) (C i 2)) + (if (0 : Int32) < ((4 * (yT si)) - (((raO si cr (C u 2) (C i 1)) - ((C u) 2)) - (((C v2) 1) - (drO si (C v2 1) (C i 2))))) then ((4 * (yT si)) - (((raO si cr (C u 2) (C i 1)) - ((C u) 2)) - (((C v2) 1) - (drO si (C v2 1) (C i 2))))) else (0 : Int32))) + ((C v2) 2)) then (((drO si (C v2 1) (C i 2)) + (if (0 : Int32) < ((4 * (yT si)) - (((raO si cr (C u 2) (C i 1)) - ((C u) 2)) - (((C v2) 1) - (drO si (C v2 1) (C i 2))))) then ((4 * (yT si)) - (((raO si cr (C u 2) (C i 1)) - ((C u) 2)) - (((C v2) 1) - (drO si (C v2 1) (C i 2))))) else (0 : Int32))) + ((C v2) 2)) else ((C i) 2))), (6, .int (if (if ((C i) 0) < (((C i) 0) + ((C u) 0)) then (((C i) 0) + ((C u) 0)) else ((C i) 0)) < ((((C i) 0) - (yS si)) + ((C v2) 0)) then ((((C i) 0) - (yS si)) + ((C v2) 0)) else (if ((C i) 0) < (((C i) 0) + ((C u) 0)) then (((C i) 0) + ((C u) 0)) else ((C i) 0)))), (11, .int (((C i) 0) - (yS si))), (10, .int ((drO si (C v2 1) (C i 2)) + (if (0 : Int32) < ((4 * (yT si)) - (((raO si cr (C u 2) (C i 1)) - ((C u) 2)) - (((C v2) 1) - (drO si (C v2 1) (C i 2))))) then ((4 * (yT si)) - (((raO si cr (C u 2) (C i 1)) - ((C u) 2)) - (((C v2) 1) - (drO si (C v2 1) (C i 2))))) else (0 : Int32)))), (7, .int (if ((C i) 1) < ((raO si cr (C u 2) (C i 1)) + ((C u) 1)) then ((raO si cr (C u 2) (C i 1)) + ((C u) 1)) else ((C i) 1))), (9, .int (raO si cr (C u 2) (C i 1))), (5, .ref (x + 4 + v2)), (4, .ref (x + 4 + u)), (0, .ref (x + 226)), (1, .ref (x + 4 + i)), (2, .ref (yA si)), (3, .int (nI cr))]) hx hb (fh_d d_Ty_placeScripts 112 rfl) hl (by decide) rfl (fun ls hl => ?_)
        refine lv_aload_n hx hb (fh_d d_Ty_placeScripts 113 rfl) rfl (lv_at hl 9 rfl) ?_
        refine lv_iload hx hb (fh_d d_Ty_placeScripts 114 rfl) (lv_at hl 1 rfl) ?_
        refine lv_aload_n hx hb (fh_d d_Ty_placeScripts 115 rfl) rfl (lv_at hl 10 rfl) ?_
        refine vk_getf (own := "FormulaSetter$Typesetter") (ref := "FormulaSetter$Style") hx hb (((hEn _ hRO).2.2.1 si hsi).2.2.2.1) hS hown (hT _ w1249) (fun _ h9 => h9) (fh_d d_Ty_placeScripts 116 rfl) ?_
        refine lv_iconst (v := 2) hx hb (fh_d d_Ty_placeScripts 117 rfl) (by decide) ?_
        refine lv_idiv hx hb (fh_d d_Ty_placeScripts 118 rfl) (by decide) ?_
        refine lv_iadd hx hb (fh_d d_Ty_placeScripts 119 rfl) ?_
        refine lv_iload hx hb (fh_d d_Ty_placeScripts 120 rfl) (lv_at hl 4 rfl) ?_
        refine lv_iload hx hb (fh_d d_Ty_placeScripts 121 rfl) (lv_at hl 0 rfl) ?_
        refine fh_callU (cc' := c_Bo_measure) (nL' := 4) (rest := []) (a := x + 4 + i) (As := [.int ((if (if ((C i) 0) < (((C i) 0) + ((C u) 0)) then (((C i) 0) + ((C u) 0)) else ((C i) 0)) < ((((C i) 0) - (yS si)) + ((C v2) 0)) then ((((C i) 0) - (yS si)) + ((C v2) 0)) else (if ((C i) 0) < (((C i) 0) + ((C u) 0)) then (((C i) 0) + ((C u) 0)) else ((C i) 0))) + ((yS si) / 2)), .int (if ((C i) 1) < ((raO si cr (C u 2) (C i 1)) + ((C u) 1)) then ((raO si cr (C u 2) (C i 1)) + ((C u) 1)) else ((C i) 1)), .int (if ((C i) 2) < (((drO si (C v2 1) (C i 2)) + (if (0 : Int32) < ((4 * (yT si)) - (((raO si cr (C u 2) (C i 1)) - ((C u) 2)) - (((C v2) 1) - (drO si (C v2 1) (C i 2))))) then ((4 * (yT si)) - (((raO si cr (C u 2) (C i 1)) - ((C u) 2)) - (((C v2) 1) - (drO si (C v2 1) (C i 2))))) else (0 : Int32))) + ((C v2) 2)) then (((drO si (C v2 1) (C i 2)) + (if (0 : Int32) < ((4 * (yT si)) - (((raO si cr (C u 2) (C i 1)) - ((C u) 2)) - (((C v2) 1) - (drO si (C v2 1) (C i 2))))) then ((4 * (yT si)) - (((raO si cr (C u 2) (C i 1)) - ((C u) 2)) - (((C v2) 1) - (drO si (C v2 1) (C i 2))))) else (0 : Int32))) + ((C v2) 2)) else ((C i) 2))]) (Ck := "FormulaSetter$Nucleus") (owner := "FormulaSetter$Box") (x' := ⟨"FormulaSetter$Nucleus", "measure", "(III)V"⟩) X hR (m_Bo_measureNu l D ct b RO (r - 1) n x kA aA g (nI c0) (mvF (mvF F (ixI (C u 3)) (ixI (C u 4)) ((C i) 0) (raO si cr (C u 2) (C i 1))) (ixI (C v2 3)) (ixI (C v2 4)) (((C i) 0) - (yS si)) (-((drO si (C v2 1) (C i 2)) + (if (0 : Int32) < ((4 * (yT si)) - (((raO si cr (C u 2) (C i 1)) - ((C u) 2)) - (((C v2) 1) - (drO si (C v2 1) (C i 2))))) then ((4 * (yT si)) - (((raO si cr (C u 2) (C i 1)) - ((C u) 2)) - (((C v2) 1) - (drO si (C v2 1) (C i 2))))) else (0 : Int32))))) W0 H0 D0 rows cols nc lc tx len at_ C R CL RL i (hi) ((if (if ((C i) 0) < (((C i) 0) + ((C u) 0)) then (((C i) 0) + ((C u) 0)) else ((C i) 0)) < ((((C i) 0) - (yS si)) + ((C v2) 0)) then ((((C i) 0) - (yS si)) + ((C v2) 0)) else (if ((C i) 0) < (((C i) 0) + ((C u) 0)) then (((C i) 0) + ((C u) 0)) else ((C i) 0))) + ((yS si) / 2)) (if ((C i) 1) < ((raO si cr (C u 2) (C i 1)) + ((C u) 1)) then ((raO si cr (C u 2) (C i 1)) + ((C u) 1)) else ((C i) 1)) (if ((C i) 2) < (((drO si (C v2 1) (C i 2)) + (if (0 : Int32) < ((4 * (yT si)) - (((raO si cr (C u 2) (C i 1)) - ((C u) 2)) - (((C v2) 1) - (drO si (C v2 1) (C i 2))))) then ((4 * (yT si)) - (((raO si cr (C u 2) (C i 1)) - ((C u) 2)) - (((C v2) 1) - (drO si (C v2 1) (C i 2))))) else (0 : Int32))) + ((C v2) 2)) then (((drO si (C v2 1) (C i 2)) + (if (0 : Int32) < ((4 * (yT si)) - (((raO si cr (C u 2) (C i 1)) - ((C u) 2)) - (((C v2) 1) - (drO si (C v2 1) (C i 2))))) then ((4 * (yT si)) - (((raO si cr (C u 2) (C i 1)) - ((C u) 2)) - (((C v2) 1) - (drO si (C v2 1) (C i 2))))) else (0 : Int32))) + ((C v2) 2)) else ((C i) 2))) w655 w691 w692 rfl w654 w693 w3 ⟨by decide, by decide, by show _ = some 3; decide +kernel⟩ (by omega) (by decide) (fh_recv hK hP (mkR_nu (hi)) rfl) hP hS hl.1 rfl (by exact Nat.le_of_ble_eq_true rfl) (fh_d d_Ty_placeScripts 122 rfl) ⟨Nat.le_refl _, Nat.le_refl _⟩ (fun v9 h9 n9 H locs hq hP hS => ?_)
        obtain ⟨rfl, q52a, q52b⟩ := hq
        rw [q52a, q52b] at hP
        refine W.eq (g2 := F0 m 246 ls []) rfl ?_
        have f53 : (sT (sT (sT C i 0 ((if (if ((C i) 0) < (((C i) 0) + ((C u) 0)) then (((C i) 0) + ((C u) 0)) else ((C i) 0)) < ((((C i) 0) - (yS si)) + ((C v2) 0)) then ((((C i) 0) - (yS si)) + ((C v2) 0)) else (if ((C i) 0) < (((C i) 0) + ((C u) 0)) then (((C i) 0) + ((C u) 0)) else ((C i) 0))) + ((yS si) / 2))) i 1 (if ((C i) 1) < ((raO si cr (C u 2) (C i 1)) + ((C u) 1)) then ((raO si cr (C u 2) (C i 1)) + ((C u) 1)) else ((C i) 1))) i 2 (if ((C i) 2) < (((drO si (C v2 1) (C i 2)) + (if (0 : Int32) < ((4 * (yT si)) - (((raO si cr (C u 2) (C i 1)) - ((C u) 2)) - (((C v2) 1) - (drO si (C v2 1) (C i 2))))) then ((4 * (yT si)) - (((raO si cr (C u 2) (C i 1)) - ((C u) 2)) - (((C v2) 1) - (drO si (C v2 1) (C i 2))))) else (0 : Int32))) + ((C v2) 2)) then (((drO si (C v2 1) (C i 2)) + (if (0 : Int32) < ((4 * (yT si)) - (((raO si cr (C u 2) (C i 1)) - ((C u) 2)) - (((C v2) 1) - (drO si (C v2 1) (C i 2))))) then ((4 * (yT si)) - (((raO si cr (C u 2) (C i 1)) - ((C u) 2)) - (((C v2) 1) - (drO si (C v2 1) (C i 2))))) else (0 : Int32))) + ((C v2) 2)) else ((C i) 2))) i 0 = (if (if ((C i) 0) < (((C i) 0) + ((C u) 0)) then (((C i) 0) + ((C u) 0)) else ((C i) 0)) < ((((C i) 0) - (yS si)) + ((C v2) 0)) then ((((C i) 0) - (yS si)) + ((C v2) 0)) else (if ((C i) 0) < (((C i) 0) + ((C u) 0)) then (((C i) 0) + ((C u) 0)) else ((C i) 0))) + ((yS si) / 2) := (sT_ne (by omega)).trans ((sT_ne (by omega)).trans sT_same)
        have f54 : (sT (sT (sT C i 0 ((if (if ((C i) 0) < (((C i) 0) + ((C u) 0)) then (((C i) 0) + ((C u) 0)) else ((C i) 0)) < ((((C i) 0) - (yS si)) + ((C v2) 0)) then ((((C i) 0) - (yS si)) + ((C v2) 0)) else (if ((C i) 0) < (((C i) 0) + ((C u) 0)) then (((C i) 0) + ((C u) 0)) else ((C i) 0))) + ((yS si) / 2))) i 1 (if ((C i) 1) < ((raO si cr (C u 2) (C i 1)) + ((C u) 1)) then ((raO si cr (C u 2) (C i 1)) + ((C u) 1)) else ((C i) 1))) i 2 (if ((C i) 2) < (((drO si (C v2 1) (C i 2)) + (if (0 : Int32) < ((4 * (yT si)) - (((raO si cr (C u 2) (C i 1)) - ((C u) 2)) - (((C v2) 1) - (drO si (C v2 1) (C i 2))))) then ((4 * (yT si)) - (((raO si cr (C u 2) (C i 1)) - ((C u) 2)) - (((C v2) 1) - (drO si (C v2 1) (C i 2))))) else (0 : Int32))) + ((C v2) 2)) then (((drO si (C v2 1) (C i 2)) + (if (0 : Int32) < ((4 * (yT si)) - (((raO si cr (C u 2) (C i 1)) - ((C u) 2)) - (((C v2) 1) - (drO si (C v2 1) (C i 2))))) then ((4 * (yT si)) - (((raO si cr (C u 2) (C i 1)) - ((C u) 2)) - (((C v2) 1) - (drO si (C v2 1) (C i 2))))) else (0 : Int32))) + ((C v2) 2)) else ((C i) 2))) i 1 = if ((C i) 1) < ((raO si cr (C u 2) (C i 1)) + ((C u) 1)) then ((raO si cr (C u 2) (C i 1)) + ((C u) 1)) else ((C i) 1) := (sT_ne (by omega)).trans sT_same
        have f55 : (sT (sT (sT C i 0 ((if (if ((C i) 0) < (((C i) 0) + ((C u) 0)) then (((C i) 0) + ((C u) 0)) else ((C i) 0)) < ((((C i) 0) - (yS si)) + ((C v2) 0)) then ((((C i) 0) - (yS si)) + ((C v2) 0)) else (if ((C i) 0) < (((C i) 0) + ((C u) 0)) then (((C i) 0) + ((C u) 0)) else ((C i) 0))) + ((yS si) / 2))) i 1 (if ((C i) 1) < ((raO si cr (C u 2) (C i 1)) + ((C u) 1)) then ((raO si cr (C u 2) (C i 1)) + ((C u) 1)) else ((C i) 1))) i 2 (if ((C i) 2) < (((drO si (C v2 1) (C i 2)) + (if (0 : Int32) < ((4 * (yT si)) - (((raO si cr (C u 2) (C i 1)) - ((C u) 2)) - (((C v2) 1) - (drO si (C v2 1) (C i 2))))) then ((4 * (yT si)) - (((raO si cr (C u 2) (C i 1)) - ((C u) 2)) - (((C v2) 1) - (drO si (C v2 1) (C i 2))))) else (0 : Int32))) + ((C v2) 2)) then (((drO si (C v2 1) (C i 2)) + (if (0 : Int32) < ((4 * (yT si)) - (((raO si cr (C u 2) (C i 1)) - ((C u) 2)) - (((C v2) 1) - (drO si (C v2 1) (C i 2))))) then ((4 * (yT si)) - (((raO si cr (C u 2) (C i 1)) - ((C u) 2)) - (((C v2) 1) - (drO si (C v2 1) (C i 2))))) else (0 : Int32))) + ((C v2) 2)) else ((C i) 2))) i 2 = if ((C i) 2) < (((drO si (C v2 1) (C i 2)) + (if (0 : Int32) < ((4 * (yT si)) - (((raO si cr (C u 2) (C i 1)) - ((C u) 2)) - (((C v2) 1) - (drO si (C v2 1) (C i 2))))) then ((4 * (yT si)) - (((raO si cr (C u 2) (C i 1)) - ((C u) 2)) - (((C v2) 1) - (drO si (C v2 1) (C i 2))))) else (0 : Int32))) + ((C v2) 2)) then (((drO si (C v2 1) (C i 2)) + (if (0 : Int32) < ((4 * (yT si)) - (((raO si cr (C u 2) (C i 1)) - ((C u) 2)) - (((C v2) 1) - (drO si (C v2 1) (C i 2))))) then ((4 * (yT si)) - (((raO si cr (C u 2) (C i 1)) - ((C u) 2)) - (((C v2) 1) - (drO si (C v2 1) (C i 2))))) else (0 : Int32))) + ((C v2) 2)) else ((C i) 2) := sT_same
        have y56 : okB (sT (sT (sT C i 0 ((if (if ((C i) 0) < (((C i) 0) + ((C u) 0)) then (((C i) 0) + ((C u) 0)) else ((C i) 0)) < ((((C i) 0) - (yS si)) + ((C v2) 0)) then ((((C i) 0) - (yS si)) + ((C v2) 0)) else (if ((C i) 0) < (((C i) 0) + ((C u) 0)) then (((C i) 0) + ((C u) 0)) else ((C i) 0))) + ((yS si) / 2))) i 1 (if ((C i) 1) < ((raO si cr (C u 2) (C i 1)) + ((C u) 1)) then ((raO si cr (C u 2) (C i 1)) + ((C u) 1)) else ((C i) 1))) i 2 (if ((C i) 2) < (((drO si (C v2 1) (C i 2)) + (if (0 : Int32) < ((4 * (yT si)) - (((raO si cr (C u 2) (C i 1)) - ((C u) 2)) - (((C v2) 1) - (drO si (C v2 1) (C i 2))))) then ((4 * (yT si)) - (((raO si cr (C u 2) (C i 1)) - ((C u) 2)) - (((C v2) 1) - (drO si (C v2 1) (C i 2))))) else (0 : Int32))) + ((C v2) 2)) then (((drO si (C v2 1) (C i 2)) + (if (0 : Int32) < ((4 * (yT si)) - (((raO si cr (C u 2) (C i 1)) - ((C u) 2)) - (((C v2) 1) - (drO si (C v2 1) (C i 2))))) then ((4 * (yT si)) - (((raO si cr (C u 2) (C i 1)) - ((C u) 2)) - (((C v2) 1) - (drO si (C v2 1) (C i 2))))) else (0 : Int32))) + ((C v2) 2)) else ((C i) 2))) CL := okB_m hokB i ((if (if ((C i) 0) < (((C i) 0) + ((C u) 0)) then (((C i) 0) + ((C u) 0)) else ((C i) 0)) < ((((C i) 0) - (yS si)) + ((C v2) 0)) then ((((C i) 0) - (yS si)) + ((C v2) 0)) else (if ((C i) 0) < (((C i) 0) + ((C u) 0)) then (((C i) 0) + ((C u) 0)) else ((C i) 0))) + ((yS si) / 2)) (if ((C i) 1) < ((raO si cr (C u 2) (C i 1)) + ((C u) 1)) then ((raO si cr (C u 2) (C i 1)) + ((C u) 1)) else ((C i) 1)) (if ((C i) 2) < (((drO si (C v2 1) (C i 2)) + (if (0 : Int32) < ((4 * (yT si)) - (((raO si cr (C u 2) (C i 1)) - ((C u) 2)) - (((C v2) 1) - (drO si (C v2 1) (C i 2))))) then ((4 * (yT si)) - (((raO si cr (C u 2) (C i 1)) - ((C u) 2)) - (((C v2) 1) - (drO si (C v2 1) (C i 2))))) else (0 : Int32))) + ((C v2) 2)) then (((drO si (C v2 1) (C i 2)) + (if (0 : Int32) < ((4 * (yT si)) - (((raO si cr (C u 2) (C i 1)) - ((C u) 2)) - (((C v2) 1) - (drO si (C v2 1) (C i 2))))) then ((4 * (yT si)) - (((raO si cr (C u 2) (C i 1)) - ((C u) 2)) - (((C v2) 1) - (drO si (C v2 1) (C i 2))))) else (0 : Int32))) + ((C v2) 2)) else ((C i) 2))
        refine fh_vret X hP hS (fh_d d_Ty_placeScripts 123 rfl) ⟨rfl, ?_, rfl⟩
        · unfold sScr; dsimp only; rw [h12, h13, h5]; rw [if_pos (show some k0 = some 4 by rw [hAd.1 _ _ hk0 (by decide) (Option.some.inj c44)])]; rfl
