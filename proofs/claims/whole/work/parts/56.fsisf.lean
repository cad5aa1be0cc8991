/-! FormulaSetter.isFormula. Printed by wip/whole/gen/p56.py -/
set_option maxHeartbeats 4000000 in
set_option maxRecDepth 100000 in
theorem m_FS_isFormula (l : Launch) (D : va_G) (ct : Nat → ClassId) (b : Nat) (RO : State → Prop) (hR : fh_R b RO) (sA sV : Nat → Nat) (hSt : ∀ U, RO U → ro_S b sA sV U) (kA aA yA : Nat → Nat) (tK tS tM : Nat) (hEn : ∀ U, RO U → ro_E b sA kA aA yA tK tS tM U) (hAd : ad_ok kA aA yA) (n x : Nat) (g : fh_H) (f : Nat → Int32) (L : Nat) (hL : L ≤ 160) (hg1 : g (x + 1) = some (.inl (ct 1, 160, .inl f))) (hf7 : ∀ j, f j = (nI (ixI (f j))) ∧ ixI (f j) < 128) (hg3 : g (x + 3) = some (.inl (ct 4, 60, fh_q (rd_F (x + 4) 60)))) (hg6 : g (x + 64) = some (.inl (ct 5, 161, fh_q (rd_F (x + 65) 161)))) (w0 h0 d0 : Int32) (hgx : g x = some (fs_o x (nI L) w0 h0 d0)) (r : Nat) (hr : 38 ≤ r) (nc0 lc0 : Int32) (tx0 : Value) (len0 at0 : Int32) (C : Nat → Nat → Int32) (R : Nat → Nat → Option Nat) (CL : Nat → Nat → Int32) (RL : Nat → Nat → Option Nat) (hok : okR C CL) : fh_C l D fh_cl (fh_tys ct) b RO y_FS_isFormula (Cond.code y_FS_isFormula c_FS_isFormula 1 (Option.some FieldType.boolean) :: fh_T) (fh_rm r 0 0) [.ref x] (mkR x kA aA g nc0 lc0 tx0 len0 at0 C R CL RL) n (rdB x kA aA g L n (rdOk f L (0, 0, 0, C, R, CL, RL))) 0 0 := by
  refine fh_enter (by decide) (Nat.le_of_ble_eq_true rfl) [(0, .ref x)] rfl ?_
  intro p e s m args below meth c H ls X hP hS hl
  have hx := X.1
  have hb := X.2.1
  have hml := X.2.2.1
  have hown : s.vm.findClass "FormulaSetter" = some m.cls := X.2.2.2.1
  have hT := X.2.2.2.2.1
  have hK := X.2.2.2.2.2.1
  have hRO := X.2.2.2.2.2.2.1
  have hnm : meth.name = "isFormula" := X.2.2.2.2.2.2.2.2.2.2
  refine lv_aload_n hx hb (fh_d d_FS_isFormula 0 rfl) rfl (lv_at hl 0 rfl) ?_
  refine fh_get (own := "FormulaSetter") (ref := "FormulaSetter") (C := "FormulaSetter") (T := T_FS) (N := 7) (v := .ref (x + 2)) hx hb hT i_FS hown hK hP ((mkR_g (by omega) (by omega) (by omega)).trans hgx) rfl 1 (by decide) (hT _ w256) (fun _ h9 => h9) rfl (fh_d d_FS_isFormula 1 rfl) ?_
  refine lv_aload_n hx hb (fh_d d_FS_isFormula 2 rfl) rfl (lv_at hl 0 rfl) ?_
  refine fh_get (own := "FormulaSetter") (ref := "FormulaSetter") (C := "FormulaSetter") (T := T_FS) (N := 7) (v := .ref (x + 1)) hx hb hT i_FS hown hK hP ((mkR_g (by omega) (by omega) (by omega)).trans hgx) rfl 0 (by decide) (hT _ w255) (fun _ h9 => h9) rfl (fh_d d_FS_isFormula 3 rfl) ?_
  refine lv_aload_n hx hb (fh_d d_FS_isFormula 4 rfl) rfl (lv_at hl 0 rfl) ?_
  refine fh_get (own := "FormulaSetter") (ref := "FormulaSetter") (C := "FormulaSetter") (T := T_FS) (N := 7) (v := .int (nI L)) hx hb hT i_FS hown hK hP ((mkR_g (by omega) (by omega) (by omega)).trans hgx) rfl 3 (by decide) (hT _ w258) (fun _ h9 => h9) rfl (fh_d d_FS_isFormula 5 rfl) ?_
  refine fh_callV (cc' := c_Rd_read) (nL' := 4) (rest := []) (a := x + 2) (As := [.ref (x + 1), .int (nI L)]) X hR (m_Rd_read l D ct b RO hR sA sV hSt kA aA yA tK tS tM hEn hAd n x g f L hL hg1 hf7 hg3 hg6 (r - 1) (by omega) nc0 lc0 tx0 len0 at0 C R CL RL hok) w296 w293 w294 w295 w2 ⟨by decide, by decide, by show _ = some 2; decide +kernel⟩ (by omega) (by decide) (fh_recv hK hP mkR_rd rfl) hP hS hl.1 rfl (by exact Nat.le_of_ble_eq_true rfl) (fh_d d_FS_isFormula 6 rfl) ⟨Nat.le_refl _, Nat.le_refl _⟩ (fun v9 h9 n9 H locs hq hP hS => ?_)
  obtain ⟨ua, ⟨nc9, lc9, a9, C9, R9, CL9, RL9, e9, rfl, ub⟩ | ⟨e9, rfl, nc9, lc9, a9, C9, R9, CL9, RL9, ub, uk9⟩⟩ := hq
  · rw [ua, ub] at hP
    refine lv_ifnull hx hb (fh_d d_FS_isFormula 7 rfl) ?_
    refine lv_iconst (v := 1) hx hb (fh_d d_FS_isFormula 8 rfl) (by decide) ?_
    refine lv_goto (tgt := 23) hx hb (fh_d d_FS_isFormula 9 rfl) rfl ?_
    exact fh_zret X hP hS (fh_d d_FS_isFormula 11 rfl) (by decide) ⟨rfl, Or.inl ⟨_, _, _, _, _, _, _, e9, rfl, rfl⟩⟩
  · rw [ua, ub] at hP
    refine W.eq (g2 := F0 m 15 ls [.null]) rfl ?_
    refine lv_ifnullN (tgt := 22) hx hb (fh_d d_FS_isFormula 7 rfl) rfl ?_
    refine lv_iconst (v := 0) hx hb (fh_d d_FS_isFormula 10 rfl) (by decide) ?_
    exact fh_zret X hP hS (fh_d d_FS_isFormula 11 rfl) (by decide) ⟨rfl, Or.inr ⟨e9, rfl, rdF_mk (by repeat' first | assumption | apply okR_7 | apply okR_8 | apply okR_nu | apply okR_li | apply okR_l6 | apply okR_l7 | omega)⟩⟩
