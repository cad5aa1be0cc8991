/-! FormulaSetter.set where it answers, over what setAll does. Printed by wip/whole/gen/p71.py -/
theorem mkG_up {ct : Nat → ClassId} {x : Nat} {g : fh_H} {cnt : Int32} {F : Nat → Int32} {W0 : Nat → Int32} {H0 : Nat → Int32} {D0 : Nat → Int32} {rows : Int32} {cols : Int32} {q : Nat} {v : va_E} (h1 : ¬ (x + 226 ≤ q ∧ q < x + 233)) : fh_up (mkG ct x g cnt F W0 H0 D0 rows cols) q v = mkG ct x (fh_up g q v) cnt F W0 H0 D0 rows cols := by
  funext z
  by_cases h : z = q
  · subst h; rw [fh_up_same, mkG_g h1, fh_up_same]
  · rw [fh_up_ne h]; unfold mkG; rw [fh_up_ne h]
set_option maxHeartbeats 4000000 in
set_option maxRecDepth 100000 in
theorem m_FS_set (l : Launch) (D : va_G) (ct : Nat → ClassId) (b : Nat) (RO : State → Prop) (hR : fh_R b RO) (sA sV : Nat → Nat) (hSt : ∀ U, RO U → ro_S b sA sV U) (kA aA yA : Nat → Nat) (tK tS tM : Nat) (hEn : ∀ U, RO U → ro_E b sA kA aA yA tK tS tM U) (hAd : ad_ok kA aA yA) (n x : Nat) (g : fh_H) (f : Nat → Int32) (L : Nat) (hL : L ≤ 160) (hg1 : g (x + 1) = some (.inl (ct 1, 160, .inl f))) (hf7 : ∀ j, f j = (nI (ixI (f j))) ∧ ixI (f j) < 128) (hg3 : g (x + 3) = some (.inl (ct 4, 60, fh_q (rd_F (x + 4) 60)))) (hg6 : g (x + 64) = some (.inl (ct 5, 161, fh_q (rd_F (x + 65) 161)))) (w0 h0 d0 : Int32) (hgx : g x = some (fs_o x (nI L) w0 h0 d0)) (r : Nat) (hr : 38 ≤ r) (cnt : Int32) (F W0 H0 D0 : Nat → Int32) (rows cols : Int32) (nc0 lc0 : Int32) (tx0 : Value) (len0 at0 : Int32) (C : Nat → Nat → Int32) (R : Nat → Nat → Option Nat) (CL : Nat → Nat → Int32) (RL : Nat → Nat → Option Nat) (hokR : okR C CL) (s0 : Nat) (hs0 : s0 < 4) (nc9 lc9 a9 : Nat) (C9 : Nat → Nat → Int32) (R9 : Nat → Nat → Option Nat) (CL9 : Nat → Nat → Int32) (RL9 : Nat → Nat → Option Nat) (hok : rdOk f L (0, 0, 0, C, R, CL, RL) = some (nc9, lc9, a9, C9, R9, CL9, RL9)) (cq : Nat) (F1 W1 H1 D1 : Nat → Int32) (rows1 cols1 : Int32) (C1 CL1 : Nat → Nat → Int32) (hSA : fh_C l D fh_cl (fh_tys ct) b RO y_Ty_setAll (Cond.code y_Ty_setAll c_Ty_setAll 3 (Option.none : Option FieldType) :: fh_T) (fh_rm (r - 1) 0 0) [.ref (x + 226), .ref (x + 65), .ref (yA s0)] (mkR x kA aA (mkG ct x g cnt F W0 H0 D0 rows cols) (nI nc9) (nI lc9) (.ref (x + 1)) (nI L) (nI a9) C9 R9 CL9 RL9) n (fun v h' n' => v = none ∧ h' = mkR x kA aA (mkG ct x g (nI cq) F1 W1 H1 D1 rows1 cols1) (nI nc9) (nI lc9) (.ref (x + 1)) (nI L) (nI a9) C1 R9 CL1 RL9 ∧ n' = n) 0 0) : fh_C l D fh_cl (fh_tys ct) b RO y_FS_set (Cond.code y_FS_set c_FS_set 3 (Option.some FieldType.int) :: fh_T) (fh_rm r 0 0) [.ref x, .int (nI s0)] (mkR x kA aA (mkG ct x g cnt F W0 H0 D0 rows cols) nc0 lc0 tx0 len0 at0 C R CL RL) n (fun v h' n' => v = some (.int (nI cq)) ∧ h' = mkR x kA aA (mkG ct x (fh_up g x (fs_o x (nI L) (CL1 0 0) (CL1 0 1) (CL1 0 2))) (nI cq) F1 W1 H1 D1 rows1 cols1) (nI nc9) (nI lc9) (.ref (x + 1)) (nI L) (nI a9) C1 R9 CL1 RL9 ∧ n' = n) 0 0 := by
  refine fh_enter (by decide) (Nat.le_of_ble_eq_true rfl) [(0, .ref x), (1, .int (nI s0))] rfl ?_
  intro p e s m args below meth c H ls X hP hS hl
  have hx := X.1
  have hb := X.2.1
  have hml := X.2.2.1
  have hown : s.vm.findClass "FormulaSetter" = some m.cls := X.2.2.2.1
  have hT := X.2.2.2.2.1
  have hK := X.2.2.2.2.2.1
  have hRO := X.2.2.2.2.2.2.1
  have hnm : meth.name = "set" := X.2.2.2.2.2.2.2.2.2.2
  refine lv_iload_n hx hb (fh_d d_FS_set 0 rfl) rfl (lv_at hl 1 rfl) ?_
  refine lv_if_lt (tgt := 12) hx hb (fh_d d_FS_set 1 rfl) rfl (fun c1 => absurd c1 (nI_pos (by omega))) (fun c1 => ?_)
  refine lv_iload_n hx hb (fh_d d_FS_set 2 rfl) rfl (lv_at hl 1 rfl) ?_
  refine va_gets (own := "FormulaSetter") (ref := "FormulaSetter") hx hb (hEn _ hRO).2.2.2.2.2.1 hS hown (hT _ w569) (fun _ h9 => h9) (fh_d d_FS_set 3 rfl) ?_
  refine va_tlen (v := 4) hx hb (hEn _ hRO).2.2.2.2.2.2.1 hS rfl (fh_d d_FS_set 4 rfl) ?_
  refine lv_icmp_lt (tgt := 22) hx hb (fh_d d_FS_set 5 rfl) rfl (fun c2 => ?_) (fun c2 => absurd c2 (fun z => z ((nI_ltI (a := s0) (b := 4) (by omega) (by decide)).mpr hs0)))
  refine lv_aload_n hx hb (fh_d d_FS_set 11 rfl) rfl (lv_at hl 0 rfl) ?_
  refine fh_get (own := "FormulaSetter") (ref := "FormulaSetter") (C := "FormulaSetter") (T := T_FS) (N := 7) (v := .ref (x + 2)) hx hb hT i_FS hown hK hP ((mkR_g (by omega) (by omega) (by omega)).trans ((mkG_g (by omega)).trans hgx)) rfl 1 (by decide) (hT _ w256) (fun _ h9 => h9) rfl (fh_d d_FS_set 12 rfl) ?_
  refine lv_aload_n hx hb (fh_d d_FS_set 13 rfl) rfl (lv_at hl 0 rfl) ?_
  refine fh_get (own := "FormulaSetter") (ref := "FormulaSetter") (C := "FormulaSetter") (T := T_FS) (N := 7) (v := .ref (x + 1)) hx hb hT i_FS hown hK hP ((mkR_g (by omega) (by omega) (by omega)).trans ((mkG_g (by omega)).trans hgx)) rfl 0 (by decide) (hT _ w255) (fun _ h9 => h9) rfl (fh_d d_FS_set 14 rfl) ?_
  refine lv_aload_n hx hb (fh_d d_FS_set 15 rfl) rfl (lv_at hl 0 rfl) ?_
  refine fh_get (own := "FormulaSetter") (ref := "FormulaSetter") (C := "FormulaSetter") (T := T_FS) (N := 7) (v := .int (nI L)) hx hb hT i_FS hown hK hP ((mkR_g (by omega) (by omega) (by omega)).trans ((mkG_g (by omega)).trans hgx)) rfl 3 (by decide) (hT _ w258) (fun _ h9 => h9) rfl (fh_d d_FS_set 16 rfl) ?_
  refine fh_callV (cc' := c_Rd_read) (nL' := 4) (rest := []) (a := x + 2) (As := [.ref (x + 1), .int (nI L)]) X hR (m_Rd_read l D ct b RO hR sA sV hSt kA aA yA tK tS tM hEn hAd n x (mkG ct x g cnt F W0 H0 D0 rows cols) f L hL ((mkG_g (by omega)).trans hg1) hf7 ((mkG_g (by omega)).trans hg3) ((mkG_g (by omega)).trans hg6) (r - 1) (by omega) nc0 lc0 tx0 len0 at0 C R CL RL hokR) w296 w293 w294 w295 w2 ⟨by decide, by decide, by show _ = some 2; decide +kernel⟩ (by omega) (by decide) (fh_recv hK hP mkR_rd rfl) hP hS hl.1 rfl (by exact Nat.le_of_ble_eq_true rfl) (fh_d d_FS_set 17 rfl) ⟨Nat.le_refl _, Nat.le_refl _⟩ (fun v9 h9 n9 H locs hq hP hS => ?_)
  obtain ⟨ua, ⟨nc8, lc8, a8, C8, R8, CL8, RL8, e8, rfl, ub⟩ | ⟨e8, rfl, nc8, lc8, a8, C8, R8, CL8, RL8, ub, uk8⟩⟩ := hq
  rotate_left
  · rw [hok] at e8; cases e8
  rw [hok] at e8
  cases e8
  rw [ua, ub] at hP
  refine W.eq (g2 := F0 m 37 ls [.ref (x + 65 + 0)]) rfl ?_
  refine lv_astore_n (lv' := [(2, .ref (x + 65 + 0)), (0, .ref x), (1, .int (nI s0))]) hx hb (fh_d d_FS_set 18 rfl) rfl hl (by decide) rfl (fun ls hl => ?_)
  refine lv_aload_n hx hb (fh_d d_FS_set 19 rfl) rfl (lv_at hl 0 rfl) ?_
  refine lv_ifnonnull (tgt := 52) hx hb (fh_d d_FS_set 20 rfl) rfl ?_
  refine lv_aload_n hx hb (fh_d d_FS_set 26 rfl) rfl (lv_at hl 1 rfl) ?_
  refine fh_get (own := "FormulaSetter") (ref := "FormulaSetter") (C := "FormulaSetter") (T := T_FS) (N := 7) (v := .ref (x + 226)) hx hb hT i_FS hown hK hP ((mkR_g (by omega) (by omega) (by omega)).trans ((mkG_g (by omega)).trans hgx)) rfl 2 (by decide) (hT _ w257) (fun _ h9 => h9) rfl (fh_d d_FS_set 27 rfl) ?_
  refine lv_aload_n hx hb (fh_d d_FS_set 28 rfl) rfl (lv_at hl 0 rfl) ?_
  refine va_gets (own := "FormulaSetter") (ref := "FormulaSetter") hx hb (hEn _ hRO).2.2.2.2.2.1 hS hown (hT _ w569) (fun _ h9 => h9) (fh_d d_FS_set 29 rfl) ?_
  refine lv_iload_n hx hb (fh_d d_FS_set 30 rfl) rfl (lv_at hl 2 rfl) ?_
  refine vb_tq (v := .ref (yA s0)) hx hb (hEn _ hRO).2.2.2.2.2.2.1 hS (i := nI s0) (vp_in_nI (by omega) (by decide)) (by rw [nI_clamp (show s0 < 2 ^ 31 from Nat.lt_trans (show s0 < 4 from by omega) (by decide))]) (fh_d d_FS_set 31 rfl) ?_
  refine fh_callV (cc' := c_Ty_setAll) (nL' := 3) (rest := []) (a := x + 226) (As := [.ref (x + 65 + 0), .ref (yA s0)]) X hR (hSA) w641 w638 w639 w640 w6 ⟨by decide, by decide, by show _ = some 2; decide +kernel⟩ (by omega) (by decide) (fh_recv hK hP ((mkR_g (by omega) (by omega) (by omega)).trans mkG_ts) rfl) hP hS hl.1 rfl (by exact Nat.le_of_ble_eq_true rfl) (fh_d d_FS_set 32 rfl) ⟨Nat.le_refl _, Nat.le_refl _⟩ (fun v9 h9 n9 H locs hq hP hS => ?_)
  obtain ⟨rfl, qc, qd⟩ := hq
  rw [qc, qd] at hP
  refine W.eq (g2 := F0 m 65 ls []) rfl ?_
  refine lv_aload_n hx hb (fh_d d_FS_set 33 rfl) rfl (lv_at hl 1 rfl) ?_
  refine lv_aload_n hx hb (fh_d d_FS_set 34 rfl) rfl (lv_at hl 0 rfl) ?_
  refine fh_get (own := "FormulaSetter") (ref := "FormulaSetter$Line") (C := "FormulaSetter$Line") (T := T_Li) (N := 9) (v := .int ((CL1 0) 0)) hx hb hT i_Li hown hK hP (mkR_li (by omega)) rfl 0 (by decide) (hT _ w89) (fun x9 h9 => u_same (hT _ w85) x9 h9) (rfl) (fh_d d_FS_set 35 rfl) ?_
  refine fh_put (own := "FormulaSetter") (ref := "FormulaSetter") (C := "FormulaSetter") (T := T_FS) (N := 7) (v := .int ((CL1 0) 0)) (ty := .int) hx hb hT i_FS t_FS k_FS n_FS hown hK hP hS ((mkR_g (by omega) (by omega) (by omega)).trans ((mkG_g (by omega)).trans hgx)) rfl 4 (by decide) (hT _ w259) (fun _ h9 => h9) rfl (by decide +kernel) rfl rfl (Nat.le_of_ble_eq_true rfl) (fh_d d_FS_set 36 rfl) (fun H locs hP hS => ?_)
  replace hP := fh_P.eq (h' := mkR x kA aA (mkG ct x (fh_up g x (fs_o x (nI L) ((CL1 0) 0) h0 d0)) (nI cq) F1 W1 H1 D1 rows1 cols1) (nI nc9) (nI lc9) (.ref (x + 1)) (nI L) (nI a9) C1 R9 CL1 RL9) hP ((mkR_up (by omega) (by omega) (by omega)).trans (congrArg (fun z => mkR x kA aA z (nI nc9) (nI lc9) (.ref (x + 1)) (nI L) (nI a9) C1 R9 CL1 RL9) (mkG_up (by omega))))
  refine lv_aload_n hx hb (fh_d d_FS_set 37 rfl) rfl (lv_at hl 1 rfl) ?_
  refine lv_aload_n hx hb (fh_d d_FS_set 38 rfl) rfl (lv_at hl 0 rfl) ?_
  refine fh_get (own := "FormulaSetter") (ref := "FormulaSetter$Line") (C := "FormulaSetter$Line") (T := T_Li) (N := 9) (v := .int ((CL1 0) 1)) hx hb hT i_Li hown hK hP (mkR_li (by omega)) rfl 1 (by decide) (hT _ w96) (fun x9 h9 => u_same (hT _ w92) x9 h9) (rfl) (fh_d d_FS_set 39 rfl) ?_
  refine fh_put (own := "FormulaSetter") (ref := "FormulaSetter") (C := "FormulaSetter") (T := T_FS) (N := 7) (v := .int ((CL1 0) 1)) (ty := .int) hx hb hT i_FS t_FS k_FS n_FS hown hK hP hS ((mkR_g (by omega) (by omega) (by omega)).trans ((mkG_g (by omega)).trans fh_up_same)) rfl 5 (by decide) (hT _ w260) (fun _ h9 => h9) rfl (by decide +kernel) rfl rfl (Nat.le_of_ble_eq_true rfl) (fh_d d_FS_set 40 rfl) (fun H locs hP hS => ?_)
  replace hP := fh_P.eq (h' := mkR x kA aA (mkG ct x (fh_up g x (fs_o x (nI L) ((CL1 0) 0) ((CL1 0) 1) d0)) (nI cq) F1 W1 H1 D1 rows1 cols1) (nI nc9) (nI lc9) (.ref (x + 1)) (nI L) (nI a9) C1 R9 CL1 RL9) hP ((mkR_up (by omega) (by omega) (by omega)).trans (congrArg (fun z => mkR x kA aA z (nI nc9) (nI lc9) (.ref (x + 1)) (nI L) (nI a9) C1 R9 CL1 RL9) ((mkG_up (by omega)).trans (congrArg (fun z => mkG ct x z (nI cq) F1 W1 H1 D1 rows1 cols1) fh_up_up))))
  refine lv_aload_n hx hb (fh_d d_FS_set 41 rfl) rfl (lv_at hl 1 rfl) ?_
  refine lv_aload_n hx hb (fh_d d_FS_set 42 rfl) rfl (lv_at hl 0 rfl) ?_
  refine fh_get (own := "FormulaSetter") (ref := "FormulaSetter$Line") (C := "FormulaSetter$Line") (T := T_Li) (N := 9) (v := .int ((CL1 0) 2)) hx hb hT i_Li hown hK hP (mkR_li (by omega)) rfl 2 (by decide) (hT _ w103) (fun x9 h9 => u_same (hT _ w99) x9 h9) (rfl) (fh_d d_FS_set 43 rfl) ?_
  refine fh_put (own := "FormulaSetter") (ref := "FormulaSetter") (C := "FormulaSetter") (T := T_FS) (N := 7) (v := .int ((CL1 0) 2)) (ty := .int) hx hb hT i_FS t_FS k_FS n_FS hown hK hP hS ((mkR_g (by omega) (by omega) (by omega)).trans ((mkG_g (by omega)).trans fh_up_same)) rfl 6 (by decide) (hT _ w261) (fun _ h9 => h9) rfl (by decide +kernel) rfl rfl (Nat.le_of_ble_eq_true rfl) (fh_d d_FS_set 44 rfl) (fun H locs hP hS => ?_)
  replace hP := fh_P.eq (h' := mkR x kA aA (mkG ct x (fh_up g x (fs_o x (nI L) ((CL1 0) 0) ((CL1 0) 1) ((CL1 0) 2))) (nI cq) F1 W1 H1 D1 rows1 cols1) (nI nc9) (nI lc9) (.ref (x + 1)) (nI L) (nI a9) C1 R9 CL1 RL9) hP ((mkR_up (by omega) (by omega) (by omega)).trans (congrArg (fun z => mkR x kA aA z (nI nc9) (nI lc9) (.ref (x + 1)) (nI L) (nI a9) C1 R9 CL1 RL9) ((mkG_up (by omega)).trans (congrArg (fun z => mkG ct x z (nI cq) F1 W1 H1 D1 rows1 cols1) fh_up_up))))
  refine lv_aload_n hx hb (fh_d d_FS_set 45 rfl) rfl (lv_at hl 1 rfl) ?_
  refine fh_get (own := "FormulaSetter") (ref := "FormulaSetter") (C := "FormulaSetter") (T := T_FS) (N := 7) (v := .ref (x + 226)) hx hb hT i_FS hown hK hP ((mkR_g (by omega) (by omega) (by omega)).trans ((mkG_g (by omega)).trans fh_up_same)) rfl 2 (by decide) (hT _ w257) (fun _ h9 => h9) rfl (fh_d d_FS_set 46 rfl) ?_
  refine fh_get (own := "FormulaSetter") (ref := "FormulaSetter$Typesetter") (C := "FormulaSetter$Typesetter") (T := T_Ty) (N := 2) (v := .ref (x + 227)) hx hb hT i_Ty hown hK hP ((mkR_g (by omega) (by omega) (by omega)).trans mkG_ts) rfl 0 (by decide) (hT _ w248) (fun _ h9 => h9) rfl (fh_d d_FS_set 47 rfl) ?_
  refine fh_get (own := "FormulaSetter") (ref := "FormulaSetter$Sheet") (C := "FormulaSetter$Sheet") (T := T_Sh) (N := 2) (v := .int (nI cq)) hx hb hT i_Sh hown hK hP ((mkR_g (by omega) (by omega) (by omega)).trans mkG_sh) rfl 1 (by decide) (hT _ w218) (fun _ h9 => h9) rfl (fh_d d_FS_set 48 rfl) ?_
  exact fh_iret X hP hS (fh_d d_FS_set 49 rfl) ⟨rfl, rfl, rfl⟩
