/-! Typesetter: addSign, setCharacter, setOperator. Printed by wip/whole/gen/p86.py -/
set_option maxHeartbeats 4000000 in
set_option maxRecDepth 100000 in
theorem m_Ty_addSign (l : Launch) (D : va_G) (ct : Nat → ClassId) (b : Nat) (RO : State → Prop) (hR : fh_R b RO) (sA sV : Nat → Nat) (hSt : ∀ U, RO U → ro_S b sA sV U) (kA aA yA : Nat → Nat) (tK tS tM : Nat) (hEn : ∀ U, RO U → ro_E b sA kA aA yA tK tS tM U) (hAd : ad_ok kA aA yA) (r : Nat) (hr : 1 ≤ r) (n x : Nat) (g : fh_H) (c0 : Nat) (hc0 : c0 ≤ 120) (F W0 H0 D0 : Nat → Int32) (rows cols : Int32) (nc lc : Int32) (tx : Value) (len at_ : Int32) (C : Nat → Nat → Int32) (R : Nat → Nat → Option Nat) (CL : Nat → Nat → Int32) (RL : Nat → Nat → Option Nat) (hokB : okB C CL) (cd sz sx sy : Int32) : fh_C l D fh_cl (fh_tys ct) b RO y_Ty_addSign (Cond.code y_Ty_addSign c_Ty_addSign 5 (Option.none : Option FieldType) :: fh_T) (fh_rm r 0 0) [.ref (x + 226), .int cd, .int sz, .int sx, .int sy] (mkR x kA aA (mkG ct x g (nI c0) F W0 H0 D0 rows cols) nc lc tx len at_ C R CL RL) n (fun v h' n' => v = none ∧ h' = hz ct x kA aA g nc lc tx len at_ R RL (rsv c0, putF F c0 0 cd sx sy sz (sgW cd sz), W0, H0, D0, rows, cols, C, CL) ∧ n' = n) 0 0 := by
  refine fh_enter (by decide) (Nat.le_of_ble_eq_true rfl) [(0, .ref (x + 226)), (1, .int cd), (2, .int sz), (3, .int sx), (4, .int sy)] rfl ?_
  intro p e s m args below meth c H ls X hP hS hl
  have hx := X.1
  have hb := X.2.1
  have hml := X.2.2.1
  have hown : s.vm.findClass "FormulaSetter$Typesetter" = some m.cls := X.2.2.2.1
  have hT := X.2.2.2.2.1
  have hK := X.2.2.2.2.2.1
  have hRO := X.2.2.2.2.2.2.1
  have hnm : meth.name = "addSign" := X.2.2.2.2.2.2.2.2.2.2
  refine lv_aload_n hx hb (fh_d d_Ty_addSign 0 rfl) rfl (lv_at hl 0 rfl) ?_
  refine fh_get (own := "FormulaSetter$Typesetter") (ref := "FormulaSetter$Typesetter") (C := "FormulaSetter$Typesetter") (T := T_Ty) (N := 2) (v := .ref (x + 227)) hx hb hT i_Ty hown hK hP ((mkR_g (by omega) (by omega) (by omega)).trans mkG_ts) rfl 0 (by decide) (hT _ w247) (fun _ h9 => h9) rfl (fh_d d_Ty_addSign 1 rfl) ?_
  refine lv_aload_n hx hb (fh_d d_Ty_addSign 2 rfl) rfl (lv_at hl 0 rfl) ?_
  refine fh_get (own := "FormulaSetter$Typesetter") (ref := "FormulaSetter$Typesetter") (C := "FormulaSetter$Typesetter") (T := T_Ty) (N := 2) (v := .ref (x + 227)) hx hb hT i_Ty hown hK hP ((mkR_g (by omega) (by omega) (by omega)).trans mkG_ts) rfl 0 (by decide) (hT _ w247) (fun _ h9 => h9) rfl (fh_d d_Ty_addSign 3 rfl) ?_
  refine fh_callV (cc' := c_Sh_reserve) (nL' := 2) (rest := [.ref (x + 227)]) (a := x + 227) (As := []) X hR (m_Sh_reserve l D ct b RO (r - 1) n x kA aA g c0 hc0 F W0 H0 D0 rows cols nc lc tx len at_ C R CL RL) w677 w674 w675 w676 w7 ⟨by decide, by decide, by show _ = some 0; decide +kernel⟩ (by omega) (by decide) (fh_recv hK hP ((mkR_g (by omega) (by omega) (by omega)).trans mkG_sh) rfl) hP hS hl.1 rfl (by exact Nat.le_of_ble_eq_true rfl) (fh_d d_Ty_addSign 4 rfl) ⟨Nat.le_refl _, Nat.le_refl _⟩ (fun v9 h9 n9 H locs hq hP hS => ?_)
  obtain ⟨rfl, q1a, q1b⟩ := hq
  rw [q1a, q1b] at hP
  have y2 : rsv c0 ≤ 120 := rsv_le hc0
  replace hP : fh_P D fh_cl b (mkR x kA aA (mkG ct x g (nI (rsv c0)) F W0 H0 D0 rows cols) nc lc tx len at_ C R CL RL) n H := hP
  refine W.eq (g2 := F0 m 11 ls [.int (nI c0), .ref (x + 227)]) rfl ?_
  refine lv_iconst (v := 0) hx hb (fh_d d_Ty_addSign 5 rfl) (by decide) ?_
  refine lv_iload_n hx hb (fh_d d_Ty_addSign 6 rfl) rfl (lv_at hl 1 rfl) ?_
  refine lv_iload_n hx hb (fh_d d_Ty_addSign 7 rfl) rfl (lv_at hl 3 rfl) ?_
  refine lv_iload hx hb (fh_d d_Ty_addSign 8 rfl) (lv_at hl 4 rfl) ?_
  refine lv_iload_n hx hb (fh_d d_Ty_addSign 9 rfl) rfl (lv_at hl 2 rfl) ?_
  refine lv_iload_n hx hb (fh_d d_Ty_addSign 10 rfl) rfl (lv_at hl 1 rfl) ?_
  refine lv_iload_n hx hb (fh_d d_Ty_addSign 11 rfl) rfl (lv_at hl 2 rfl) ?_
  refine fh_callS (cc' := c_Ty_signWidth) (nL' := 2) (rest := [.int sz, .int sy, .int sx, .int cd, .int 0, .int (nI c0), .ref (x + 227)]) (av := [.int cd, .int sz]) X hR (m_Ty_signWidth l D ct b RO (r - 1) n cd sz (mkR x kA aA (mkG ct x g (nI (rsv c0)) F W0 H0 D0 rows cols) nc lc tx len at_ C R CL RL)) w680 w678 w679 w6 ⟨by decide, by decide, by show _ = some 2; decide +kernel⟩ (by omega) (by decide) hP hS hl.1 rfl (by exact Nat.le_of_ble_eq_true rfl) (fh_d d_Ty_addSign 12 rfl) ⟨Nat.le_refl _, Nat.le_refl _⟩ (fun v9 h9 n9 H locs hq hP hS => ?_)
  obtain ⟨rfl, q3a, q3b⟩ := hq
  rw [q3a, q3b] at hP
  refine W.eq (g2 := F0 m 22 ls [.int (sgW cd sz), .int sz, .int sy, .int sx, .int cd, .int 0, .int (nI c0), .ref (x + 227)]) rfl ?_
  refine fh_callV (cc' := c_Sh_put) (nL' := 9) (rest := []) (a := x + 227) (As := [.int (nI c0), .int 0, .int cd, .int sx, .int sy, .int sz, .int (sgW cd sz)]) X hR (m_Sh_put l D ct b RO (r - 1) n x kA aA g (nI (rsv c0)) F W0 H0 D0 rows cols nc lc tx len at_ C R CL RL c0 hc0 0 cd sx sy sz (sgW cd sz)) w684 w681 w682 w683 w7 ⟨by decide, by decide, by show _ = some 7; decide +kernel⟩ (by omega) (by decide) (fh_recv hK hP ((mkR_g (by omega) (by omega) (by omega)).trans mkG_sh) rfl) hP hS hl.1 rfl (by exact Nat.le_of_ble_eq_true rfl) (fh_d d_Ty_addSign 13 rfl) ⟨Nat.le_refl _, Nat.le_refl _⟩ (fun v9 h9 n9 H locs hq hP hS => ?_)
  obtain ⟨rfl, q4a, q4b⟩ := hq
  rw [q4a, q4b] at hP
  refine W.eq (g2 := F0 m 25 ls []) rfl ?_
  exact fh_vret X hP hS (fh_d d_Ty_addSign 14 rfl) ⟨rfl, rfl, rfl⟩

set_option maxHeartbeats 4000000 in
set_option maxRecDepth 100000 in
theorem m_Ty_setCharacter (l : Launch) (D : va_G) (ct : Nat → ClassId) (b : Nat) (RO : State → Prop) (hR : fh_R b RO) (sA sV : Nat → Nat) (hSt : ∀ U, RO U → ro_S b sA sV U) (kA aA yA : Nat → Nat) (tK tS tM : Nat) (hEn : ∀ U, RO U → ro_E b sA kA aA yA tK tS tM U) (hAd : ad_ok kA aA yA) (r : Nat) (hr : 2 ≤ r) (i si : Nat) (hi : i < 60) (hsi : si < 4) (n x : Nat) (g : fh_H) (c0 : Nat) (hc0 : c0 ≤ 120) (F W0 H0 D0 : Nat → Int32) (rows cols : Int32) (nc lc : Int32) (tx : Value) (len at_ : Int32) (C : Nat → Nat → Int32) (R : Nat → Nat → Option Nat) (CL : Nat → Nat → Int32) (RL : Nat → Nat → Option Nat) (hokB : okB C CL) : fh_C l D fh_cl (fh_tys ct) b RO y_Ty_setCharacter (Cond.code y_Ty_setCharacter c_Ty_setCharacter 5 (Option.none : Option FieldType) :: fh_T) (fh_rm r 0 0) [.ref (x + 226), .ref (x + 4 + i), .ref (yA si)] (mkR x kA aA (mkG ct x g (nI c0) F W0 H0 D0 rows cols) nc lc tx len at_ C R CL RL) n (fun v h' n' => v = none ∧ h' = hz ct x kA aA g nc lc tx len at_ R RL (sChar i si (c0, F, W0, H0, D0, rows, cols, C, CL)) ∧ n' = n) 0 0 := by
  refine fh_enter (by decide) (Nat.le_of_ble_eq_true rfl) [(0, .ref (x + 226)), (1, .ref (x + 4 + i)), (2, .ref (yA si))] rfl ?_
  intro p e s m args below meth c H ls X hP hS hl
  have hx := X.1
  have hb := X.2.1
  have hml := X.2.2.1
  have hown : s.vm.findClass "FormulaSetter$Typesetter" = some m.cls := X.2.2.2.1
  have hT := X.2.2.2.2.1
  have hK := X.2.2.2.2.2.1
  have hRO := X.2.2.2.2.2.2.1
  have hnm : meth.name = "setCharacter" := X.2.2.2.2.2.2.2.2.2.2
  refine lv_aload_n hx hb (fh_d d_Ty_setCharacter 0 rfl) rfl (lv_at hl 1 rfl) ?_
  refine fh_get (own := "FormulaSetter$Typesetter") (ref := "FormulaSetter$Nucleus") (C := "FormulaSetter$Nucleus") (T := T_Nu) (N := 15) (v := .int ((C i) 7)) hx hb hT i_Nu hown hK hP (mkR_nu (hi)) rfl 7 (by decide) (hT _ w60) (fun _ h9 => h9) (rfl) (fh_d d_Ty_setCharacter 1 rfl) ?_
  refine lv_istore_n (lv' := [(3, .int ((C i) 7)), (0, .ref (x + 226)), (1, .ref (x + 4 + i)), (2, .ref (yA si))]) hx hb (fh_d d_Ty_setCharacter 2 rfl) rfl hl (by decide) rfl (fun ls hl => ?_)
  refine lv_aload_n hx hb (fh_d d_Ty_setCharacter 3 rfl) rfl (lv_at hl 3 rfl) ?_
  refine vk_getf (own := "FormulaSetter$Typesetter") (ref := "FormulaSetter$Style") hx hb (((hEn _ hRO).2.2.1 si hsi).2.2.2.1) hS hown (hT _ w1249) (fun _ h9 => h9) (fh_d d_Ty_setCharacter 4 rfl) ?_
  refine lv_istore (lv' := [(4, .int (yS si)), (3, .int ((C i) 7)), (0, .ref (x + 226)), (1, .ref (x + 4 + i)), (2, .ref (yA si))]) hx hb (fh_d d_Ty_setCharacter 5 rfl) hl (by decide) rfl (fun ls hl => ?_)
  refine lv_aload_n hx hb (fh_d d_Ty_setCharacter 6 rfl) rfl (lv_at hl 2 rfl) ?_
  refine lv_iload_n hx hb (fh_d d_Ty_setCharacter 7 rfl) rfl (lv_at hl 1 rfl) ?_
  refine lv_iload hx hb (fh_d d_Ty_setCharacter 8 rfl) (lv_at hl 0 rfl) ?_
  refine lv_iconst (v := 0) hx hb (fh_d d_Ty_setCharacter 9 rfl) (by decide) ?_
  refine lv_iconst (v := 0) hx hb (fh_d d_Ty_setCharacter 10 rfl) (by decide) ?_
  refine fh_callV (cc' := c_Ty_addSign) (nL' := 5) (rest := []) (a := x + 226) (As := [.int ((C i) 7), .int (yS si), .int 0, .int 0]) X hR (m_Ty_addSign l D ct b RO hR sA sV hSt kA aA yA tK tS tM hEn hAd (r - 1) (by omega) n x g c0 hc0 F W0 H0 D0 rows cols nc lc tx len at_ C R CL RL hokB ((C i) 7) (yS si) 0 0) w673 w670 w672 v21 w6 ⟨by decide, by decide, by show _ = some 4; decide +kernel⟩ (by omega) (by decide) (fh_recv hK hP ((mkR_g (by omega) (by omega) (by omega)).trans mkG_ts) rfl) hP hS hl.1 rfl (by exact Nat.le_of_ble_eq_true rfl) (fh_d d_Ty_setCharacter 11 rfl) ⟨Nat.le_refl _, Nat.le_refl _⟩ (fun v9 h9 n9 H locs hq hP hS => ?_)
  obtain ⟨rfl, q1a, q1b⟩ := hq
  rw [q1a, q1b] at hP
  have y2 : rsv c0 ≤ 120 := rsv_le hc0
  replace hP : fh_P D fh_cl b (mkR x kA aA (mkG ct x g (nI (rsv c0)) (putF F c0 0 ((C i) 7) 0 0 (yS si) (sgW ((C i) 7) (yS si))) W0 H0 D0 rows cols) nc lc tx len at_ C R CL RL) n H := hP
  refine W.eq (g2 := F0 m 20 ls []) rfl ?_
  refine lv_aload_n hx hb (fh_d d_Ty_setCharacter 12 rfl) rfl (lv_at hl 3 rfl) ?_
  refine lv_iload_n hx hb (fh_d d_Ty_setCharacter 13 rfl) rfl (lv_at hl 1 rfl) ?_
  refine lv_iload hx hb (fh_d d_Ty_setCharacter 14 rfl) (lv_at hl 0 rfl) ?_
  refine fh_callS (cc' := c_Ty_signWidth) (nL' := 2) (rest := [.ref (x + 4 + i)]) (av := [.int ((C i) 7), .int (yS si)]) X hR (m_Ty_signWidth l D ct b RO (r - 1) n ((C i) 7) (yS si) (mkR x kA aA (mkG ct x g (nI (rsv c0)) (putF F c0 0 ((C i) 7) 0 0 (yS si) (sgW ((C i) 7) (yS si))) W0 H0 D0 rows cols) nc lc tx len at_ C R CL RL)) w680 w678 w679 w6 ⟨by decide, by decide, by show _ = some 2; decide +kernel⟩ (by omega) (by decide) hP hS hl.1 rfl (by exact Nat.le_of_ble_eq_true rfl) (fh_d d_Ty_setCharacter 15 rfl) ⟨Nat.le_refl _, Nat.le_refl _⟩ (fun v9 h9 n9 H locs hq hP hS => ?_)
  obtain ⟨rfl, q3a, q3b⟩ := hq
  rw [q3a, q3b] at hP
  refine W.eq (g2 := F0 m 27 ls [.int (sgW ((C i) 7) (yS si)), .ref (x + 4 + i)]) rfl ?_
  refine lv_iload_n hx hb (fh_d d_Ty_setCharacter 16 rfl) rfl (lv_at hl 1 rfl) ?_
  refine lv_iload hx hb (fh_d d_Ty_setCharacter 17 rfl) (lv_at hl 0 rfl) ?_
  refine fh_callS (cc' := c_Ty_signHeight) (nL' := 2) (rest := [.int (sgW ((C i) 7) (yS si)), .ref (x + 4 + i)]) (av := [.int ((C i) 7), .int (yS si)]) X hR (m_Ty_signHeight l D ct b RO (r - 1) n ((C i) 7) (yS si) (mkR x kA aA (mkG ct x g (nI (rsv c0)) (putF F c0 0 ((C i) 7) 0 0 (yS si) (sgW ((C i) 7) (yS si))) W0 H0 D0 rows cols) nc lc tx len at_ C R CL RL)) w687 w685 w686 w6 ⟨by decide, by decide, by show _ = some 2; decide +kernel⟩ (by omega) (by decide) hP hS hl.1 rfl (by exact Nat.le_of_ble_eq_true rfl) (fh_d d_Ty_setCharacter 18 rfl) ⟨Nat.le_refl _, Nat.le_refl _⟩ (fun v9 h9 n9 H locs hq hP hS => ?_)
  obtain ⟨rfl, q4a, q4b⟩ := hq
  rw [q4a, q4b] at hP
  refine W.eq (g2 := F0 m 33 ls [.int (sgH ((C i) 7) (yS si)), .int (sgW ((C i) 7) (yS si)), .ref (x + 4 + i)]) rfl ?_
  refine lv_iload_n hx hb (fh_d d_Ty_setCharacter 19 rfl) rfl (lv_at hl 1 rfl) ?_
  refine lv_iload hx hb (fh_d d_Ty_setCharacter 20 rfl) (lv_at hl 0 rfl) ?_
  refine fh_callS (cc' := c_Ty_signDepth) (nL' := 2) (rest := [.int (sgH ((C i) 7) (yS si)), .int (sgW ((C i) 7) (yS si)), .ref (x + 4 + i)]) (av := [.int ((C i) 7), .int (yS si)]) X hR (m_Ty_signDepth l D ct b RO (r - 1) n ((C i) 7) (yS si) (mkR x kA aA (mkG ct x g (nI (rsv c0)) (putF F c0 0 ((C i) 7) 0 0 (yS si) (sgW ((C i) 7) (yS si))) W0 H0 D0 rows cols) nc lc tx len at_ C R CL RL)) w690 w688 w689 w6 ⟨by decide, by decide, by show _ = some 2; decide +kernel⟩ (by omega) (by decide) hP hS hl.1 rfl (by exact Nat.le_of_ble_eq_true rfl) (fh_d d_Ty_setCharacter 21 rfl) ⟨Nat.le_refl _, Nat.le_refl _⟩ (fun v9 h9 n9 H locs hq hP hS => ?_)
  obtain ⟨rfl, q5a, q5b⟩ := hq
  rw [q5a, q5b] at hP
  refine W.eq (g2 := F0 m 39 ls [.int (sgD ((C i) 7) (yS si)), .int (sgH ((C i) 7) (yS si)), .int (sgW ((C i) 7) (yS si)), .ref (x + 4 + i)]) rfl ?_
  refine fh_callU (cc' := c_Bo_measure) (nL' := 4) (rest := []) (a := x + 4 + i) (As := [.int (sgW ((C i) 7) (yS si)), .int (sgH ((C i) 7) (yS si)), .int (sgD ((C i) 7) (yS si))]) (Ck := "FormulaSetter$Nucleus") (owner := "FormulaSetter$Box") (x' := ⟨"FormulaSetter$Nucleus", "measure", "(III)V"⟩) X hR (m_Bo_measureNu l D ct b RO (r - 1) n x kA aA g (nI (rsv c0)) (putF F c0 0 ((C i) 7) 0 0 (yS si) (sgW ((C i) 7) (yS si))) W0 H0 D0 rows cols nc lc tx len at_ C R CL RL i (hi) (sgW ((C i) 7) (yS si)) (sgH ((C i) 7) (yS si)) (sgD ((C i) 7) (yS si))) w655 w691 w692 rfl w654 w693 w3 ⟨by decide, by decide, by show _ = some 3; decide +kernel⟩ (by omega) (by decide) (fh_recv hK hP (mkR_nu (hi)) rfl) hP hS hl.1 rfl (by exact Nat.le_of_ble_eq_true rfl) (fh_d d_Ty_setCharacter 22 rfl) ⟨Nat.le_refl _, Nat.le_refl _⟩ (fun v9 h9 n9 H locs hq hP hS => ?_)
  obtain ⟨rfl, q6a, q6b⟩ := hq
  rw [q6a, q6b] at hP
  refine W.eq (g2 := F0 m 42 ls []) rfl ?_
  have f7 : (sT (sT (sT C i 0 (sgW ((C i) 7) (yS si))) i 1 (sgH ((C i) 7) (yS si))) i 2 (sgD ((C i) 7) (yS si))) i 0 = sgW ((C i) 7) (yS si) := (sT_ne (by omega)).trans ((sT_ne (by omega)).trans sT_same)
  have f8 : (sT (sT (sT C i 0 (sgW ((C i) 7) (yS si))) i 1 (sgH ((C i) 7) (yS si))) i 2 (sgD ((C i) 7) (yS si))) i 1 = sgH ((C i) 7) (yS si) := (sT_ne (by omega)).trans sT_same
  have f9 : (sT (sT (sT C i 0 (sgW ((C i) 7) (yS si))) i 1 (sgH ((C i) 7) (yS si))) i 2 (sgD ((C i) 7) (yS si))) i 2 = sgD ((C i) 7) (yS si) := sT_same
  have y10 : okB (sT (sT (sT C i 0 (sgW ((C i) 7) (yS si))) i 1 (sgH ((C i) 7) (yS si))) i 2 (sgD ((C i) 7) (yS si))) CL := okB_m hokB i (sgW ((C i) 7) (yS si)) (sgH ((C i) 7) (yS si)) (sgD ((C i) 7) (yS si))
  exact fh_vret X hP hS (fh_d d_Ty_setCharacter 23 rfl) ⟨rfl, rfl, rfl⟩

set_option maxHeartbeats 4000000 in
set_option maxRecDepth 100000 in
theorem m_Ty_setOperator (l : Launch) (D : va_G) (ct : Nat → ClassId) (b : Nat) (RO : State → Prop) (hR : fh_R b RO) (sA sV : Nat → Nat) (hSt : ∀ U, RO U → ro_S b sA sV U) (kA aA yA : Nat → Nat) (tK tS tM : Nat) (hEn : ∀ U, RO U → ro_E b sA kA aA yA tK tS tM U) (hAd : ad_ok kA aA yA) (r : Nat) (hr : 2 ≤ r) (i si : Nat) (hi : i < 60) (hsi : si < 4) (n x : Nat) (g : fh_H) (c0 : Nat) (hc0 : c0 ≤ 120) (F W0 H0 D0 : Nat → Int32) (rows cols : Int32) (nc lc : Int32) (tx : Value) (len at_ : Int32) (C : Nat → Nat → Int32) (R : Nat → Nat → Option Nat) (CL : Nat → Nat → Int32) (RL : Nat → Nat → Option Nat) (hokB : okB C CL) : fh_C l D fh_cl (fh_tys ct) b RO y_Ty_setOperator (Cond.code y_Ty_setOperator c_Ty_setOperator 8 (Option.none : Option FieldType) :: fh_T) (fh_rm r 0 0) [.ref (x + 226), .ref (x + 4 + i), .ref (yA si)] (mkR x kA aA (mkG ct x g (nI c0) F W0 H0 D0 rows cols) nc lc tx len at_ C R CL RL) n (fun v h' n' => v = none ∧ h' = hz ct x kA aA g nc lc tx len at_ R RL (sOper i si (c0, F, W0, H0, D0, rows, cols, C, CL)) ∧ n' = n) 0 0 := by
  refine fh_enter (by decide) (Nat.le_of_ble_eq_true rfl) [(0, .ref (x + 226)), (1, .ref (x + 4 + i)), (2, .ref (yA si))] rfl ?_
  intro p e s m args below meth c H ls X hP hS hl
  have hx := X.1
  have hb := X.2.1
  have hml := X.2.2.1
  have hown : s.vm.findClass "FormulaSetter$Typesetter" = some m.cls := X.2.2.2.1
  have hT := X.2.2.2.2.1
  have hK := X.2.2.2.2.2.1
  have hRO := X.2.2.2.2.2.2.1
  have hnm : meth.name = "setOperator" := X.2.2.2.2.2.2.2.2.2.2
  by_cases hs0 : si = 0
  · subst hs0
    refine lv_aload_n hx hb (fh_d d_Ty_setOperator 0 rfl) rfl (lv_at hl 1 rfl) ?_
    refine fh_get (own := "FormulaSetter$Typesetter") (ref := "FormulaSetter$Nucleus") (C := "FormulaSetter$Nucleus") (T := T_Nu) (N := 15) (v := .int ((C i) 7)) hx hb hT i_Nu hown hK hP (mkR_nu (hi)) rfl 7 (by decide) (hT _ w60) (fun _ h9 => h9) (rfl) (fh_d d_Ty_setOperator 1 rfl) ?_
    refine lv_istore_n (lv' := [(3, .int ((C i) 7)), (0, .ref (x + 226)), (1, .ref (x + 4 + i)), (2, .ref (yA 0))]) hx hb (fh_d d_Ty_setOperator 2 rfl) rfl hl (by decide) rfl (fun ls hl => ?_)
    refine lv_aload_n hx hb (fh_d d_Ty_setOperator 3 rfl) rfl (lv_at hl 3 rfl) ?_
    refine va_gets (own := "FormulaSetter$Typesetter") (ref := "FormulaSetter$Style") (n := "DISPLAY") hx hb ((hEn _ hRO).2.2.1 0 (by decide)).1 hS hown (hT _ w702) (fun _ h9 => h9) (fh_d d_Ty_setOperator 4 rfl) ?_
    refine lv_acmp_ne (rx := some (yA 0)) (ry := some (yA 0)) (tgt := 17) hx hb (fh_d d_Ty_setOperator 5 rfl) rfl (fun c1 => absurd c1 (Classical.not_not.mpr rfl)) (fun c1 => ?_)
    refine lv_bipush (v := 14) hx hb (fh_d d_Ty_setOperator 6 rfl) (by decide) ?_
    refine lv_goto (tgt := 21) hx hb (fh_d d_Ty_setOperator 7 rfl) rfl ?_
    refine lv_istore (lv' := [(4, .int 14), (3, .int ((C i) 7)), (0, .ref (x + 226)), (1, .ref (x + 4 + i)), (2, .ref (yA 0))]) hx hb (fh_d d_Ty_setOperator 10 rfl) hl (by decide) rfl (fun ls hl => ?_)
    refine lv_iload_n hx hb (fh_d d_Ty_setOperator 11 rfl) rfl (lv_at hl 1 rfl) ?_
    refine lv_iload hx hb (fh_d d_Ty_setOperator 12 rfl) (lv_at hl 0 rfl) ?_
    refine fh_callS (cc' := c_Ty_signHeight) (nL' := 2) (rest := []) (av := [.int ((C i) 7), .int 14]) X hR (m_Ty_signHeight l D ct b RO (r - 1) n ((C i) 7) 14 (mkR x kA aA (mkG ct x g (nI c0) F W0 H0 D0 rows cols) nc lc tx len at_ C R CL RL)) w687 w685 w686 w6 ⟨by decide, by decide, by show _ = some 2; decide +kernel⟩ (by omega) (by decide) hP hS hl.1 rfl (by exact Nat.le_of_ble_eq_true rfl) (fh_d d_Ty_setOperator 13 rfl) ⟨Nat.le_refl _, Nat.le_refl _⟩ (fun v9 h9 n9 H locs hq hP hS => ?_)
    obtain ⟨rfl, q2a, q2b⟩ := hq
    rw [q2a, q2b] at hP
    refine W.eq (g2 := F0 m 29 ls [.int (sgH ((C i) 7) 14)]) rfl ?_
    refine lv_istore (lv' := [(5, .int (sgH ((C i) 7) 14)), (4, .int 14), (3, .int ((C i) 7)), (0, .ref (x + 226)), (1, .ref (x + 4 + i)), (2, .ref (yA 0))]) hx hb (fh_d d_Ty_setOperator 14 rfl) hl (by decide) rfl (fun ls hl => ?_)
    refine lv_iload_n hx hb (fh_d d_Ty_setOperator 15 rfl) rfl (lv_at hl 2 rfl) ?_
    refine lv_iload hx hb (fh_d d_Ty_setOperator 16 rfl) (lv_at hl 1 rfl) ?_
    refine fh_callS (cc' := c_Ty_signDepth) (nL' := 2) (rest := []) (av := [.int ((C i) 7), .int 14]) X hR (m_Ty_signDepth l D ct b RO (r - 1) n ((C i) 7) 14 (mkR x kA aA (mkG ct x g (nI c0) F W0 H0 D0 rows cols) nc lc tx len at_ C R CL RL)) w690 w688 w689 w6 ⟨by decide, by decide, by show _ = some 2; decide +kernel⟩ (by omega) (by decide) hP hS hl.1 rfl (by exact Nat.le_of_ble_eq_true rfl) (fh_d d_Ty_setOperator 17 rfl) ⟨Nat.le_refl _, Nat.le_refl _⟩ (fun v9 h9 n9 H locs hq hP hS => ?_)
    obtain ⟨rfl, q3a, q3b⟩ := hq
    rw [q3a, q3b] at hP
    refine W.eq (g2 := F0 m 37 ls [.int (sgD ((C i) 7) 14)]) rfl ?_
    refine lv_istore (lv' := [(6, .int (sgD ((C i) 7) 14)), (5, .int (sgH ((C i) 7) 14)), (4, .int 14), (3, .int ((C i) 7)), (0, .ref (x + 226)), (1, .ref (x + 4 + i)), (2, .ref (yA 0))]) hx hb (fh_d d_Ty_setOperator 18 rfl) hl (by decide) rfl (fun ls hl => ?_)
    refine lv_aload_n hx hb (fh_d d_Ty_setOperator 19 rfl) rfl (lv_at hl 6 rfl) ?_
    refine vk_getf (own := "FormulaSetter$Typesetter") (ref := "FormulaSetter$Style") hx hb (((hEn _ hRO).2.2.1 0 (by decide)).2.2.2.2.2) hS hown (hT _ w1250) (fun _ h9 => h9) (fh_d d_Ty_setOperator 20 rfl) ?_
    refine lv_iload hx hb (fh_d d_Ty_setOperator 21 rfl) (lv_at hl 1 rfl) ?_
    refine lv_iload hx hb (fh_d d_Ty_setOperator 22 rfl) (lv_at hl 0 rfl) ?_
    refine lv_isub hx hb (fh_d d_Ty_setOperator 23 rfl) ?_
    refine lv_iconst (v := 2) hx hb (fh_d d_Ty_setOperator 24 rfl) (by decide) ?_
    refine lv_idiv hx hb (fh_d d_Ty_setOperator 25 rfl) (by decide) ?_
    refine lv_isub hx hb (fh_d d_Ty_setOperator 26 rfl) ?_
    refine lv_istore (lv' := [(7, .int ((yX 0) - (((sgH ((C i) 7) 14) - (sgD ((C i) 7) 14)) / 2))), (6, .int (sgD ((C i) 7) 14)), (5, .int (sgH ((C i) 7) 14)), (4, .int 14), (3, .int ((C i) 7)), (0, .ref (x + 226)), (1, .ref (x + 4 + i)), (2, .ref (yA 0))]) hx hb (fh_d d_Ty_setOperator 27 rfl) hl (by decide) rfl (fun ls hl => ?_)
    refine lv_aload_n hx hb (fh_d d_Ty_setOperator 28 rfl) rfl (lv_at hl 5 rfl) ?_
    refine lv_iload_n hx hb (fh_d d_Ty_setOperator 29 rfl) rfl (lv_at hl 4 rfl) ?_
    refine lv_iload hx hb (fh_d d_Ty_setOperator 30 rfl) (lv_at hl 3 rfl) ?_
    refine lv_iconst (v := 0) hx hb (fh_d d_Ty_setOperator 31 rfl) (by decide) ?_
    refine lv_iload hx hb (fh_d d_Ty_setOperator 32 rfl) (lv_at hl 0 rfl) ?_
    refine fh_callV (cc' := c_Ty_addSign) (nL' := 5) (rest := []) (a := x + 226) (As := [.int ((C i) 7), .int 14, .int 0, .int ((yX 0) - (((sgH ((C i) 7) 14) - (sgD ((C i) 7) 14)) / 2))]) X hR (m_Ty_addSign l D ct b RO hR sA sV hSt kA aA yA tK tS tM hEn hAd (r - 1) (by omega) n x g c0 hc0 F W0 H0 D0 rows cols nc lc tx len at_ C R CL RL hokB ((C i) 7) 14 0 ((yX 0) - (((sgH ((C i) 7) 14) - (sgD ((C i) 7) 14)) / 2))) w673 w670 w672 v21 w6 ⟨by decide, by decide, by show _ = some 4; decide +kernel⟩ (by omega) (by decide) (fh_recv hK hP ((mkR_g (by omega) (by omega) (by omega)).trans mkG_ts) rfl) hP hS hl.1 rfl (by exact Nat.le_of_ble_eq_true rfl) (fh_d d_Ty_setOperator 33 rfl) ⟨Nat.le_refl _, Nat.le_refl _⟩ (fun v9 h9 n9 H locs hq hP hS => ?_)
    obtain ⟨rfl, q4a, q4b⟩ := hq
    rw [q4a, q4b] at hP
    have y5 : rsv c0 ≤ 120 := rsv_le hc0
    replace hP : fh_P D fh_cl b (mkR x kA aA (mkG ct x g (nI (rsv c0)) (putF F c0 0 ((C i) 7) 0 ((yX 0) - (((sgH ((C i) 7) 14) - (sgD ((C i) 7) 14)) / 2)) 14 (sgW ((C i) 7) 14)) W0 H0 D0 rows cols) nc lc tx len at_ C R CL RL) n H := hP
    refine W.eq (g2 := F0 m 63 ls []) rfl ?_
    refine lv_aload_n hx hb (fh_d d_Ty_setOperator 34 rfl) rfl (lv_at hl 6 rfl) ?_
    refine lv_iload_n hx hb (fh_d d_Ty_setOperator 35 rfl) rfl (lv_at hl 4 rfl) ?_
    refine lv_iload hx hb (fh_d d_Ty_setOperator 36 rfl) (lv_at hl 3 rfl) ?_
    refine fh_callS (cc' := c_Ty_signWidth) (nL' := 2) (rest := [.ref (x + 4 + i)]) (av := [.int ((C i) 7), .int 14]) X hR (m_Ty_signWidth l D ct b RO (r - 1) n ((C i) 7) 14 (mkR x kA aA (mkG ct x g (nI (rsv c0)) (putF F c0 0 ((C i) 7) 0 ((yX 0) - (((sgH ((C i) 7) 14) - (sgD ((C i) 7) 14)) / 2)) 14 (sgW ((C i) 7) 14)) W0 H0 D0 rows cols) nc lc tx len at_ C R CL RL)) w680 w678 w679 w6 ⟨by decide, by decide, by show _ = some 2; decide +kernel⟩ (by omega) (by decide) hP hS hl.1 rfl (by exact Nat.le_of_ble_eq_true rfl) (fh_d d_Ty_setOperator 37 rfl) ⟨Nat.le_refl _, Nat.le_refl _⟩ (fun v9 h9 n9 H locs hq hP hS => ?_)
    obtain ⟨rfl, q6a, q6b⟩ := hq
    rw [q6a, q6b] at hP
    refine W.eq (g2 := F0 m 70 ls [.int (sgW ((C i) 7) 14), .ref (x + 4 + i)]) rfl ?_
    refine lv_iconst (v := 0) hx hb (fh_d d_Ty_setOperator 38 rfl) (by decide) ?_
    refine lv_iload hx hb (fh_d d_Ty_setOperator 39 rfl) (lv_at hl 2 rfl) ?_
    refine lv_iload hx hb (fh_d d_Ty_setOperator 40 rfl) (lv_at hl 0 rfl) ?_
    refine lv_iadd hx hb (fh_d d_Ty_setOperator 41 rfl) ?_
    refine va_mmax hx hb (hml.trans hl.1.symm) hown (hT _ w704) (hT _ w431) (hT _ w14) (hT _ w432) (by show 1 ≤ r; omega) (by show _ ≤ 60 * r; simp [Value.category]; omega) (Nat.le_refl _) (Nat.le_refl _) (fh_d d_Ty_setOperator 42 rfl) ?_
    refine lv_iconst (v := 0) hx hb (fh_d d_Ty_setOperator 43 rfl) (by decide) ?_
    refine lv_iload hx hb (fh_d d_Ty_setOperator 44 rfl) (lv_at hl 1 rfl) ?_
    refine lv_iload hx hb (fh_d d_Ty_setOperator 45 rfl) (lv_at hl 0 rfl) ?_
    refine lv_isub hx hb (fh_d d_Ty_setOperator 46 rfl) ?_
    refine va_mmax hx hb (hml.trans hl.1.symm) hown (hT _ w704) (hT _ w431) (hT _ w14) (hT _ w432) (by show 1 ≤ r; omega) (by show _ ≤ 60 * r; simp [Value.category]; omega) (Nat.le_refl _) (Nat.le_refl _) (fh_d d_Ty_setOperator 47 rfl) ?_
    refine fh_callU (cc' := c_Bo_measure) (nL' := 4) (rest := []) (a := x + 4 + i) (As := [.int (sgW ((C i) 7) 14), .int (if (0 : Int32) < ((sgH ((C i) 7) 14) + ((yX 0) - (((sgH ((C i) 7) 14) - (sgD ((C i) 7) 14)) / 2))) then ((sgH ((C i) 7) 14) + ((yX 0) - (((sgH ((C i) 7) 14) - (sgD ((C i) 7) 14)) / 2))) else (0 : Int32)), .int (if (0 : Int32) < ((sgD ((C i) 7) 14) - ((yX 0) - (((sgH ((C i) 7) 14) - (sgD ((C i) 7) 14)) / 2))) then ((sgD ((C i) 7) 14) - ((yX 0) - (((sgH ((C i) 7) 14) - (sgD ((C i) 7) 14)) / 2))) else (0 : Int32))]) (Ck := "FormulaSetter$Nucleus") (owner := "FormulaSetter$Box") (x' := ⟨"FormulaSetter$Nucleus", "measure", "(III)V"⟩) X hR (m_Bo_measureNu l D ct b RO (r - 1) n x kA aA g (nI (rsv c0)) (putF F c0 0 ((C i) 7) 0 ((yX 0) - (((sgH ((C i) 7) 14) - (sgD ((C i) 7) 14)) / 2)) 14 (sgW ((C i) 7) 14)) W0 H0 D0 rows cols nc lc tx len at_ C R CL RL i (hi) (sgW ((C i) 7) 14) (if (0 : Int32) < ((sgH ((C i) 7) 14) + ((yX 0) - (((sgH ((C i) 7) 14) - (sgD ((C i) 7) 14)) / 2))) then ((sgH ((C i) 7) 14) + ((yX 0) - (((sgH ((C i) 7) 14) - (sgD ((C i) 7) 14)) / 2))) else (0 : Int32)) (if (0 : Int32) < ((sgD ((C i) 7) 14) - ((yX 0) - (((sgH ((C i) 7) 14) - (sgD ((C i) 7) 14)) / 2))) then ((sgD ((C i) 7) 14) - ((yX 0) - (((sgH ((C i) 7) 14) - (sgD ((C i) 7) 14)) / 2))) else (0 : Int32))) w655 w691 w692 rfl w654 w693 w3 ⟨by decide, by decide, by show _ = some 3; decide +kernel⟩ (by omega) (by decide) (fh_recv hK hP (mkR_nu (hi)) rfl) hP hS hl.1 rfl (by exact Nat.le_of_ble_eq_true rfl) (fh_d d_Ty_setOperator 48 rfl) ⟨Nat.le_refl _, Nat.le_refl _⟩ (fun v9 h9 n9 H locs hq hP hS => ?_)
    obtain ⟨rfl, q7a, q7b⟩ := hq
    rw [q7a, q7b] at hP
    refine W.eq (g2 := F0 m 91 ls []) rfl ?_
    have f8 : (sT (sT (sT C i 0 (sgW ((C i) 7) 14)) i 1 (if (0 : Int32) < ((sgH ((C i) 7) 14) + ((yX 0) - (((sgH ((C i) 7) 14) - (sgD ((C i) 7) 14)) / 2))) then ((sgH ((C i) 7) 14) + ((yX 0) - (((sgH ((C i) 7) 14) - (sgD ((C i) 7) 14)) / 2))) else (0 : Int32))) i 2 (if (0 : Int32) < ((sgD ((C i) 7) 14) - ((yX 0) - (((sgH ((C i) 7) 14) - (sgD ((C i) 7) 14)) / 2))) then ((sgD ((C i) 7) 14) - ((yX 0) - (((sgH ((C i) 7) 14) - (sgD ((C i) 7) 14)) / 2))) else (0 : Int32))) i 0 = sgW ((C i) 7) 14 := (sT_ne (by omega)).trans ((sT_ne (by omega)).trans sT_same)
    have f9 : (sT (sT (sT C i 0 (sgW ((C i) 7) 14)) i 1 (if (0 : Int32) < ((sgH ((C i) 7) 14) + ((yX 0) - (((sgH ((C i) 7) 14) - (sgD ((C i) 7) 14)) / 2))) then ((sgH ((C i) 7) 14) + ((yX 0) - (((sgH ((C i) 7) 14) - (sgD ((C i) 7) 14)) / 2))) else (0 : Int32))) i 2 (if (0 : Int32) < ((sgD ((C i) 7) 14) - ((yX 0) - (((sgH ((C i) 7) 14) - (sgD ((C i) 7) 14)) / 2))) then ((sgD ((C i) 7) 14) - ((yX 0) - (((sgH ((C i) 7) 14) - (sgD ((C i) 7) 14)) / 2))) else (0 : Int32))) i 1 = if (0 : Int32) < ((sgH ((C i) 7) 14) + ((yX 0) - (((sgH ((C i) 7) 14) - (sgD ((C i) 7) 14)) / 2))) then ((sgH ((C i) 7) 14) + ((yX 0) - (((sgH ((C i) 7) 14) - (sgD ((C i) 7) 14)) / 2))) else (0 : Int32) := (sT_ne (by omega)).trans sT_same
    have f10 : (sT (sT (sT C i 0 (sgW ((C i) 7) 14)) i 1 (if (0 : Int32) < ((sgH ((C i) 7) 14) + ((yX 0) - (((sgH ((C i) 7) 14) - (sgD ((C i) 7) 14)) / 2))) then ((sgH ((C i) 7) 14) + ((yX 0) - (((sgH ((C i) 7) 14) - (sgD ((C i) 7) 14)) / 2))) else (0 : Int32))) i 2 (if (0 : Int32) < ((sgD ((C i) 7) 14) - ((yX 0) - (((sgH ((C i) 7) 14) - (sgD ((C i) 7) 14)) / 2))) then ((sgD ((C i) 7) 14) - ((yX 0) - (((sgH ((C i) 7) 14) - (sgD ((C i) 7) 14)) / 2))) else (0 : Int32))) i 2 = if (0 : Int32) < ((sgD ((C i) 7) 14) - ((yX 0) - (((sgH ((C i) 7) 14) - (sgD ((C i) 7) 14)) / 2))) then ((sgD ((C i) 7) 14) - ((yX 0) - (((sgH ((C i) 7) 14) - (sgD ((C i) 7) 14)) / 2))) else (0 : Int32) := sT_same
    have y11 : okB (sT (sT (sT C i 0 (sgW ((C i) 7) 14)) i 1 (if (0 : Int32) < ((sgH ((C i) 7) 14) + ((yX 0) - (((sgH ((C i) 7) 14) - (sgD ((C i) 7) 14)) / 2))) then ((sgH ((C i) 7) 14) + ((yX 0) - (((sgH ((C i) 7) 14) - (sgD ((C i) 7) 14)) / 2))) else (0 : Int32))) i 2 (if (0 : Int32) < ((sgD ((C i) 7) 14) - ((yX 0) - (((sgH ((C i) 7) 14) - (sgD ((C i) 7) 14)) / 2))) then ((sgD ((C i) 7) 14) - ((yX 0) - (((sgH ((C i) 7) 14) - (sgD ((C i) 7) 14)) / 2))) else (0 : Int32))) CL := okB_m hokB i (sgW ((C i) 7) 14) (if (0 : Int32) < ((sgH ((C i) 7) 14) + ((yX 0) - (((sgH ((C i) 7) 14) - (sgD ((C i) 7) 14)) / 2))) then ((sgH ((C i) 7) 14) + ((yX 0) - (((sgH ((C i) 7) 14) - (sgD ((C i) 7) 14)) / 2))) else (0 : Int32)) (if (0 : Int32) < ((sgD ((C i) 7) 14) - ((yX 0) - (((sgH ((C i) 7) 14) - (sgD ((C i) 7) 14)) / 2))) then ((sgD ((C i) 7) 14) - ((yX 0) - (((sgH ((C i) 7) 14) - (sgD ((C i) 7) 14)) / 2))) else (0 : Int32))
    exact fh_vret X hP hS (fh_d d_Ty_setOperator 49 rfl) ⟨rfl, rfl, rfl⟩
  · skip
    refine lv_aload_n hx hb (fh_d d_Ty_setOperator 0 rfl) rfl (lv_at hl 1 rfl) ?_
    refine fh_get (own := "FormulaSetter$Typesetter") (ref := "FormulaSetter$Nucleus") (C := "FormulaSetter$Nucleus") (T := T_Nu) (N := 15) (v := .int ((C i) 7)) hx hb hT i_Nu hown hK hP (mkR_nu (hi)) rfl 7 (by decide) (hT _ w60) (fun _ h9 => h9) (rfl) (fh_d d_Ty_setOperator 1 rfl) ?_
    refine lv_istore_n (lv' := [(3, .int ((C i) 7)), (0, .ref (x + 226)), (1, .ref (x + 4 + i)), (2, .ref (yA si))]) hx hb (fh_d d_Ty_setOperator 2 rfl) rfl hl (by decide) rfl (fun ls hl => ?_)
    refine lv_aload_n hx hb (fh_d d_Ty_setOperator 3 rfl) rfl (lv_at hl 3 rfl) ?_
    refine va_gets (own := "FormulaSetter$Typesetter") (ref := "FormulaSetter$Style") (n := "DISPLAY") hx hb ((hEn _ hRO).2.2.1 0 (by decide)).1 hS hown (hT _ w702) (fun _ h9 => h9) (fh_d d_Ty_setOperator 4 rfl) ?_
    refine lv_acmp_ne (rx := some (yA si)) (ry := some (yA 0)) (tgt := 17) hx hb (fh_d d_Ty_setOperator 5 rfl) rfl (fun c12 => ?_) (fun c12 => absurd c12 (fun z => hs0 (hAd.2.2 _ _ hsi (by decide) (Option.some.inj z))))
    refine lv_aload_n hx hb (fh_d d_Ty_setOperator 8 rfl) rfl (lv_at hl 3 rfl) ?_
    refine vk_getf (own := "FormulaSetter$Typesetter") (ref := "FormulaSetter$Style") hx hb (((hEn _ hRO).2.2.1 si hsi).2.2.2.1) hS hown (hT _ w1249) (fun _ h9 => h9) (fh_d d_Ty_setOperator 9 rfl) ?_
    refine lv_istore (lv' := [(4, .int (yS si)), (3, .int ((C i) 7)), (0, .ref (x + 226)), (1, .ref (x + 4 + i)), (2, .ref (yA si))]) hx hb (fh_d d_Ty_setOperator 10 rfl) hl (by decide) rfl (fun ls hl => ?_)
    refine lv_iload_n hx hb (fh_d d_Ty_setOperator 11 rfl) rfl (lv_at hl 1 rfl) ?_
    refine lv_iload hx hb (fh_d d_Ty_setOperator 12 rfl) (lv_at hl 0 rfl) ?_
    refine fh_callS (cc' := c_Ty_signHeight) (nL' := 2) (rest := []) (av := [.int ((C i) 7), .int (yS si)]) X hR (m_Ty_signHeight l D ct b RO (r - 1) n ((C i) 7) (yS si) (mkR x kA aA (mkG ct x g (nI c0) F W0 H0 D0 rows cols) nc lc tx len at_ C R CL RL)) w687 w685 w686 w6 ⟨by decide, by decide, by show _ = some 2; decide +kernel⟩ (by omega) (by decide) hP hS hl.1 rfl (by exact Nat.le_of_ble_eq_true rfl) (fh_d d_Ty_setOperator 13 rfl) ⟨Nat.le_refl _, Nat.le_refl _⟩ (fun v9 h9 n9 H locs hq hP hS => ?_)
    obtain ⟨rfl, q13a, q13b⟩ := hq
    rw [q13a, q13b] at hP
    refine W.eq (g2 := F0 m 29 ls [.int (sgH ((C i) 7) (yS si))]) rfl ?_
    refine lv_istore (lv' := [(5, .int (sgH ((C i) 7) (yS si))), (4, .int (yS si)), (3, .int ((C i) 7)), (0, .ref (x + 226)), (1, .ref (x + 4 + i)), (2, .ref (yA si))]) hx hb (fh_d d_Ty_setOperator 14 rfl) hl (by decide) rfl (fun ls hl => ?_)
    refine lv_iload_n hx hb (fh_d d_Ty_setOperator 15 rfl) rfl (lv_at hl 2 rfl) ?_
    refine lv_iload hx hb (fh_d d_Ty_setOperator 16 rfl) (lv_at hl 1 rfl) ?_
    refine fh_callS (cc' := c_Ty_signDepth) (nL' := 2) (rest := []) (av := [.int ((C i) 7), .int (yS si)]) X hR (m_Ty_signDepth l D ct b RO (r - 1) n ((C i) 7) (yS si) (mkR x kA aA (mkG ct x g (nI c0) F W0 H0 D0 rows cols) nc lc tx len at_ C R CL RL)) w690 w688 w689 w6 ⟨by decide, by decide, by show _ = some 2; decide +kernel⟩ (by omega) (by decide) hP hS hl.1 rfl (by exact Nat.le_of_ble_eq_true rfl) (fh_d d_Ty_setOperator 17 rfl) ⟨Nat.le_refl _, Nat.le_refl _⟩ (fun v9 h9 n9 H locs hq hP hS => ?_)
    obtain ⟨rfl, q14a, q14b⟩ := hq
    rw [q14a, q14b] at hP
    refine W.eq (g2 := F0 m 37 ls [.int (sgD ((C i) 7) (yS si))]) rfl ?_
    refine lv_istore (lv' := [(6, .int (sgD ((C i) 7) (yS si))), (5, .int (sgH ((C i) 7) (yS si))), (4, .int (yS si)), (3, .int ((C i) 7)), (0, .ref (x + 226)), (1, .ref (x + 4 + i)), (2, .ref (yA si))]) hx hb (fh_d d_Ty_setOperator 18 rfl) hl (by decide) rfl (fun ls hl => ?_)
    refine lv_aload_n hx hb (fh_d d_Ty_setOperator 19 rfl) rfl (lv_at hl 6 rfl) ?_
    refine vk_getf (own := "FormulaSetter$Typesetter") (ref := "FormulaSetter$Style") hx hb (((hEn _ hRO).2.2.1 si hsi).2.2.2.2.2) hS hown (hT _ w1250) (fun _ h9 => h9) (fh_d d_Ty_setOperator 20 rfl) ?_
    refine lv_iload hx hb (fh_d d_Ty_setOperator 21 rfl) (lv_at hl 1 rfl) ?_
    refine lv_iload hx hb (fh_d d_Ty_setOperator 22 rfl) (lv_at hl 0 rfl) ?_
    refine lv_isub hx hb (fh_d d_Ty_setOperator 23 rfl) ?_
    refine lv_iconst (v := 2) hx hb (fh_d d_Ty_setOperator 24 rfl) (by decide) ?_
    refine lv_idiv hx hb (fh_d d_Ty_setOperator 25 rfl) (by decide) ?_
    refine lv_isub hx hb (fh_d d_Ty_setOperator 26 rfl) ?_
    refine lv_istore (lv' := [(7, .int ((yX si) - (((sgH ((C i) 7) (yS si)) - (sgD ((C i) 7) (yS si))) / 2))), (6, .int (sgD ((C i) 7) (yS si))), (5, .int (sgH ((C i) 7) (yS si))), (4, .int (yS si)), (3, .int ((C i) 7)), (0, .ref (x + 226)), (1, .ref (x + 4 + i)), (2, .ref (yA si))]) hx hb (fh_d d_Ty_setOperator 27 rfl) hl (by decide) rfl (fun ls hl => ?_)
    refine lv_aload_n hx hb (fh_d d_Ty_setOperator 28 rfl) rfl (lv_at hl 5 rfl) ?_
    refine lv_iload_n hx hb (fh_d d_Ty_setOperator 29 rfl) rfl (lv_at hl 4 rfl) ?_
    refine lv_iload hx hb (fh_d d_Ty_setOperator 30 rfl) (lv_at hl 3 rfl) ?_
    refine lv_iconst (v := 0) hx hb (fh_d d_Ty_setOperator 31 rfl) (by decide) ?_
    refine lv_iload hx hb (fh_d d_Ty_setOperator 32 rfl) (lv_at hl 0 rfl) ?_
    refine fh_callV (cc' := c_Ty_addSign) (nL' := 5) (rest := []) (a := x + 226) (As := [.int ((C i) 7), .int (yS si), .int 0, .int ((yX si) - (((sgH ((C i) 7) (yS si)) - (sgD ((C i) 7) (yS si))) / 2))]) X hR (m_Ty_addSign l D ct b RO hR sA sV hSt kA aA yA tK tS tM hEn hAd (r - 1) (by omega) n x g c0 hc0 F W0 H0 D0 rows cols nc lc tx len at_ C R CL RL hokB ((C i) 7) (yS si) 0 ((yX si) - (((sgH ((C i) 7) (yS si)) - (sgD ((C i) 7) (yS si))) / 2))) w673 w670 w672 v21 w6 ⟨by decide, by decide, by show _ = some 4; decide +kernel⟩ (by omega) (by decide) (fh_recv hK hP ((mkR_g (by omega) (by omega) (by omega)).trans mkG_ts) rfl) hP hS hl.1 rfl (by exact Nat.le_of_ble_eq_true rfl) (fh_d d_Ty_setOperator 33 rfl) ⟨Nat.le_refl _, Nat.le_refl _⟩ (fun v9 h9 n9 H locs hq hP hS => ?_)
    obtain ⟨rfl, q15a, q15b⟩ := hq
    rw [q15a, q15b] at hP
    have y16 : rsv c0 ≤ 120 := rsv_le hc0
    replace hP : fh_P D fh_cl b (mkR x kA aA (mkG ct x g (nI (rsv c0)) (putF F c0 0 ((C i) 7) 0 ((yX si) - (((sgH ((C i) 7) (yS si)) - (sgD ((C i) 7) (yS si))) / 2)) (yS si) (sgW ((C i) 7) (yS si))) W0 H0 D0 rows cols) nc lc tx len at_ C R CL RL) n H := hP
    refine W.eq (g2 := F0 m 63 ls []) rfl ?_
    refine lv_aload_n hx hb (fh_d d_Ty_setOperator 34 rfl) rfl (lv_at hl 6 rfl) ?_
    refine lv_iload_n hx hb (fh_d d_Ty_setOperator 35 rfl) rfl (lv_at hl 4 rfl) ?_
    refine lv_iload hx hb (fh_d d_Ty_setOperator 36 rfl) (lv_at hl 3 rfl) ?_
    refine fh_callS (cc' := c_Ty_signWidth) (nL' := 2) (rest := [.ref (x + 4 + i)]) (av := [.int ((C i) 7), .int (yS si)]) X hR (m_Ty_signWidth l D ct b RO (r - 1) n ((C i) 7) (yS si) (mkR x kA aA (mkG ct x g (nI (rsv c0)) (putF F c0 0 ((C i) 7) 0 ((yX si) - (((sgH ((C i) 7) (yS si)) - (sgD ((C i) 7) (yS si))) / 2)) (yS si) (sgW ((C i) 7) (yS si))) W0 H0 D0 rows cols) nc lc tx len at_ C R CL RL)) w680 w678 w679 w6 ⟨by decide, by decide, by show _ = some 2; decide +kernel⟩ (by omega) (by decide) hP hS hl.1 rfl (by exact Nat.le_of_ble_eq_true rfl) (fh_d d_Ty_setOperator 37 rfl) ⟨Nat.le_refl _, Nat.le_refl _⟩ (fun v9 h9 n9 H locs hq hP hS => ?_)
    obtain ⟨rfl, q17a, q17b⟩ := hq
    rw [q17a, q17b] at hP
    refine W.eq (g2 := F0 m 70 ls [.int (sgW ((C i) 7) (yS si)), .ref (x + 4 + i)]) rfl ?_
    refine lv_iconst (v := 0) hx hb (fh_d d_Ty_setOperator 38 rfl) (by decide) ?_
    refine lv_iload hx hb (fh_d d_Ty_setOperator 39 rfl) (lv_at hl 2 rfl) ?_
    refine lv_iload hx hb (fh_d d_Ty_setOperator 40 rfl) (lv_at hl 0 rfl) ?_
    refine lv_iadd hx hb (fh_d d_Ty_setOperator 41 rfl) ?_
    refine va_mmax hx hb (hml.trans hl.1.symm) hown (hT _ w704) (hT _ w431) (hT _ w14) (hT _ w432) (by show 1 ≤ r; omega) (by show _ ≤ 60 * r; simp [Value.category]; omega) (Nat.le_refl _) (Nat.le_refl _) (fh_d d_Ty_setOperator 42 rfl) ?_
    refine lv_iconst (v := 0) hx hb (fh_d d_Ty_setOperator 43 rfl) (by decide) ?_
    refine lv_iload hx hb (fh_d d_Ty_setOperator 44 rfl) (lv_at hl 1 rfl) ?_
    refine lv_iload hx hb (fh_d d_Ty_setOperator 45 rfl) (lv_at hl 0 rfl) ?_
    refine lv_isub hx hb (fh_d d_Ty_setOperator 46 rfl) ?_
    refine va_mmax hx hb (hml.trans hl.1.symm) hown (hT _ w704) (hT _ w431) (hT _ w14) (hT _ w432) (by show 1 ≤ r; omega) (by show _ ≤ 60 * r; simp [Value.category]; omega) (Nat.le_refl _) (Nat.le_refl _) (fh_d d_Ty_setOperator 47 rfl) ?_
    refine fh_callU (cc' := c_Bo_measure) (nL' := 4) (rest := []) (a := x + 4 + i) (As := [.int (sgW ((C i) 7) (yS si)), .int (if (0 : Int32) < ((sgH ((C i) 7) (yS si)) + ((yX si) - (((sgH ((C i) 7) (yS si)) - (sgD ((C i) 7) (yS si))) / 2))) then ((sgH ((C i) 7) (yS si)) + ((yX si) - (((sgH ((C i) 7) (yS si)) - (sgD ((C i) 7) (yS si))) / 2))) else (0 : Int32)), .int (if (0 : Int32) < ((sgD ((C i) 7) (yS si)) - ((yX si) - (((sgH ((C i) 7) (yS si)) - (sgD ((C i) 7) (yS si))) / 2))) then ((sgD ((C i) 7) (yS si)) - ((yX si) - (((sgH ((C i) 7) (yS si)) - (sgD ((C i) 7) (yS si))) / 2))) else (0 : Int32))]) (Ck := "FormulaSetter$Nucleus") (owner := "FormulaSetter$Box") (x' := ⟨"FormulaSetter$Nucleus", "measure", "(III)V"⟩) X hR (m_Bo_measureNu l D ct b RO (r - 1) n x kA aA g (nI (rsv c0)) (putF F c0 0 ((C i) 7) 0 ((yX si) - (((sgH ((C i) 7) (yS si)) - (sgD ((C i) 7) (yS si))) / 2)) (yS si) (sgW ((C i) 7) (yS si))) W0 H0 D0 rows cols nc lc tx len at_ C R CL RL i (hi) (sgW ((C i) 7) (yS si)) (if (0 : Int32) < ((sgH ((C i) 7) (yS si)) + ((yX si) - (((sgH ((C i) 7) (yS si)) - (sgD ((C i) 7) (yS si))) / 2))) then ((sgH ((C i) 7) (yS si)) + ((yX si) - (((sgH ((C i) 7) (yS si)) - (sgD ((C i) 7) (yS si))) / 2))) else (0 : Int32)) (if (0 : Int32) < ((sgD ((C i) 7) (yS si)) - ((yX si) - (((sgH ((C i) 7) (yS si)) - (sgD ((C i) 7) (yS si))) / 2))) then ((sgD ((C i) 7) (yS si)) - ((yX si) - (((sgH ((C i) 7) (yS si)) - (sgD ((C i) 7) (yS si))) / 2))) else (0 : Int32))) w655 w691 w692 rfl w654 w693 w3 ⟨by decide, by decide, by show _ = some 3; decide +kernel⟩ (by omega) (by decide) (fh_recv hK hP (mkR_nu (hi)) rfl) hP hS hl.1 rfl (by exact Nat.le_of_ble_eq_true rfl) (fh_d d_Ty_setOperator 48 rfl) ⟨Nat.le_refl _, Nat.le_refl _⟩ (fun v9 h9 n9 H locs hq hP hS => ?_)
    obtain ⟨rfl, q18a, q18b⟩ := hq
    rw [q18a, q18b] at hP
    refine W.eq (g2 := F0 m 91 ls []) rfl ?_
    have f19 : (sT (sT (sT C i 0 (sgW ((C i) 7) (yS si))) i 1 (if (0 : Int32) < ((sgH ((C i) 7) (yS si)) + ((yX si) - (((sgH ((C i) 7) (yS si)) - (sgD ((C i) 7) (yS si))) / 2))) then ((sgH ((C i) 7) (yS si)) + ((yX si) - (((sgH ((C i) 7) (yS si)) - (sgD ((C i) 7) (yS si))) / 2))) else (0 : Int32))) i 2 (if (0 : Int32) < ((sgD ((C i) 7) (yS si)) - ((yX si) - (((sgH ((C i) 7) (yS si)) - (sgD ((C i) 7) (yS si))) / 2))) then ((sgD ((C i) 7) (yS si)) - ((yX si) - (((sgH ((C i) 7) (yS si)) - (sgD ((C i) 7) (yS si))) / 2))) else (0 : Int32))) i 0 = sgW ((C i) 7) (yS si) := (sT_ne (by omega)).trans ((sT_ne (by omega)).trans sT_same)
    have f20 : (sT (sT (sT C i 0 (sgW ((C i) 7) (yS si))) i 1 (if (0 : Int32) < ((sgH ((C i) 7) (yS si)) + ((yX si) - (((sgH ((C i) 7) (yS si)) - (sgD ((C i) 7) (yS si))) / 2))) then ((sgH ((C i) 7) (yS si)) + ((yX si) - (((sgH ((C i) 7) (yS si)) - (sgD ((C i) 7) (yS si))) / 2))) else (0 : Int32))) i 2 (if (0 : Int32) < ((sgD ((C i) 7) (yS si)) - ((yX si) - (((sgH ((C i) 7) (yS si)) - (sgD ((C i) 7) (yS si))) / 2))) then ((sgD ((C i) 7) (yS si)) - ((yX si) - (((sgH ((C i) 7) (yS si)) - (sgD ((C i) 7) (yS si))) / 2))) else (0 : Int32))) i 1 = if (0 : Int32) < ((sgH ((C i) 7) (yS si)) + ((yX si) - (((sgH ((C i) 7) (yS si)) - (sgD ((C i) 7) (yS si))) / 2))) then ((sgH ((C i) 7) (yS si)) + ((yX si) - (((sgH ((C i) 7) (yS si)) - (sgD ((C i) 7) (yS si))) / 2))) else (0 : Int32) := (sT_ne (by omega)).trans sT_same
    have f21 : (sT (sT (sT C i 0 (sgW ((C i) 7) (yS si))) i 1 (if (0 : Int32) < ((sgH ((C i) 7) (yS si)) + ((yX si) - (((sgH ((C i) 7) (yS si)) - (sgD ((C i) 7) (yS si))) / 2))) then ((sgH ((C i) 7) (yS si)) + ((yX si) - (((sgH ((C i) 7) (yS si)) - (sgD ((C i) 7) (yS si))) / 2))) else (0 : Int32))) i 2 (if (0 : Int32) < ((sgD ((C i) 7) (yS si)) - ((yX si) - (((sgH ((C i) 7) (yS si)) - (sgD ((C i) 7) (yS si))) / 2))) then ((sgD ((C i) 7) (yS si)) - ((yX si) - (((sgH ((C i) 7) (yS si)) - (sgD ((C i) 7) (yS si))) / 2))) else (0 : Int32))) i 2 = if (0 : Int32) < ((sgD ((C i) 7) (yS si)) - ((yX si) - (((sgH ((C i) 7) (yS si)) - (sgD ((C i) 7) (yS si))) / 2))) then ((sgD ((C i) 7) (yS si)) - ((yX si) - (((sgH ((C i) 7) (yS si)) - (sgD ((C i) 7) (yS si))) / 2))) else (0 : Int32) := sT_same
    have y22 : okB (sT (sT (sT C i 0 (sgW ((C i) 7) (yS si))) i 1 (if (0 : Int32) < ((sgH ((C i) 7) (yS si)) + ((yX si) - (((sgH ((C i) 7) (yS si)) - (sgD ((C i) 7) (yS si))) / 2))) then ((sgH ((C i) 7) (yS si)) + ((yX si) - (((sgH ((C i) 7) (yS si)) - (sgD ((C i) 7) (yS si))) / 2))) else (0 : Int32))) i 2 (if (0 : Int32) < ((sgD ((C i) 7) (yS si)) - ((yX si) - (((sgH ((C i) 7) (yS si)) - (sgD ((C i) 7) (yS si))) / 2))) then ((sgD ((C i) 7) (yS si)) - ((yX si) - (((sgH ((C i) 7) (yS si)) - (sgD ((C i) 7) (yS si))) / 2))) else (0 : Int32))) CL := okB_m hokB i (sgW ((C i) 7) (yS si)) (if (0 : Int32) < ((sgH ((C i) 7) (yS si)) + ((yX si) - (((sgH ((C i) 7) (yS si)) - (sgD ((C i) 7) (yS si))) / 2))) then ((sgH ((C i) 7) (yS si)) + ((yX si) - (((sgH ((C i) 7) (yS si)) - (sgD ((C i) 7) (yS si))) / 2))) else (0 : Int32)) (if (0 : Int32) < ((sgD ((C i) 7) (yS si)) - ((yX si) - (((sgH ((C i) 7) (yS si)) - (sgD ((C i) 7) (yS si))) / 2))) then ((sgD ((C i) 7) (yS si)) - ((yX si) - (((sgH ((C i) 7) (yS si)) - (sgD ((C i) 7) (yS si))) / 2))) else (0 : Int32))
    exact fh_vret X hP hS (fh_d d_Ty_setOperator 49 rfl) ⟨rfl, by unfold sOper opY opS; simp only [if_neg hs0]; rfl, rfl⟩
