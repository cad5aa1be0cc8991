/-! Typesetter: what sets parts. Printed by wip/whole/gen/p87.py -/
/-- contracts of setNucleus and setLine for what they do -/
def cSN (l : Launch) (D : va_G) (ct : Nat → ClassId) (b : Nat) (RO : State → Prop) (kA aA yA : Nat → Nat) (n x : Nat) (g : fh_H) (nc lc : Int32) (tx : Value) (len at_ : Int32) (R RL : Nat → Nat → Option Nat) (ok : Nat → Prop) (r0 : Nat) (N : FN) : Prop := ∀ r, r0 ≤ r → ∀ t : TS, okT t → ∀ i si cr : Nat, i < 60 → ok i → si < 4 → cr ≤ 1 → fh_C l D fh_cl (fh_tys ct) b RO y_Ty_setNucleus (Cond.code y_Ty_setNucleus c_Ty_setNucleus 4 (Option.none : Option FieldType) :: fh_T) (fh_rm r 0 0) [.ref (x + 226), .ref (x + 4 + i), .ref (yA si), .int (nI cr)] (hz ct x kA aA g nc lc tx len at_ R RL t) n (fun v h' n' => v = none ∧ h' = hz ct x kA aA g nc lc tx len at_ R RL (N t i si cr) ∧ n' = n) 0 0
def cSL (l : Launch) (D : va_G) (ct : Nat → ClassId) (b : Nat) (RO : State → Prop) (kA aA yA : Nat → Nat) (n x : Nat) (g : fh_H) (nc lc : Int32) (tx : Value) (len at_ : Int32) (R RL : Nat → Nat → Option Nat) (ok : Nat → Prop) (r0 : Nat) (N : FN) : Prop := ∀ r, r0 ≤ r → ∀ t : TS, okT t → ∀ i si cr : Nat, i < 161 → ok i → si < 4 → cr ≤ 1 → fh_C l D fh_cl (fh_tys ct) b RO y_Ty_setLine (Cond.code y_Ty_setLine c_Ty_setLine 8 (Option.none : Option FieldType) :: fh_T) (fh_rm r 0 0) [.ref (x + 226), .ref (x + 65 + i), .ref (yA si), .int (nI cr)] (hz ct x kA aA g nc lc tx len at_ R RL t) n (fun v h' n' => v = none ∧ h' = hz ct x kA aA g nc lc tx len at_ R RL (N t i si cr) ∧ n' = n) 0 0
def bSN (K : Nat) (ok : Nat → Prop) (N : FN) : Prop := ∀ (t : TS) (i si cr : Nat), okT t → i < K → ok i → okT (N t i si cr)
theorem yPa_lt {i : Nat} : yPa i < 4 := by unfold yPa; split <;> (try split) <;> omega
theorem ySc_lt {i : Nat} : ySc i < 4 := by unfold ySc; split <;> omega
theorem yCe_lt {i : Nat} (h : i < 4) : yCe i < 4 := by unfold yCe; split <;> omega
set_option maxHeartbeats 4000000 in
set_option maxRecDepth 100000 in
theorem m_Ty_setGroup (l : Launch) (D : va_G) (ct : Nat → ClassId) (b : Nat) (RO : State → Prop) (hR : fh_R b RO) (sA sV : Nat → Nat) (hSt : ∀ U, RO U → ro_S b sA sV U) (kA aA yA : Nat → Nat) (tK tS tM : Nat) (hEn : ∀ U, RO U → ro_E b sA kA aA yA tK tS tM U) (hAd : ad_ok kA aA yA)  (n x : Nat) (g : fh_H) (c0 : Nat) (hc0 : c0 ≤ 120) (F W0 H0 D0 : Nat → Int32) (rows cols : Int32) (nc lc : Int32) (tx : Value) (len at_ : Int32) (C : Nat → Nat → Int32) (R : Nat → Nat → Option Nat) (CL : Nat → Nat → Int32) (RL : Nat → Nat → Option Nat) (hokB : okB C CL) (L1 : FN) (okL : Nat → Prop) (r0 : Nat) (hL1 : cSL l D ct b RO kA aA yA n x g nc lc tx len at_ R RL okL r0 L1) (hB1 : bSN 161 okL L1) (r : Nat) (hr : r0 + 1 ≤ r) (hr4 : 4 ≤ r) (i si : Nat) (hi : i < 60) (hsi : si < 4) (cr l0 : Nat) (hcr : cr ≤ 1) (hl0 : l0 < 161) (hol : okL l0) : fh_C l D fh_cl (fh_tys ct) b RO y_Ty_setGroup (Cond.code y_Ty_setGroup c_Ty_setGroup 5 (Option.none : Option FieldType) :: fh_T) (fh_rm r 0 0) [.ref (x + 226), .ref (x + 4 + i), .ref (x + 65 + l0), .ref (yA si), .int (nI cr)] (mkR x kA aA (mkG ct x g (nI c0) F W0 H0 D0 rows cols) nc lc tx len at_ C R CL RL) n (fun v h' n' => v = none ∧ h' = hz ct x kA aA g nc lc tx len at_ R RL (sGrp L1 i l0 si cr (c0, F, W0, H0, D0, rows, cols, C, CL)) ∧ n' = n) 0 0 := by
  refine fh_enter (by decide) (Nat.le_of_ble_eq_true rfl) [(0, .ref (x + 226)), (1, .ref (x + 4 + i)), (2, .ref (x + 65 + l0)), (3, .ref (yA si)), (4, .int (nI cr))] rfl ?_
  intro p e s m args below meth c H ls X hP hS hl
  have hx := X.1
  have hb := X.2.1
  have hml := X.2.2.1
  have hown : s.vm.findClass "FormulaSetter$Typesetter" = some m.cls := X.2.2.2.1
  have hT := X.2.2.2.2.1
  have hK := X.2.2.2.2.2.1
  have hRO := X.2.2.2.2.2.2.1
  have hnm : meth.name = "setGroup" := X.2.2.2.2.2.2.2.2.2.2
  refine lv_aload_n hx hb (fh_d d_Ty_setGroup 0 rfl) rfl (lv_at hl 2 rfl) ?_
  refine lv_ifnonnull (tgt := 5) hx hb (fh_d d_Ty_setGroup 1 rfl) rfl ?_
  refine lv_aload_n hx hb (fh_d d_Ty_setGroup 3 rfl) rfl (lv_at hl 0 rfl) ?_
  refine lv_aload_n hx hb (fh_d d_Ty_setGroup 4 rfl) rfl (lv_at hl 2 rfl) ?_
  refine lv_aload_n hx hb (fh_d d_Ty_setGroup 5 rfl) rfl (lv_at hl 3 rfl) ?_
  refine lv_iload hx hb (fh_d d_Ty_setGroup 6 rfl) (lv_at hl 4 rfl) ?_
  refine fh_callV (cc' := c_Ty_setLine) (nL' := 8) (rest := []) (a := x + 226) (As := [.ref (x + 65 + l0), .ref (yA si), .int (nI cr)]) X hR (hL1 (r - 1) (by omega) (c0, F, W0, H0, D0, rows, cols, C, CL) ⟨hc0, hokB⟩ l0 si cr (hl0) hol hsi hcr) w649 w646 w648 v17 w6 ⟨by decide, by decide, by show _ = some 3; decide +kernel⟩ (by omega) (by decide) (fh_recv hK hP ((mkR_g (by omega) (by omega) (by omega)).trans mkG_ts) rfl) hP hS hl.1 rfl (by exact Nat.le_of_ble_eq_true rfl) (fh_d d_Ty_setGroup 7 rfl) ⟨Nat.le_refl _, Nat.le_refl _⟩ (fun v9 h9 n9 H locs hq hP hS => ?_)
  obtain ⟨⟨c_2, F_2, W_2, H_2, D_2, ro_2, co_2, C_2, CL_2⟩, e_2⟩ : ∃ z, z = L1 (c0, F, W0, H0, D0, rows, cols, C, CL) l0 si cr := ⟨_, rfl⟩
  obtain ⟨rfl, q_2a, q_2b⟩ := hq
  rw [← e_2] at q_2a
  rw [q_2a, q_2b] at hP
  have o_2 : okT (c_2, F_2, W_2, H_2, D_2, ro_2, co_2, C_2, CL_2) := by rw [e_2]; exact hB1 _ _ _ _ ⟨hc0, hokB⟩ (hl0) hol
  have hc_2 : c_2 ≤ 120 := o_2.1
  have ob_2 : okB C_2 CL_2 := o_2.2
  replace hP : fh_P D fh_cl b (mkR x kA aA (mkG ct x g (nI c_2) F_2 W_2 H_2 D_2 ro_2 co_2) nc lc tx len at_ C_2 R CL_2 RL) n H := hP
  refine W.eq (g2 := F0 m 13 ls []) rfl ?_
  refine lv_aload_n hx hb (fh_d d_Ty_setGroup 8 rfl) rfl (lv_at hl 1 rfl) ?_
  refine lv_aload_n hx hb (fh_d d_Ty_setGroup 9 rfl) rfl (lv_at hl 2 rfl) ?_
  refine fh_get (own := "FormulaSetter$Typesetter") (ref := "FormulaSetter$Line") (C := "FormulaSetter$Line") (T := T_Li) (N := 9) (v := .int ((CL_2 l0) 0)) hx hb hT i_Li hown hK hP (mkR_li (hl0)) rfl 0 (by decide) (hT _ w86) (fun x9 h9 => u_same (hT _ w85) x9 h9) (rfl) (fh_d d_Ty_setGroup 10 rfl) ?_
  refine lv_aload_n hx hb (fh_d d_Ty_setGroup 11 rfl) rfl (lv_at hl 2 rfl) ?_
  refine fh_get (own := "FormulaSetter$Typesetter") (ref := "FormulaSetter$Line") (C := "FormulaSetter$Line") (T := T_Li) (N := 9) (v := .int ((CL_2 l0) 1)) hx hb hT i_Li hown hK hP (mkR_li (hl0)) rfl 1 (by decide) (hT _ w93) (fun x9 h9 => u_same (hT _ w92) x9 h9) (rfl) (fh_d d_Ty_setGroup 12 rfl) ?_
  refine lv_aload_n hx hb (fh_d d_Ty_setGroup 13 rfl) rfl (lv_at hl 2 rfl) ?_
  refine fh_get (own := "FormulaSetter$Typesetter") (ref := "FormulaSetter$Line") (C := "FormulaSetter$Line") (T := T_Li) (N := 9) (v := .int ((CL_2 l0) 2)) hx hb hT i_Li hown hK hP (mkR_li (hl0)) rfl 2 (by decide) (hT _ w100) (fun x9 h9 => u_same (hT _ w99) x9 h9) (rfl) (fh_d d_Ty_setGroup 14 rfl) ?_
  refine fh_callU (cc' := c_Bo_measure) (nL' := 4) (rest := []) (a := x + 4 + i) (As := [.int ((CL_2 l0) 0), .int ((CL_2 l0) 1), .int ((CL_2 l0) 2)]) (Ck := "FormulaSetter$Nucleus") (owner := "FormulaSetter$Box") (x' := ⟨"FormulaSetter$Nucleus", "measure", "(III)V"⟩) X hR (m_Bo_measureNu l D ct b RO (r - 1) n x kA aA g (nI c_2) F_2 W_2 H_2 D_2 ro_2 co_2 nc lc tx len at_ C_2 R CL_2 RL i (hi) ((CL_2 l0) 0) ((CL_2 l0) 1) ((CL_2 l0) 2)) w655 w691 w692 rfl w654 w693 w3 ⟨by decide, by decide, by show _ = some 3; decide +kernel⟩ (by omega) (by decide) (fh_recv hK hP (mkR_nu (hi)) rfl) hP hS hl.1 rfl (by exact Nat.le_of_ble_eq_true rfl) (fh_d d_Ty_setGroup 15 rfl) ⟨Nat.le_refl _, Nat.le_refl _⟩ (fun v9 h9 n9 H locs hq hP hS => ?_)
  obtain ⟨rfl, q3a, q3b⟩ := hq
  rw [q3a, q3b] at hP
  refine W.eq (g2 := F0 m 29 ls []) rfl ?_
  have f4 : (sT (sT (sT C_2 i 0 ((CL_2 l0) 0)) i 1 ((CL_2 l0) 1)) i 2 ((CL_2 l0) 2)) i 0 = (CL_2 l0) 0 := (sT_ne (by omega)).trans ((sT_ne (by omega)).trans sT_same)
  have f5 : (sT (sT (sT C_2 i 0 ((CL_2 l0) 0)) i 1 ((CL_2 l0) 1)) i 2 ((CL_2 l0) 2)) i 1 = (CL_2 l0) 1 := (sT_ne (by omega)).trans sT_same
  have f6 : (sT (sT (sT C_2 i 0 ((CL_2 l0) 0)) i 1 ((CL_2 l0) 1)) i 2 ((CL_2 l0) 2)) i 2 = (CL_2 l0) 2 := sT_same
  have y7 : okB (sT (sT (sT C_2 i 0 ((CL_2 l0) 0)) i 1 ((CL_2 l0) 1)) i 2 ((CL_2 l0) 2)) CL_2 := okB_m ob_2 i ((CL_2 l0) 0) ((CL_2 l0) 1) ((CL_2 l0) 2)
  refine fh_vret X hP hS (fh_d d_Ty_setGroup 16 rfl) ⟨rfl, ?_, rfl⟩
  · unfold sGrp; (try dsimp only); rw [← e_2]; dsimp only; rfl

set_option maxHeartbeats 4000000 in
set_option maxRecDepth 100000 in
theorem m_Ty_setFraction (l : Launch) (D : va_G) (ct : Nat → ClassId) (b : Nat) (RO : State → Prop) (hR : fh_R b RO) (sA sV : Nat → Nat) (hSt : ∀ U, RO U → ro_S b sA sV U) (kA aA yA : Nat → Nat) (tK tS tM : Nat) (hEn : ∀ U, RO U → ro_E b sA kA aA yA tK tS tM U) (hAd : ad_ok kA aA yA)  (n x : Nat) (g : fh_H) (c0 : Nat) (hc0 : c0 ≤ 120) (F W0 H0 D0 : Nat → Int32) (rows cols : Int32) (nc lc : Int32) (tx : Value) (len at_ : Int32) (C : Nat → Nat → Int32) (R : Nat → Nat → Option Nat) (CL : Nat → Nat → Int32) (RL : Nat → Nat → Option Nat) (hokB : okB C CL) (N1 : FN) (okN : Nat → Prop) (r0 : Nat) (hN1 : cSN l D ct b RO kA aA yA n x g nc lc tx len at_ R RL okN r0 N1) (hB1 : bSN 60 okN N1) (r : Nat) (hr : r0 + 1 ≤ r) (hr4 : 4 ≤ r) (i si : Nat) (hi : i < 60) (hsi : si < 4) (cr a b2 : Nat) (hcr : cr ≤ 1) (ha : a < 60) (hb2 : b2 < 60) (hoa : okN a) (hob : okN b2) : fh_C l D fh_cl (fh_tys ct) b RO y_Ty_setFraction (Cond.code y_Ty_setFraction c_Ty_setFraction 15 (Option.none : Option FieldType) :: fh_T) (fh_rm r 0 0) [.ref (x + 226), .ref (x + 4 + i), .ref (x + 4 + a), .ref (x + 4 + b2), .ref (yA si), .int (nI cr)] (mkR x kA aA (mkG ct x g (nI c0) F W0 H0 D0 rows cols) nc lc tx len at_ C R CL RL) n (fun v h' n' => v = none ∧ h' = hz ct x kA aA g nc lc tx len at_ R RL (sFrac N1 i a b2 si cr (c0, F, W0, H0, D0, rows, cols, C, CL)) ∧ n' = n) 0 0 := by
  refine fh_enter (by decide) (Nat.le_of_ble_eq_true rfl) [(0, .ref (x + 226)), (1, .ref (x + 4 + i)), (2, .ref (x + 4 + a)), (3, .ref (x + 4 + b2)), (4, .ref (yA si)), (5, .int (nI cr))] rfl ?_
  intro p e s m args below meth c H ls X hP hS hl
  have hx := X.1
  have hb := X.2.1
  have hml := X.2.2.1
  have hown : s.vm.findClass "FormulaSetter$Typesetter" = some m.cls := X.2.2.2.1
  have hT := X.2.2.2.2.1
  have hK := X.2.2.2.2.2.1
  have hRO := X.2.2.2.2.2.2.1
  have hnm : meth.name = "setFraction" := X.2.2.2.2.2.2.2.2.2.2
  by_cases hs0 : si = 0
  · subst hs0
    refine lv_aload_n hx hb (fh_d d_Ty_setFraction 0 rfl) rfl (lv_at hl 2 rfl) ?_
    refine lv_ifnull hx hb (fh_d d_Ty_setFraction 1 rfl) ?_
    refine lv_aload_n hx hb (fh_d d_Ty_setFraction 2 rfl) rfl (lv_at hl 3 rfl) ?_
    refine lv_ifnonnull (tgt := 9) hx hb (fh_d d_Ty_setFraction 3 rfl) rfl ?_
    refine lv_aload_n hx hb (fh_d d_Ty_setFraction 5 rfl) rfl (lv_at hl 0 rfl) ?_
    refine lv_aload_n hx hb (fh_d d_Ty_setFraction 6 rfl) rfl (lv_at hl 2 rfl) ?_
    refine lv_aload hx hb (fh_d d_Ty_setFraction 7 rfl) (lv_at hl 4 rfl) ?_
    refine fh_callV (cc' := c_Sy_forParts) (nL' := 1) (rest := [.ref (x + 4 + a), .ref (x + 226)]) (a := yA 0) (As := []) X hR (m_Sy_forParts l D ct b RO sA sV hSt kA aA yA tK tS tM hEn hAd (r - 1) n 0 (by decide) (mkR x kA aA (mkG ct x g (nI c0) F W0 H0 D0 rows cols) nc lc tx len at_ C R CL RL)) w712 w709 w710 w711 w24 ⟨by decide, by decide, by show _ = some 0; decide +kernel⟩ (by omega) (by decide) (fs_recv ((hEn _ hRO).2.2.1 0 (by decide)).2.1 hS) hP hS hl.1 rfl (by exact Nat.le_of_ble_eq_true rfl) (fh_d d_Ty_setFraction 8 rfl) ⟨Nat.le_refl _, Nat.le_refl _⟩ (fun v9 h9 n9 H locs hq hP hS => ?_)
    obtain ⟨rfl, q3a, q3b⟩ := hq
    rw [q3a, q3b] at hP
    refine W.eq (g2 := F0 m 16 ls [.ref (yA (yPa 0)), .ref (x + 4 + a), .ref (x + 226)]) rfl ?_
    refine lv_iload hx hb (fh_d d_Ty_setFraction 9 rfl) (lv_at hl 5 rfl) ?_
    refine fh_callV (cc' := c_Ty_setNucleus) (nL' := 4) (rest := []) (a := x + 226) (As := [.ref (x + 4 + a), .ref (yA (yPa 0)), .int (nI cr)]) X hR (hN1 (r - 1) (by omega) (c0, F, W0, H0, D0, rows, cols, C, CL) ⟨hc0, hokB⟩ a (yPa 0) cr (ha) hoa yPa_lt hcr) w663 w660 w662 v19 w6 ⟨by decide, by decide, by show _ = some 3; decide +kernel⟩ (by omega) (by decide) (fh_recv hK hP ((mkR_g (by omega) (by omega) (by omega)).trans mkG_ts) rfl) hP hS hl.1 rfl (by exact Nat.le_of_ble_eq_true rfl) (fh_d d_Ty_setFraction 10 rfl) ⟨Nat.le_refl _, Nat.le_refl _⟩ (fun v9 h9 n9 H locs hq hP hS => ?_)
    obtain ⟨⟨c_4, F_4, W_4, H_4, D_4, ro_4, co_4, C_4, CL_4⟩, e_4⟩ : ∃ z, z = N1 (c0, F, W0, H0, D0, rows, cols, C, CL) a (yPa 0) cr := ⟨_, rfl⟩
    obtain ⟨rfl, q_4a, q_4b⟩ := hq
    rw [← e_4] at q_4a
    rw [q_4a, q_4b] at hP
    have o_4 : okT (c_4, F_4, W_4, H_4, D_4, ro_4, co_4, C_4, CL_4) := by rw [e_4]; exact hB1 _ _ _ _ ⟨hc0, hokB⟩ (ha) hoa
    have hc_4 : c_4 ≤ 120 := o_4.1
    have ob_4 : okB C_4 CL_4 := o_4.2
    replace hP : fh_P D fh_cl b (mkR x kA aA (mkG ct x g (nI c_4) F_4 W_4 H_4 D_4 ro_4 co_4) nc lc tx len at_ C_4 R CL_4 RL) n H := hP
    refine W.eq (g2 := F0 m 21 ls []) rfl ?_
    refine lv_aload_n hx hb (fh_d d_Ty_setFraction 11 rfl) rfl (lv_at hl 0 rfl) ?_
    refine fh_get (own := "FormulaSetter$Typesetter") (ref := "FormulaSetter$Typesetter") (C := "FormulaSetter$Typesetter") (T := T_Ty) (N := 2) (v := .ref (x + 227)) hx hb hT i_Ty hown hK hP ((mkR_g (by omega) (by omega) (by omega)).trans mkG_ts) rfl 0 (by decide) (hT _ w247) (fun _ h9 => h9) rfl (fh_d d_Ty_setFraction 12 rfl) ?_
    refine fh_callV (cc' := c_Sh_reserve) (nL' := 2) (rest := []) (a := x + 227) (As := []) X hR (m_Sh_reserve l D ct b RO (r - 1) n x kA aA g c_4 hc_4 F_4 W_4 H_4 D_4 ro_4 co_4 nc lc tx len at_ C_4 R CL_4 RL) w677 w674 w675 w676 w7 ⟨by decide, by decide, by show _ = some 0; decide +kernel⟩ (by omega) (by decide) (fh_recv hK hP ((mkR_g (by omega) (by omega) (by omega)).trans mkG_sh) rfl) hP hS hl.1 rfl (by exact Nat.le_of_ble_eq_true rfl) (fh_d d_Ty_setFraction 13 rfl) ⟨Nat.le_refl _, Nat.le_refl _⟩ (fun v9 h9 n9 H locs hq hP hS => ?_)
    obtain ⟨rfl, q5a, q5b⟩ := hq
    rw [q5a, q5b] at hP
    have y6 : rsv c_4 ≤ 120 := rsv_le hc_4
    replace hP : fh_P D fh_cl b (mkR x kA aA (mkG ct x g (nI (rsv c_4)) F_4 W_4 H_4 D_4 ro_4 co_4) nc lc tx len at_ C_4 R CL_4 RL) n H := hP
    refine W.eq (g2 := F0 m 28 ls [.int (nI c_4)]) rfl ?_
    refine lv_istore (lv' := [(6, .int (nI c_4)), (0, .ref (x + 226)), (1, .ref (x + 4 + i)), (2, .ref (x + 4 + a)), (3, .ref (x + 4 + b2)), (4, .ref (yA 0)), (5, .int (nI cr))]) hx hb (fh_d d_Ty_setFraction 14 rfl) hl (by decide) rfl (fun ls hl => ?_)
    refine lv_aload_n hx hb (fh_d d_Ty_setFraction 15 rfl) rfl (lv_at hl 1 rfl) ?_
    refine lv_aload_n hx hb (fh_d d_Ty_setFraction 16 rfl) rfl (lv_at hl 4 rfl) ?_
    refine lv_aload hx hb (fh_d d_Ty_setFraction 17 rfl) (lv_at hl 5 rfl) ?_
    refine fh_callV (cc' := c_Sy_forParts) (nL' := 1) (rest := [.ref (x + 4 + b2), .ref (x + 226)]) (a := yA 0) (As := []) X hR (m_Sy_forParts l D ct b RO sA sV hSt kA aA yA tK tS tM hEn hAd (r - 1) n 0 (by decide) (mkR x kA aA (mkG ct x g (nI (rsv c_4)) F_4 W_4 H_4 D_4 ro_4 co_4) nc lc tx len at_ C_4 R CL_4 RL)) w712 w709 w710 w711 w24 ⟨by decide, by decide, by show _ = some 0; decide +kernel⟩ (by omega) (by decide) (fs_recv ((hEn _ hRO).2.2.1 0 (by decide)).2.1 hS) hP hS hl.1 rfl (by exact Nat.le_of_ble_eq_true rfl) (fh_d d_Ty_setFraction 18 rfl) ⟨Nat.le_refl _, Nat.le_refl _⟩ (fun v9 h9 n9 H locs hq hP hS => ?_)
    obtain ⟨rfl, q7a, q7b⟩ := hq
    rw [q7a, q7b] at hP
    refine W.eq (g2 := F0 m 37 ls [.ref (yA (yPa 0)), .ref (x + 4 + b2), .ref (x + 226)]) rfl ?_
    refine lv_iconst (v := 1) hx hb (fh_d d_Ty_setFraction 19 rfl) (by decide) ?_
    refine W.eq (g2 := F0 m 38 ls [.int (nI 1), .ref (yA (yPa 0)), .ref (x + 4 + b2), .ref (x + 226)]) rfl ?_
    refine fh_callV (cc' := c_Ty_setNucleus) (nL' := 4) (rest := []) (a := x + 226) (As := [.ref (x + 4 + b2), .ref (yA (yPa 0)), .int (nI 1)]) X hR (hN1 (r - 1) (by omega) (rsv c_4, F_4, W_4, H_4, D_4, ro_4, co_4, C_4, CL_4) ⟨y6, ob_4⟩ b2 (yPa 0) 1 (hb2) hob yPa_lt (by omega)) w663 w660 w662 v19 w6 ⟨by decide, by decide, by show _ = some 3; decide +kernel⟩ (by omega) (by decide) (fh_recv hK hP ((mkR_g (by omega) (by omega) (by omega)).trans mkG_ts) rfl) hP hS hl.1 rfl (by exact Nat.le_of_ble_eq_true rfl) (fh_d d_Ty_setFraction 20 rfl) ⟨Nat.le_refl _, Nat.le_refl _⟩ (fun v9 h9 n9 H locs hq hP hS => ?_)
    obtain ⟨⟨c_8, F_8, W_8, H_8, D_8, ro_8, co_8, C_8, CL_8⟩, e_8⟩ : ∃ z, z = N1 (rsv c_4, F_4, W_4, H_4, D_4, ro_4, co_4, C_4, CL_4) b2 (yPa 0) 1 := ⟨_, rfl⟩
    obtain ⟨rfl, q_8a, q_8b⟩ := hq
    rw [← e_8] at q_8a
    rw [q_8a, q_8b] at hP
    have o_8 : okT (c_8, F_8, W_8, H_8, D_8, ro_8, co_8, C_8, CL_8) := by rw [e_8]; exact hB1 _ _ _ _ ⟨y6, ob_4⟩ (hb2) hob
    have hc_8 : c_8 ≤ 120 := o_8.1
    have ob_8 : okB C_8 CL_8 := o_8.2
    replace hP : fh_P D fh_cl b (mkR x kA aA (mkG ct x g (nI c_8) F_8 W_8 H_8 D_8 ro_8 co_8) nc lc tx len at_ C_8 R CL_8 RL) n H := hP
    refine W.eq (g2 := F0 m 41 ls []) rfl ?_
    refine lv_aload hx hb (fh_d d_Ty_setFraction 21 rfl) (lv_at hl 5 rfl) ?_
    refine va_gets (own := "FormulaSetter$Typesetter") (ref := "FormulaSetter$Style") (n := "DISPLAY") hx hb ((hEn _ hRO).2.2.1 0 (by decide)).1 hS hown (hT _ w702) (fun _ h9 => h9) (fh_d d_Ty_setFraction 22 rfl) ?_
    refine lv_acmp_ne (rx := some (yA 0)) (ry := some (yA 0)) (tgt := 53) hx hb (fh_d d_Ty_setFraction 23 rfl) rfl (fun c9 => absurd c9 (Classical.not_not.mpr rfl)) (fun c9 => ?_)
    refine lv_iconst (v := 1) hx hb (fh_d d_Ty_setFraction 24 rfl) (by decide) ?_
    refine lv_goto (tgt := 54) hx hb (fh_d d_Ty_setFraction 25 rfl) rfl ?_
    refine lv_istore (lv' := [(7, .int 1), (6, .int (nI c_4)), (0, .ref (x + 226)), (1, .ref (x + 4 + i)), (2, .ref (x + 4 + a)), (3, .ref (x + 4 + b2)), (4, .ref (yA 0)), (5, .int (nI cr))]) hx hb (fh_d d_Ty_setFraction 27 rfl) hl (by decide) rfl (fun ls hl => ?_)
    refine lv_aload hx hb (fh_d d_Ty_setFraction 28 rfl) (lv_at hl 6 rfl) ?_
    refine vk_getf (own := "FormulaSetter$Typesetter") (ref := "FormulaSetter$Style") hx hb (((hEn _ hRO).2.2.1 0 (by decide)).2.2.2.2.1) hS hown (hT _ w1251) (fun _ h9 => h9) (fh_d d_Ty_setFraction 29 rfl) ?_
    refine lv_istore (lv' := [(8, .int (yT 0)), (7, .int 1), (6, .int (nI c_4)), (0, .ref (x + 226)), (1, .ref (x + 4 + i)), (2, .ref (x + 4 + a)), (3, .ref (x + 4 + b2)), (4, .ref (yA 0)), (5, .int (nI cr))]) hx hb (fh_d d_Ty_setFraction 30 rfl) hl (by decide) rfl (fun ls hl => ?_)
    refine lv_aload hx hb (fh_d d_Ty_setFraction 31 rfl) (lv_at hl 7 rfl) ?_
    refine vk_getf (own := "FormulaSetter$Typesetter") (ref := "FormulaSetter$Style") hx hb (((hEn _ hRO).2.2.1 0 (by decide)).2.2.2.2.2) hS hown (hT _ w1250) (fun _ h9 => h9) (fh_d d_Ty_setFraction 32 rfl) ?_
    refine lv_iload hx hb (fh_d d_Ty_setFraction 33 rfl) (lv_at hl 0 rfl) ?_
    refine lv_iconst (v := 2) hx hb (fh_d d_Ty_setFraction 34 rfl) (by decide) ?_
    refine lv_idiv hx hb (fh_d d_Ty_setFraction 35 rfl) (by decide) ?_
    refine lv_isub hx hb (fh_d d_Ty_setFraction 36 rfl) ?_
    refine lv_istore (lv' := [(9, .int ((yX 0) - ((yT 0) / 2))), (8, .int (yT 0)), (7, .int 1), (6, .int (nI c_4)), (0, .ref (x + 226)), (1, .ref (x + 4 + i)), (2, .ref (x + 4 + a)), (3, .ref (x + 4 + b2)), (4, .ref (yA 0)), (5, .int (nI cr))]) hx hb (fh_d d_Ty_setFraction 37 rfl) hl (by decide) rfl (fun ls hl => ?_)
    refine lv_iload hx hb (fh_d d_Ty_setFraction 38 rfl) (lv_at hl 2 rfl) ?_
    refine lv_if_eq (tgt := 87) hx hb (fh_d d_Ty_setFraction 39 rfl) rfl (fun c10 => absurd c10 (by decide)) (fun c10 => ?_)
    refine lv_iconst (v := 3) hx hb (fh_d d_Ty_setFraction 40 rfl) (by decide) ?_
    refine lv_iload hx hb (fh_d d_Ty_setFraction 41 rfl) (lv_at hl 1 rfl) ?_
    refine lv_imul hx hb (fh_d d_Ty_setFraction 42 rfl) ?_
    refine lv_goto (tgt := 89) hx hb (fh_d d_Ty_setFraction 43 rfl) rfl ?_
    refine lv_istore (lv' := [(10, .int (3 * (yT 0))), (9, .int ((yX 0) - ((yT 0) / 2))), (8, .int (yT 0)), (7, .int 1), (6, .int (nI c_4)), (0, .ref (x + 226)), (1, .ref (x + 4 + i)), (2, .ref (x + 4 + a)), (3, .ref (x + 4 + b2)), (4, .ref (yA 0)), (5, .int (nI cr))]) hx hb (fh_d d_Ty_setFraction 45 rfl) hl (by decide) rfl (fun ls hl => ?_)
    refine lv_iload hx hb (fh_d d_Ty_setFraction 46 rfl) (lv_at hl 3 rfl) ?_
    refine lv_if_eq (tgt := 101) hx hb (fh_d d_Ty_setFraction 47 rfl) rfl (fun c11 => absurd c11 (by decide)) (fun c11 => ?_)
    refine lv_bipush (v := 7) hx hb (fh_d d_Ty_setFraction 48 rfl) (by decide) ?_
    refine lv_goto (tgt := 102) hx hb (fh_d d_Ty_setFraction 49 rfl) rfl ?_
    refine lv_aload hx hb (fh_d d_Ty_setFraction 51 rfl) (lv_at hl 9 rfl) ?_
    refine vk_getf (own := "FormulaSetter$Typesetter") (ref := "FormulaSetter$Style") hx hb (((hEn _ hRO).2.2.1 0 (by decide)).2.2.2.1) hS hown (hT _ w1249) (fun _ h9 => h9) (fh_d d_Ty_setFraction 52 rfl) ?_
    refine lv_imul hx hb (fh_d d_Ty_setFraction 53 rfl) ?_
    refine lv_istore (lv' := [(11, .int (7 * (yS 0))), (10, .int (3 * (yT 0))), (9, .int ((yX 0) - ((yT 0) / 2))), (8, .int (yT 0)), (7, .int 1), (6, .int (nI c_4)), (0, .ref (x + 226)), (1, .ref (x + 4 + i)), (2, .ref (x + 4 + a)), (3, .ref (x + 4 + b2)), (4, .ref (yA 0)), (5, .int (nI cr))]) hx hb (fh_d d_Ty_setFraction 54 rfl) hl (by decide) rfl (fun ls hl => ?_)
    refine lv_iload hx hb (fh_d d_Ty_setFraction 55 rfl) (lv_at hl 0 rfl) ?_
    refine lv_iload hx hb (fh_d d_Ty_setFraction 56 rfl) (lv_at hl 2 rfl) ?_
    refine lv_iload hx hb (fh_d d_Ty_setFraction 57 rfl) (lv_at hl 3 rfl) ?_
    refine lv_iadd hx hb (fh_d d_Ty_setFraction 58 rfl) ?_
    refine lv_iload hx hb (fh_d d_Ty_setFraction 59 rfl) (lv_at hl 1 rfl) ?_
    refine lv_iadd hx hb (fh_d d_Ty_setFraction 60 rfl) ?_
    refine lv_aload_n hx hb (fh_d d_Ty_setFraction 61 rfl) rfl (lv_at hl 8 rfl) ?_
    refine fh_get (own := "FormulaSetter$Typesetter") (ref := "FormulaSetter$Nucleus") (C := "FormulaSetter$Nucleus") (T := T_Nu) (N := 15) (v := .int ((C_8 a) 2)) hx hb hT i_Nu hown hK hP (mkR_nu (ha)) rfl 2 (by decide) (hT _ w101) (fun x9 h9 => u_same (hT _ w102) x9 h9) (rfl) (fh_d d_Ty_setFraction 62 rfl) ?_
    refine lv_iadd hx hb (fh_d d_Ty_setFraction 63 rfl) ?_
    refine va_mmax hx hb (hml.trans hl.1.symm) hown (hT _ w704) (hT _ w431) (hT _ w14) (hT _ w432) (by show 1 ≤ r; omega) (by show _ ≤ 60 * r; simp [Value.category]; omega) (Nat.le_refl _) (Nat.le_refl _) (fh_d d_Ty_setFraction 64 rfl) ?_
    refine lv_istore (lv' := [(12, .int (if (7 * (yS 0)) < (((((yX 0) - ((yT 0) / 2)) + (yT 0)) + (3 * (yT 0))) + ((C_8 a) 2)) then (((((yX 0) - ((yT 0) / 2)) + (yT 0)) + (3 * (yT 0))) + ((C_8 a) 2)) else (7 * (yS 0)))), (11, .int (7 * (yS 0))), (10, .int (3 * (yT 0))), (9, .int ((yX 0) - ((yT 0) / 2))), (8, .int (yT 0)), (7, .int 1), (6, .int (nI c_4)), (0, .ref (x + 226)), (1, .ref (x + 4 + i)), (2, .ref (x + 4 + a)), (3, .ref (x + 4 + b2)), (4, .ref (yA 0)), (5, .int (nI cr))]) hx hb (fh_d d_Ty_setFraction 65 rfl) hl (by decide) rfl (fun ls hl => ?_)
    refine lv_iload hx hb (fh_d d_Ty_setFraction 66 rfl) (lv_at hl 1 rfl) ?_
    refine lv_aload_n hx hb (fh_d d_Ty_setFraction 67 rfl) rfl (lv_at hl 10 rfl) ?_
    refine fh_get (own := "FormulaSetter$Typesetter") (ref := "FormulaSetter$Nucleus") (C := "FormulaSetter$Nucleus") (T := T_Nu) (N := 15) (v := .int ((C_8 b2) 1)) hx hb hT i_Nu hown hK hP (mkR_nu (hb2)) rfl 1 (by decide) (hT _ w94) (fun x9 h9 => u_same (hT _ w95) x9 h9) (rfl) (fh_d d_Ty_setFraction 68 rfl) ?_
    refine lv_iload hx hb (fh_d d_Ty_setFraction 69 rfl) (lv_at hl 2 rfl) ?_
    refine lv_iadd hx hb (fh_d d_Ty_setFraction 70 rfl) ?_
    refine lv_iload hx hb (fh_d d_Ty_setFraction 71 rfl) (lv_at hl 3 rfl) ?_
    refine lv_isub hx hb (fh_d d_Ty_setFraction 72 rfl) ?_
    refine va_mmax hx hb (hml.trans hl.1.symm) hown (hT _ w704) (hT _ w431) (hT _ w14) (hT _ w432) (by show 1 ≤ r; omega) (by show _ ≤ 60 * r; simp [Value.category]; omega) (Nat.le_refl _) (Nat.le_refl _) (fh_d d_Ty_setFraction 73 rfl) ?_
    refine lv_istore (lv' := [(13, .int (if (7 * (yS 0)) < ((((C_8 b2) 1) + (3 * (yT 0))) - ((yX 0) - ((yT 0) / 2))) then ((((C_8 b2) 1) + (3 * (yT 0))) - ((yX 0) - ((yT 0) / 2))) else (7 * (yS 0)))), (12, .int (if (7 * (yS 0)) < (((((yX 0) - ((yT 0) / 2)) + (yT 0)) + (3 * (yT 0))) + ((C_8 a) 2)) then (((((yX 0) - ((yT 0) / 2)) + (yT 0)) + (3 * (yT 0))) + ((C_8 a) 2)) else (7 * (yS 0)))), (11, .int (7 * (yS 0))), (10, .int (3 * (yT 0))), (9, .int ((yX 0) - ((yT 0) / 2))), (8, .int (yT 0)), (7, .int 1), (6, .int (nI c_4)), (0, .ref (x + 226)), (1, .ref (x + 4 + i)), (2, .ref (x + 4 + a)), (3, .ref (x + 4 + b2)), (4, .ref (yA 0)), (5, .int (nI cr))]) hx hb (fh_d d_Ty_setFraction 74 rfl) hl (by decide) rfl (fun ls hl => ?_)
    refine lv_iconst (v := 2) hx hb (fh_d d_Ty_setFraction 75 rfl) (by decide) ?_
    refine lv_iload hx hb (fh_d d_Ty_setFraction 76 rfl) (lv_at hl 5 rfl) ?_
    refine lv_imul hx hb (fh_d d_Ty_setFraction 77 rfl) ?_
    refine lv_aload_n hx hb (fh_d d_Ty_setFraction 78 rfl) rfl (lv_at hl 10 rfl) ?_
    refine fh_get (own := "FormulaSetter$Typesetter") (ref := "FormulaSetter$Nucleus") (C := "FormulaSetter$Nucleus") (T := T_Nu) (N := 15) (v := .int ((C_8 a) 0)) hx hb hT i_Nu hown hK hP (mkR_nu (ha)) rfl 0 (by decide) (hT _ w87) (fun x9 h9 => u_same (hT _ w88) x9 h9) (rfl) (fh_d d_Ty_setFraction 79 rfl) ?_
    refine lv_aload_n hx hb (fh_d d_Ty_setFraction 80 rfl) rfl (lv_at hl 11 rfl) ?_
    refine fh_get (own := "FormulaSetter$Typesetter") (ref := "FormulaSetter$Nucleus") (C := "FormulaSetter$Nucleus") (T := T_Nu) (N := 15) (v := .int ((C_8 b2) 0)) hx hb hT i_Nu hown hK hP (mkR_nu (hb2)) rfl 0 (by decide) (hT _ w87) (fun x9 h9 => u_same (hT _ w88) x9 h9) (rfl) (fh_d d_Ty_setFraction 81 rfl) ?_
    refine va_mmax hx hb (hml.trans hl.1.symm) hown (hT _ w704) (hT _ w431) (hT _ w14) (hT _ w432) (by show 1 ≤ r; omega) (by show _ ≤ 60 * r; simp [Value.category]; omega) (Nat.le_refl _) (Nat.le_refl _) (fh_d d_Ty_setFraction 82 rfl) ?_
    refine lv_iadd hx hb (fh_d d_Ty_setFraction 83 rfl) ?_
    refine lv_istore (lv' := [(14, .int ((2 * (yT 0)) + (if ((C_8 a) 0) < ((C_8 b2) 0) then ((C_8 b2) 0) else ((C_8 a) 0)))), (13, .int (if (7 * (yS 0)) < ((((C_8 b2) 1) + (3 * (yT 0))) - ((yX 0) - ((yT 0) / 2))) then ((((C_8 b2) 1) + (3 * (yT 0))) - ((yX 0) - ((yT 0) / 2))) else (7 * (yS 0)))), (12, .int (if (7 * (yS 0)) < (((((yX 0) - ((yT 0) / 2)) + (yT 0)) + (3 * (yT 0))) + ((C_8 a) 2)) then (((((yX 0) - ((yT 0) / 2)) + (yT 0)) + (3 * (yT 0))) + ((C_8 a) 2)) else (7 * (yS 0)))), (11, .int (7 * (yS 0))), (10, .int (3 * (yT 0))), (9, .int ((yX 0) - ((yT 0) / 2))), (8, .int (yT 0)), (7, .int 1), (6, .int (nI c_4)), (0, .ref (x + 226)), (1, .ref (x + 4 + i)), (2, .ref (x + 4 + a)), (3, .ref (x + 4 + b2)), (4, .ref (yA 0)), (5, .int (nI cr))]) hx hb (fh_d d_Ty_setFraction 84 rfl) hl (by decide) rfl (fun ls hl => ?_)
    refine lv_aload_n hx hb (fh_d d_Ty_setFraction 85 rfl) rfl (lv_at hl 9 rfl) ?_
    refine fh_get (own := "FormulaSetter$Typesetter") (ref := "FormulaSetter$Typesetter") (C := "FormulaSetter$Typesetter") (T := T_Ty) (N := 2) (v := .ref (x + 227)) hx hb hT i_Ty hown hK hP ((mkR_g (by omega) (by omega) (by omega)).trans mkG_ts) rfl 0 (by decide) (hT _ w247) (fun _ h9 => h9) rfl (fh_d d_Ty_setFraction 86 rfl) ?_
    refine lv_aload_n hx hb (fh_d d_Ty_setFraction 87 rfl) rfl (lv_at hl 11 rfl) ?_
    refine lv_iload hx hb (fh_d d_Ty_setFraction 88 rfl) (lv_at hl 0 rfl) ?_
    refine lv_aload_n hx hb (fh_d d_Ty_setFraction 89 rfl) rfl (lv_at hl 11 rfl) ?_
    refine fh_get (own := "FormulaSetter$Typesetter") (ref := "FormulaSetter$Nucleus") (C := "FormulaSetter$Nucleus") (T := T_Nu) (N := 15) (v := .int ((C_8 a) 0)) hx hb hT i_Nu hown hK hP (mkR_nu (ha)) rfl 0 (by decide) (hT _ w87) (fun x9 h9 => u_same (hT _ w88) x9 h9) (rfl) (fh_d d_Ty_setFraction 90 rfl) ?_
    refine lv_isub hx hb (fh_d d_Ty_setFraction 91 rfl) ?_
    refine lv_iconst (v := 2) hx hb (fh_d d_Ty_setFraction 92 rfl) (by decide) ?_
    refine lv_idiv hx hb (fh_d d_Ty_setFraction 93 rfl) (by decide) ?_
    refine lv_iload hx hb (fh_d d_Ty_setFraction 94 rfl) (lv_at hl 2 rfl) ?_
    refine fh_callV (cc' := c_Sh_move) (nL' := 5) (rest := []) (a := x + 227) (As := [.ref (x + 4 + a), .int ((((2 * (yT 0)) + (if ((C_8 a) 0) < ((C_8 b2) 0) then ((C_8 b2) 0) else ((C_8 a) 0))) - ((C_8 a) 0)) / 2), .int (if (7 * (yS 0)) < (((((yX 0) - ((yT 0) / 2)) + (yT 0)) + (3 * (yT 0))) + ((C_8 a) 2)) then (((((yX 0) - ((yT 0) / 2)) + (yT 0)) + (3 * (yT 0))) + ((C_8 a) 2)) else (7 * (yS 0)))]) X hR (m_Sh_mvNu l D ct b RO (r - 1) (by omega) n x kA aA g (nI c_8) F_8 W_8 H_8 D_8 ro_8 co_8 nc lc tx len at_ C_8 R CL_8 RL a (ha) (ob_8.1 a (ha)).1 (ob_8.1 a (ha)).2 ((((2 * (yT 0)) + (if ((C_8 a) 0) < ((C_8 b2) 0) then ((C_8 b2) 0) else ((C_8 a) 0))) - ((C_8 a) 0)) / 2) (if (7 * (yS 0)) < (((((yX 0) - ((yT 0) / 2)) + (yT 0)) + (3 * (yT 0))) + ((C_8 a) 2)) then (((((yX 0) - ((yT 0) / 2)) + (yT 0)) + (3 * (yT 0))) + ((C_8 a) 2)) else (7 * (yS 0)))) w723 w720 w721 w722 w7 ⟨by decide, by decide, by show _ = some 3; decide +kernel⟩ (by omega) (by decide) (fh_recv hK hP ((mkR_g (by omega) (by omega) (by omega)).trans mkG_sh) rfl) hP hS hl.1 rfl (by exact Nat.le_of_ble_eq_true rfl) (fh_d d_Ty_setFraction 95 rfl) ⟨Nat.le_refl _, Nat.le_refl _⟩ (fun v9 h9 n9 H locs hq hP hS => ?_)
    obtain ⟨rfl, q12a, q12b⟩ := hq
    rw [q12a, q12b] at hP
    refine W.eq (g2 := F0 m 184 ls []) rfl ?_
    refine lv_aload_n hx hb (fh_d d_Ty_setFraction 96 rfl) rfl (lv_at hl 9 rfl) ?_
    refine fh_get (own := "FormulaSetter$Typesetter") (ref := "FormulaSetter$Typesetter") (C := "FormulaSetter$Typesetter") (T := T_Ty) (N := 2) (v := .ref (x + 227)) hx hb hT i_Ty hown hK hP ((mkR_g (by omega) (by omega) (by omega)).trans mkG_ts) rfl 0 (by decide) (hT _ w247) (fun _ h9 => h9) rfl (fh_d d_Ty_setFraction 97 rfl) ?_
    refine lv_aload_n hx hb (fh_d d_Ty_setFraction 98 rfl) rfl (lv_at hl 12 rfl) ?_
    refine lv_iload hx hb (fh_d d_Ty_setFraction 99 rfl) (lv_at hl 0 rfl) ?_
    refine lv_aload_n hx hb (fh_d d_Ty_setFraction 100 rfl) rfl (lv_at hl 12 rfl) ?_
    refine fh_get (own := "FormulaSetter$Typesetter") (ref := "FormulaSetter$Nucleus") (C := "FormulaSetter$Nucleus") (T := T_Nu) (N := 15) (v := .int ((C_8 b2) 0)) hx hb hT i_Nu hown hK hP (mkR_nu (hb2)) rfl 0 (by decide) (hT _ w87) (fun x9 h9 => u_same (hT _ w88) x9 h9) (rfl) (fh_d d_Ty_setFraction 101 rfl) ?_
    refine lv_isub hx hb (fh_d d_Ty_setFraction 102 rfl) ?_
    refine lv_iconst (v := 2) hx hb (fh_d d_Ty_setFraction 103 rfl) (by decide) ?_
    refine lv_idiv hx hb (fh_d d_Ty_setFraction 104 rfl) (by decide) ?_
    refine lv_iload hx hb (fh_d d_Ty_setFraction 105 rfl) (lv_at hl 1 rfl) ?_
    refine lv_ineg hx hb (fh_d d_Ty_setFraction 106 rfl) ?_
    refine fh_callV (cc' := c_Sh_move) (nL' := 5) (rest := []) (a := x + 227) (As := [.ref (x + 4 + b2), .int ((((2 * (yT 0)) + (if ((C_8 a) 0) < ((C_8 b2) 0) then ((C_8 b2) 0) else ((C_8 a) 0))) - ((C_8 b2) 0)) / 2), .int (-(if (7 * (yS 0)) < ((((C_8 b2) 1) + (3 * (yT 0))) - ((yX 0) - ((yT 0) / 2))) then ((((C_8 b2) 1) + (3 * (yT 0))) - ((yX 0) - ((yT 0) / 2))) else (7 * (yS 0))))]) X hR (m_Sh_mvNu l D ct b RO (r - 1) (by omega) n x kA aA g (nI c_8) (mvF F_8 (ixI (C_8 a 3)) (ixI (C_8 a 4)) ((((2 * (yT 0)) + (if ((C_8 a) 0) < ((C_8 b2) 0) then ((C_8 b2) 0) else ((C_8 a) 0))) - ((C_8 a) 0)) / 2) (if (7 * (yS 0)) < (((((yX 0) - ((yT 0) / 2)) + (yT 0)) + (3 * (yT 0))) + ((C_8 a) 2)) then (((((yX 0) - ((yT 0) / 2)) + (yT 0)) + (3 * (yT 0))) + ((C_8 a) 2)) else (7 * (yS 0)))) W_8 H_8 D_8 ro_8 co_8 nc lc tx len at_ C_8 R CL_8 RL b2 (hb2) (ob_8.1 b2 (hb2)).1 (ob_8.1 b2 (hb2)).2 ((((2 * (yT 0)) + (if ((C_8 a) 0) < ((C_8 b2) 0) then ((C_8 b2) 0) else ((C_8 a) 0))) - ((C_8 b2) 0)) / 2) (-(if (7 * (yS 0)) < ((((C_8 b2) 1) + (3 * (yT 0))) - ((yX 0) - ((yT 0) / 2))) then ((((C_8 b2) 1) + (3 * (yT 0))) - ((yX 0) - ((yT 0) / 2))) else (7 * (yS 0))))) w723 w720 w721 w722 w7 ⟨by decide, by decide, by show _ = some 3; decide +kernel⟩ (by omega) (by decide) (fh_recv hK hP ((mkR_g (by omega) (by omega) (by omega)).trans mkG_sh) rfl) hP hS hl.1 rfl (by exact Nat.le_of_ble_eq_true rfl) (fh_d d_Ty_setFraction 107 rfl) ⟨Nat.le_refl _, Nat.le_refl _⟩ (fun v9 h9 n9 H locs hq hP hS => ?_)
    obtain ⟨rfl, q13a, q13b⟩ := hq
    rw [q13a, q13b] at hP
    refine W.eq (g2 := F0 m 204 ls []) rfl ?_
    refine lv_aload_n hx hb (fh_d d_Ty_setFraction 108 rfl) rfl (lv_at hl 9 rfl) ?_
    refine fh_get (own := "FormulaSetter$Typesetter") (ref := "FormulaSetter$Typesetter") (C := "FormulaSetter$Typesetter") (T := T_Ty) (N := 2) (v := .ref (x + 227)) hx hb hT i_Ty hown hK hP ((mkR_g (by omega) (by omega) (by omega)).trans mkG_ts) rfl 0 (by decide) (hT _ w247) (fun _ h9 => h9) rfl (fh_d d_Ty_setFraction 109 rfl) ?_
    refine lv_iload hx hb (fh_d d_Ty_setFraction 110 rfl) (lv_at hl 8 rfl) ?_
    refine lv_iconst (v := 1) hx hb (fh_d d_Ty_setFraction 111 rfl) (by decide) ?_
    refine lv_iconst (v := 0) hx hb (fh_d d_Ty_setFraction 112 rfl) (by decide) ?_
    refine lv_iconst (v := 0) hx hb (fh_d d_Ty_setFraction 113 rfl) (by decide) ?_
    refine lv_iload hx hb (fh_d d_Ty_setFraction 114 rfl) (lv_at hl 5 rfl) ?_
    refine lv_iload hx hb (fh_d d_Ty_setFraction 115 rfl) (lv_at hl 6 rfl) ?_
    refine lv_iload hx hb (fh_d d_Ty_setFraction 116 rfl) (lv_at hl 0 rfl) ?_
    refine fh_callV (cc' := c_Sh_put) (nL' := 9) (rest := []) (a := x + 227) (As := [.int (nI c_4), .int 1, .int 0, .int 0, .int ((yX 0) - ((yT 0) / 2)), .int (yT 0), .int ((2 * (yT 0)) + (if ((C_8 a) 0) < ((C_8 b2) 0) then ((C_8 b2) 0) else ((C_8 a) 0)))]) X hR (m_Sh_put l D ct b RO (r - 1) n x kA aA g (nI c_8) (mvF (mvF F_8 (ixI (C_8 a 3)) (ixI (C_8 a 4)) ((((2 * (yT 0)) + (if ((C_8 a) 0) < ((C_8 b2) 0) then ((C_8 b2) 0) else ((C_8 a) 0))) - ((C_8 a) 0)) / 2) (if (7 * (yS 0)) < (((((yX 0) - ((yT 0) / 2)) + (yT 0)) + (3 * (yT 0))) + ((C_8 a) 2)) then (((((yX 0) - ((yT 0) / 2)) + (yT 0)) + (3 * (yT 0))) + ((C_8 a) 2)) else (7 * (yS 0)))) (ixI (C_8 b2 3)) (ixI (C_8 b2 4)) ((((2 * (yT 0)) + (if ((C_8 a) 0) < ((C_8 b2) 0) then ((C_8 b2) 0) else ((C_8 a) 0))) - ((C_8 b2) 0)) / 2) (-(if (7 * (yS 0)) < ((((C_8 b2) 1) + (3 * (yT 0))) - ((yX 0) - ((yT 0) / 2))) then ((((C_8 b2) 1) + (3 * (yT 0))) - ((yX 0) - ((yT 0) / 2))) else (7 * (yS 0))))) W_8 H_8 D_8 ro_8 co_8 nc lc tx len at_ C_8 R CL_8 RL c_4 hc_4 1 0 0 ((yX 0) - ((yT 0) / 2)) (yT 0) ((2 * (yT 0)) + (if ((C_8 a) 0) < ((C_8 b2) 0) then ((C_8 b2) 0) else ((C_8 a) 0)))) w684 w681 w682 w683 w7 ⟨by decide, by decide, by show _ = some 7; decide +kernel⟩ (by omega) (by decide) (fh_recv hK hP ((mkR_g (by omega) (by omega) (by omega)).trans mkG_sh) rfl) hP hS hl.1 rfl (by exact Nat.le_of_ble_eq_true rfl) (fh_d d_Ty_setFraction 117 rfl) ⟨Nat.le_refl _, Nat.le_refl _⟩ (fun v9 h9 n9 H locs hq hP hS => ?_)
    obtain ⟨rfl, q14a, q14b⟩ := hq
    rw [q14a, q14b] at hP
    refine W.eq (g2 := F0 m 222 ls []) rfl ?_
    refine lv_aload_n hx hb (fh_d d_Ty_setFraction 118 rfl) rfl (lv_at hl 10 rfl) ?_
    refine lv_iload hx hb (fh_d d_Ty_setFraction 119 rfl) (lv_at hl 0 rfl) ?_
    refine lv_iload hx hb (fh_d d_Ty_setFraction 120 rfl) (lv_at hl 2 rfl) ?_
    refine lv_aload_n hx hb (fh_d d_Ty_setFraction 121 rfl) rfl (lv_at hl 11 rfl) ?_
    refine fh_get (own := "FormulaSetter$Typesetter") (ref := "FormulaSetter$Nucleus") (C := "FormulaSetter$Nucleus") (T := T_Nu) (N := 15) (v := .int ((C_8 a) 1)) hx hb hT i_Nu hown hK hP (mkR_nu (ha)) rfl 1 (by decide) (hT _ w94) (fun x9 h9 => u_same (hT _ w95) x9 h9) (rfl) (fh_d d_Ty_setFraction 122 rfl) ?_
    refine lv_iadd hx hb (fh_d d_Ty_setFraction 123 rfl) ?_
    refine lv_iload hx hb (fh_d d_Ty_setFraction 124 rfl) (lv_at hl 1 rfl) ?_
    refine lv_aload_n hx hb (fh_d d_Ty_setFraction 125 rfl) rfl (lv_at hl 12 rfl) ?_
    refine fh_get (own := "FormulaSetter$Typesetter") (ref := "FormulaSetter$Nucleus") (C := "FormulaSetter$Nucleus") (T := T_Nu) (N := 15) (v := .int ((C_8 b2) 2)) hx hb hT i_Nu hown hK hP (mkR_nu (hb2)) rfl 2 (by decide) (hT _ w101) (fun x9 h9 => u_same (hT _ w102) x9 h9) (rfl) (fh_d d_Ty_setFraction 126 rfl) ?_
    refine lv_iadd hx hb (fh_d d_Ty_setFraction 127 rfl) ?_
    refine fh_callU (cc' := c_Bo_measure) (nL' := 4) (rest := []) (a := x + 4 + i) (As := [.int ((2 * (yT 0)) + (if ((C_8 a) 0) < ((C_8 b2) 0) then ((C_8 b2) 0) else ((C_8 a) 0))), .int ((if (7 * (yS 0)) < (((((yX 0) - ((yT 0) / 2)) + (yT 0)) + (3 * (yT 0))) + ((C_8 a) 2)) then (((((yX 0) - ((yT 0) / 2)) + (yT 0)) + (3 * (yT 0))) + ((C_8 a) 2)) else (7 * (yS 0))) + ((C_8 a) 1)), .int ((if (7 * (yS 0)) < ((((C_8 b2) 1) + (3 * (yT 0))) - ((yX 0) - ((yT 0) / 2))) then ((((C_8 b2) 1) + (3 * (yT 0))) - ((yX 0) - ((yT 0) / 2))) else (7 * (yS 0))) + ((C_8 b2) 2))]) (Ck := "FormulaSetter$Nucleus") (owner := "FormulaSetter$Box") (x' := ⟨"FormulaSetter$Nucleus", "measure", "(III)V"⟩) X hR (m_Bo_measureNu l D ct b RO (r - 1) n x kA aA g (nI c_8) (putF (mvF (mvF F_8 (ixI (C_8 a 3)) (ixI (C_8 a 4)) ((((2 * (yT 0)) + (if ((C_8 a) 0) < ((C_8 b2) 0) then ((C_8 b2) 0) else ((C_8 a) 0))) - ((C_8 a) 0)) / 2) (if (7 * (yS 0)) < (((((yX 0) - ((yT 0) / 2)) + (yT 0)) + (3 * (yT 0))) + ((C_8 a) 2)) then (((((yX 0) - ((yT 0) / 2)) + (yT 0)) + (3 * (yT 0))) + ((C_8 a) 2)) else (7 * (yS 0)))) (ixI (C_8 b2 3)) (ixI (C_8 b2 4)) ((((2 * (yT 0)) + (if ((C_8 a) 0) < ((C_8 b2) 0) then ((C_8 b2) 0) else ((C_8 a) 0))) - ((C_8 b2) 0)) / 2) (-(if (7 * (yS 0)) < ((((C_8 b2) 1) + (3 * (yT 0))) - ((yX 0) - ((yT 0) / 2))) then ((((C_8 b2) 1) + (3 * (yT 0))) - ((yX 0) - ((yT 0) / 2))) else (7 * (yS 0))))) c_4 1 0 0 ((yX 0) - ((yT 0) / 2)) (yT 0) ((2 * (yT 0)) + (if ((C_8 a) 0) < ((C_8 b2) 0) then ((C_8 b2) 0) else ((C_8 a) 0)))) W_8 H_8 D_8 ro_8 co_8 nc lc tx len at_ C_8 R CL_8 RL i (hi) ((2 * (yT 0)) + (if ((C_8 a) 0) < ((C_8 b2) 0) then ((C_8 b2) 0) else ((C_8 a) 0))) ((if (7 * (yS 0)) < (((((yX 0) - ((yT 0) / 2)) + (yT 0)) + (3 * (yT 0))) + ((C_8 a) 2)) then (((((yX 0) - ((yT 0) / 2)) + (yT 0)) + (3 * (yT 0))) + ((C_8 a) 2)) else (7 * (yS 0))) + ((C_8 a) 1)) ((if (7 * (yS 0)) < ((((C_8 b2) 1) + (3 * (yT 0))) - ((yX 0) - ((yT 0) / 2))) then ((((C_8 b2) 1) + (3 * (yT 0))) - ((yX 0) - ((yT 0) / 2))) else (7 * (yS 0))) + ((C_8 b2) 2))) w655 w691 w692 rfl w654 w693 w3 ⟨by decide, by decide, by show _ = some 3; decide +kernel⟩ (by omega) (by decide) (fh_recv hK hP (mkR_nu (hi)) rfl) hP hS hl.1 rfl (by exact Nat.le_of_ble_eq_true rfl) (fh_d d_Ty_setFraction 128 rfl) ⟨Nat.le_refl _, Nat.le_refl _⟩ (fun v9 h9 n9 H locs hq hP hS => ?_)
    obtain ⟨rfl, q15a, q15b⟩ := hq
    rw [q15a, q15b] at hP
    refine W.eq (g2 := F0 m 242 ls []) rfl ?_
    have f16 : (sT (sT (sT C_8 i 0 ((2 * (yT 0)) + (if ((C_8 a) 0) < ((C_8 b2) 0) then ((C_8 b2) 0) else ((C_8 a) 0)))) i 1 ((if (7 * (yS 0)) < (((((yX 0) - ((yT 0) / 2)) + (yT 0)) + (3 * (yT 0))) + ((C_8 a) 2)) then (((((yX 0) - ((yT 0) / 2)) + (yT 0)) + (3 * (yT 0))) + ((C_8 a) 2)) else (7 * (yS 0))) + ((C_8 a) 1))) i 2 ((if (7 * (yS 0)) < ((((C_8 b2) 1) + (3 * (yT 0))) - ((yX 0) - ((yT 0) / 2))) then ((((C_8 b2) 1) + (3 * (yT 0))) - ((yX 0) - ((yT 0) / 2))) else (7 * (yS 0))) + ((C_8 b2) 2))) i 0 = (2 * (yT 0)) + (if ((C_8 a) 0) < ((C_8 b2) 0) then ((C_8 b2) 0) else ((C_8 a) 0)) := (sT_ne (by omega)).trans ((sT_ne (by omega)).trans sT_same)
    have f17 : (sT (sT (sT C_8 i 0 ((2 * (yT 0)) + (if ((C_8 a) 0) < ((C_8 b2) 0) then ((C_8 b2) 0) else ((C_8 a) 0)))) i 1 ((if (7 * (yS 0)) < (((((yX 0) - ((yT 0) / 2)) + (yT 0)) + (3 * (yT 0))) + ((C_8 a) 2)) then (((((yX 0) - ((yT 0) / 2)) + (yT 0)) + (3 * (yT 0))) + ((C_8 a) 2)) else (7 * (yS 0))) + ((C_8 a) 1))) i 2 ((if (7 * (yS 0)) < ((((C_8 b2) 1) + (3 * (yT 0))) - ((yX 0) - ((yT 0) / 2))) then ((((C_8 b2) 1) + (3 * (yT 0))) - ((yX 0) - ((yT 0) / 2))) else (7 * (yS 0))) + ((C_8 b2) 2))) i 1 = (if (7 * (yS 0)) < (((((yX 0) - ((yT 0) / 2)) + (yT 0)) + (3 * (yT 0))) + ((C_8 a) 2)) then (((((yX 0) - ((yT 0) / 2)) + (yT 0)) + (3 * (yT 0))) + ((C_8 a) 2)) else (7 * (yS 0))) + ((C_8 a) 1) := (sT_ne (by omega)).trans sT_same
    have f18 : (sT (sT (sT C_8 i 0 ((2 * (yT 0)) + (if ((C_8 a) 0) < ((C_8 b2) 0) then ((C_8 b2) 0) else ((C_8 a) 0)))) i 1 ((if (7 * (yS 0)) < (((((yX 0) - ((yT 0) / 2)) + (yT 0)) + (3 * (yT 0))) + ((C_8 a) 2)) then (((((yX 0) - ((yT 0) / 2)) + (yT 0)) + (3 * (yT 0))) + ((C_8 a) 2)) else (7 * (yS 0))) + ((C_8 a) 1))) i 2 ((if (7 * (yS 0)) < ((((C_8 b2) 1) + (3 * (yT 0))) - ((yX 0) - ((yT 0) / 2))) then ((((C_8 b2) 1) + (3 * (yT 0))) - ((yX 0) - ((yT 0) / 2))) else (7 * (yS 0))) + ((C_8 b2) 2))) i 2 = (if (7 * (yS 0)) < ((((C_8 b2) 1) + (3 * (yT 0))) - ((yX 0) - ((yT 0) / 2))) then ((((C_8 b2) 1) + (3 * (yT 0))) - ((yX 0) - ((yT 0) / 2))) else (7 * (yS 0))) + ((C_8 b2) 2) := sT_same
    have y19 : okB (sT (sT (sT C_8 i 0 ((2 * (yT 0)) + (if ((C_8 a) 0) < ((C_8 b2) 0) then ((C_8 b2) 0) else ((C_8 a) 0)))) i 1 ((if (7 * (yS 0)) < (((((yX 0) - ((yT 0) / 2)) + (yT 0)) + (3 * (yT 0))) + ((C_8 a) 2)) then (((((yX 0) - ((yT 0) / 2)) + (yT 0)) + (3 * (yT 0))) + ((C_8 a) 2)) else (7 * (yS 0))) + ((C_8 a) 1))) i 2 ((if (7 * (yS 0)) < ((((C_8 b2) 1) + (3 * (yT 0))) - ((yX 0) - ((yT 0) / 2))) then ((((C_8 b2) 1) + (3 * (yT 0))) - ((yX 0) - ((yT 0) / 2))) else (7 * (yS 0))) + ((C_8 b2) 2))) CL_8 := okB_m ob_8 i ((2 * (yT 0)) + (if ((C_8 a) 0) < ((C_8 b2) 0) then ((C_8 b2) 0) else ((C_8 a) 0))) ((if (7 * (yS 0)) < (((((yX 0) - ((yT 0) / 2)) + (yT 0)) + (3 * (yT 0))) + ((C_8 a) 2)) then (((((yX 0) - ((yT 0) / 2)) + (yT 0)) + (3 * (yT 0))) + ((C_8 a) 2)) else (7 * (yS 0))) + ((C_8 a) 1)) ((if (7 * (yS 0)) < ((((C_8 b2) 1) + (3 * (yT 0))) - ((yX 0) - ((yT 0) / 2))) then ((((C_8 b2) 1) + (3 * (yT 0))) - ((yX 0) - ((yT 0) / 2))) else (7 * (yS 0))) + ((C_8 b2) 2))
    refine fh_vret X hP hS (fh_d d_Ty_setFraction 129 rfl) ⟨rfl, ?_, rfl⟩
    · unfold sFrac; (try dsimp only); rw [← e_4]; dsimp only; rw [← e_8]; dsimp only; (try unfold frW frU frD frL frC frY); first | rfl | (simp only [if_neg hs0]; first | done | rfl)
  · skip
    refine lv_aload_n hx hb (fh_d d_Ty_setFraction 0 rfl) rfl (lv_at hl 2 rfl) ?_
    refine lv_ifnull hx hb (fh_d d_Ty_setFraction 1 rfl) ?_
    refine lv_aload_n hx hb (fh_d d_Ty_setFraction 2 rfl) rfl (lv_at hl 3 rfl) ?_
    refine lv_ifnonnull (tgt := 9) hx hb (fh_d d_Ty_setFraction 3 rfl) rfl ?_
    refine lv_aload_n hx hb (fh_d d_Ty_setFraction 5 rfl) rfl (lv_at hl 0 rfl) ?_
    refine lv_aload_n hx hb (fh_d d_Ty_setFraction 6 rfl) rfl (lv_at hl 2 rfl) ?_
    refine lv_aload hx hb (fh_d d_Ty_setFraction 7 rfl) (lv_at hl 4 rfl) ?_
    refine fh_callV (cc' := c_Sy_forParts) (nL' := 1) (rest := [.ref (x + 4 + a), .ref (x + 226)]) (a := yA si) (As := []) X hR (m_Sy_forParts l D ct b RO sA sV hSt kA aA yA tK tS tM hEn hAd (r - 1) n si hsi (mkR x kA aA (mkG ct x g (nI c0) F W0 H0 D0 rows cols) nc lc tx len at_ C R CL RL)) w712 w709 w710 w711 w24 ⟨by decide, by decide, by show _ = some 0; decide +kernel⟩ (by omega) (by decide) (fs_recv ((hEn _ hRO).2.2.1 si hsi).2.1 hS) hP hS hl.1 rfl (by exact Nat.le_of_ble_eq_true rfl) (fh_d d_Ty_setFraction 8 rfl) ⟨Nat.le_refl _, Nat.le_refl _⟩ (fun v9 h9 n9 H locs hq hP hS => ?_)
    obtain ⟨rfl, q22a, q22b⟩ := hq
    rw [q22a, q22b] at hP
    refine W.eq (g2 := F0 m 16 ls [.ref (yA (yPa si)), .ref (x + 4 + a), .ref (x + 226)]) rfl ?_
    refine lv_iload hx hb (fh_d d_Ty_setFraction 9 rfl) (lv_at hl 5 rfl) ?_
    refine fh_callV (cc' := c_Ty_setNucleus) (nL' := 4) (rest := []) (a := x + 226) (As := [.ref (x + 4 + a), .ref (yA (yPa si)), .int (nI cr)]) X hR (hN1 (r - 1) (by omega) (c0, F, W0, H0, D0, rows, cols, C, CL) ⟨hc0, hokB⟩ a (yPa si) cr (ha) hoa yPa_lt hcr) w663 w660 w662 v19 w6 ⟨by decide, by decide, by show _ = some 3; decide +kernel⟩ (by omega) (by decide) (fh_recv hK hP ((mkR_g (by omega) (by omega) (by omega)).trans mkG_ts) rfl) hP hS hl.1 rfl (by exact Nat.le_of_ble_eq_true rfl) (fh_d d_Ty_setFraction 10 rfl) ⟨Nat.le_refl _, Nat.le_refl _⟩ (fun v9 h9 n9 H locs hq hP hS => ?_)
    obtain ⟨⟨c_23, F_23, W_23, H_23, D_23, ro_23, co_23, C_23, CL_23⟩, e_23⟩ : ∃ z, z = N1 (c0, F, W0, H0, D0, rows, cols, C, CL) a (yPa si) cr := ⟨_, rfl⟩
    obtain ⟨rfl, q_23a, q_23b⟩ := hq
    rw [← e_23] at q_23a
    rw [q_23a, q_23b] at hP
    have o_23 : okT (c_23, F_23, W_23, H_23, D_23, ro_23, co_23, C_23, CL_23) := by rw [e_23]; exact hB1 _ _ _ _ ⟨hc0, hokB⟩ (ha) hoa
    have hc_23 : c_23 ≤ 120 := o_23.1
    have ob_23 : okB C_23 CL_23 := o_23.2
    replace hP : fh_P D fh_cl b (mkR x kA aA (mkG ct x g (nI c_23) F_23 W_23 H_23 D_23 ro_23 co_23) nc lc tx len at_ C_23 R CL_23 RL) n H := hP
    refine W.eq (g2 := F0 m 21 ls []) rfl ?_
    refine lv_aload_n hx hb (fh_d d_Ty_setFraction 11 rfl) rfl (lv_at hl 0 rfl) ?_
    refine fh_get (own := "FormulaSetter$Typesetter") (ref := "FormulaSetter$Typesetter") (C := "FormulaSetter$Typesetter") (T := T_Ty) (N := 2) (v := .ref (x + 227)) hx hb hT i_Ty hown hK hP ((mkR_g (by omega) (by omega) (by omega)).trans mkG_ts) rfl 0 (by decide) (hT _ w247) (fun _ h9 => h9) rfl (fh_d d_Ty_setFraction 12 rfl) ?_
    refine fh_callV (cc' := c_Sh_reserve) (nL' := 2) (rest := []) (a := x + 227) (As := []) X hR (m_Sh_reserve l D ct b RO (r - 1) n x kA aA g c_23 hc_23 F_23 W_23 H_23 D_23 ro_23 co_23 nc lc tx len at_ C_23 R CL_23 RL) w677 w674 w675 w676 w7 ⟨by decide, by decide, by show _ = some 0; decide +kernel⟩ (by omega) (by decide) (fh_recv hK hP ((mkR_g (by omega) (by omega) (by omega)).trans mkG_sh) rfl) hP hS hl.1 rfl (by exact Nat.le_of_ble_eq_true rfl) (fh_d d_Ty_setFraction 13 rfl) ⟨Nat.le_refl _, Nat.le_refl _⟩ (fun v9 h9 n9 H locs hq hP hS => ?_)
    obtain ⟨rfl, q24a, q24b⟩ := hq
    rw [q24a, q24b] at hP
    have y25 : rsv c_23 ≤ 120 := rsv_le hc_23
    replace hP : fh_P D fh_cl b (mkR x kA aA (mkG ct x g (nI (rsv c_23)) F_23 W_23 H_23 D_23 ro_23 co_23) nc lc tx len at_ C_23 R CL_23 RL) n H := hP
    refine W.eq (g2 := F0 m 28 ls [.int (nI c_23)]) rfl ?_
    refine lv_istore (lv' := [(6, .int (nI c_23)), (0, .ref (x + 226)), (1, .ref (x + 4 + i)), (2, .ref (x + 4 + a)), (3, .ref (x + 4 + b2)), (4, .ref (yA si)), (5, .int (nI cr))]) hx hb (fh_d d_Ty_setFraction 14 rfl) hl (by decide) rfl (fun ls hl => ?_)
    refine lv_aload_n hx hb (fh_d d_Ty_setFraction 15 rfl) rfl (lv_at hl 1 rfl) ?_
    refine lv_aload_n hx hb (fh_d d_Ty_setFraction 16 rfl) rfl (lv_at hl 4 rfl) ?_
    refine lv_aload hx hb (fh_d d_Ty_setFraction 17 rfl) (lv_at hl 5 rfl) ?_
    refine fh_callV (cc' := c_Sy_forParts) (nL' := 1) (rest := [.ref (x + 4 + b2), .ref (x + 226)]) (a := yA si) (As := []) X hR (m_Sy_forParts l D ct b RO sA sV hSt kA aA yA tK tS tM hEn hAd (r - 1) n si hsi (mkR x kA aA (mkG ct x g (nI (rsv c_23)) F_23 W_23 H_23 D_23 ro_23 co_23) nc lc tx len at_ C_23 R CL_23 RL)) w712 w709 w710 w711 w24 ⟨by decide, by decide, by show _ = some 0; decide +kernel⟩ (by omega) (by decide) (fs_recv ((hEn _ hRO).2.2.1 si hsi).2.1 hS) hP hS hl.1 rfl (by exact Nat.le_of_ble_eq_true rfl) (fh_d d_Ty_setFraction 18 rfl) ⟨Nat.le_refl _, Nat.le_refl _⟩ (fun v9 h9 n9 H locs hq hP hS => ?_)
    obtain ⟨rfl, q26a, q26b⟩ := hq
    rw [q26a, q26b] at hP
    refine W.eq (g2 := F0 m 37 ls [.ref (yA (yPa si)), .ref (x + 4 + b2), .ref (x + 226)]) rfl ?_
    refine lv_iconst (v := 1) hx hb (fh_d d_Ty_setFraction 19 rfl) (by decide) ?_
    refine W.eq (g2 := F0 m 38 ls [.int (nI 1), .ref (yA (yPa si)), .ref (x + 4 + b2), .ref (x + 226)]) rfl ?_
    refine fh_callV (cc' := c_Ty_setNucleus) (nL' := 4) (rest := []) (a := x + 226) (As := [.ref (x + 4 + b2), .ref (yA (yPa si)), .int (nI 1)]) X hR (hN1 (r - 1) (by omega) (rsv c_23, F_23, W_23, H_23, D_23, ro_23, co_23, C_23, CL_23) ⟨y25, ob_23⟩ b2 (yPa si) 1 (hb2) hob yPa_lt (by omega)) w663 w660 w662 v19 w6 ⟨by decide, by decide, by show _ = some 3; decide +kernel⟩ (by omega) (by decide) (fh_recv hK hP ((mkR_g (by omega) (by omega) (by omega)).trans mkG_ts) rfl) hP hS hl.1 rfl (by exact Nat.le_of_ble_eq_true rfl) (fh_d d_Ty_setFraction 20 rfl) ⟨Nat.le_refl _, Nat.le_refl _⟩ (fun v9 h9 n9 H locs hq hP hS => ?_)
    obtain ⟨⟨c_27, F_27, W_27, H_27, D_27, ro_27, co_27, C_27, CL_27⟩, e_27⟩ : ∃ z, z = N1 (rsv c_23, F_23, W_23, H_23, D_23, ro_23, co_23, C_23, CL_23) b2 (yPa si) 1 := ⟨_, rfl⟩
    obtain ⟨rfl, q_27a, q_27b⟩ := hq
    rw [← e_27] at q_27a
    rw [q_27a, q_27b] at hP
    have o_27 : okT (c_27, F_27, W_27, H_27, D_27, ro_27, co_27, C_27, CL_27) := by rw [e_27]; exact hB1 _ _ _ _ ⟨y25, ob_23⟩ (hb2) hob
    have hc_27 : c_27 ≤ 120 := o_27.1
    have ob_27 : okB C_27 CL_27 := o_27.2
    replace hP : fh_P D fh_cl b (mkR x kA aA (mkG ct x g (nI c_27) F_27 W_27 H_27 D_27 ro_27 co_27) nc lc tx len at_ C_27 R CL_27 RL) n H := hP
    refine W.eq (g2 := F0 m 41 ls []) rfl ?_
    refine lv_aload hx hb (fh_d d_Ty_setFraction 21 rfl) (lv_at hl 5 rfl) ?_
    refine va_gets (own := "FormulaSetter$Typesetter") (ref := "FormulaSetter$Style") (n := "DISPLAY") hx hb ((hEn _ hRO).2.2.1 0 (by decide)).1 hS hown (hT _ w702) (fun _ h9 => h9) (fh_d d_Ty_setFraction 22 rfl) ?_
    refine lv_acmp_ne (rx := some (yA si)) (ry := some (yA 0)) (tgt := 53) hx hb (fh_d d_Ty_setFraction 23 rfl) rfl (fun c28 => ?_) (fun c28 => absurd c28 (fun z => hs0 (hAd.2.2 _ _ hsi (by decide) (Option.some.inj z))))
    refine lv_iconst (v := 0) hx hb (fh_d d_Ty_setFraction 26 rfl) (by decide) ?_
    refine lv_istore (lv' := [(7, .int 0), (6, .int (nI c_23)), (0, .ref (x + 226)), (1, .ref (x + 4 + i)), (2, .ref (x + 4 + a)), (3, .ref (x + 4 + b2)), (4, .ref (yA si)), (5, .int (nI cr))]) hx hb (fh_d d_Ty_setFraction 27 rfl) hl (by decide) rfl (fun ls hl => ?_)
    refine lv_aload hx hb (fh_d d_Ty_setFraction 28 rfl) (lv_at hl 6 rfl) ?_
    refine vk_getf (own := "FormulaSetter$Typesetter") (ref := "FormulaSetter$Style") hx hb (((hEn _ hRO).2.2.1 si hsi).2.2.2.2.1) hS hown (hT _ w1251) (fun _ h9 => h9) (fh_d d_Ty_setFraction 29 rfl) ?_
    refine lv_istore (lv' := [(8, .int (yT si)), (7, .int 0), (6, .int (nI c_23)), (0, .ref (x + 226)), (1, .ref (x + 4 + i)), (2, .ref (x + 4 + a)), (3, .ref (x + 4 + b2)), (4, .ref (yA si)), (5, .int (nI cr))]) hx hb (fh_d d_Ty_setFraction 30 rfl) hl (by decide) rfl (fun ls hl => ?_)
    refine lv_aload hx hb (fh_d d_Ty_setFraction 31 rfl) (lv_at hl 7 rfl) ?_
    refine vk_getf (own := "FormulaSetter$Typesetter") (ref := "FormulaSetter$Style") hx hb (((hEn _ hRO).2.2.1 si hsi).2.2.2.2.2) hS hown (hT _ w1250) (fun _ h9 => h9) (fh_d d_Ty_setFraction 32 rfl) ?_
    refine lv_iload hx hb (fh_d d_Ty_setFraction 33 rfl) (lv_at hl 0 rfl) ?_
    refine lv_iconst (v := 2) hx hb (fh_d d_Ty_setFraction 34 rfl) (by decide) ?_
    refine lv_idiv hx hb (fh_d d_Ty_setFraction 35 rfl) (by decide) ?_
    refine lv_isub hx hb (fh_d d_Ty_setFraction 36 rfl) ?_
    refine lv_istore (lv' := [(9, .int ((yX si) - ((yT si) / 2))), (8, .int (yT si)), (7, .int 0), (6, .int (nI c_23)), (0, .ref (x + 226)), (1, .ref (x + 4 + i)), (2, .ref (x + 4 + a)), (3, .ref (x + 4 + b2)), (4, .ref (yA si)), (5, .int (nI cr))]) hx hb (fh_d d_Ty_setFraction 37 rfl) hl (by decide) rfl (fun ls hl => ?_)
    refine lv_iload hx hb (fh_d d_Ty_setFraction 38 rfl) (lv_at hl 2 rfl) ?_
    refine lv_if_eq (tgt := 87) hx hb (fh_d d_Ty_setFraction 39 rfl) rfl (fun c29 => ?_) (fun c29 => absurd c29 (Classical.not_not.mpr (by decide)))
    refine lv_iload hx hb (fh_d d_Ty_setFraction 44 rfl) (lv_at hl 1 rfl) ?_
    refine lv_istore (lv' := [(10, .int (yT si)), (9, .int ((yX si) - ((yT si) / 2))), (8, .int (yT si)), (7, .int 0), (6, .int (nI c_23)), (0, .ref (x + 226)), (1, .ref (x + 4 + i)), (2, .ref (x + 4 + a)), (3, .ref (x + 4 + b2)), (4, .ref (yA si)), (5, .int (nI cr))]) hx hb (fh_d d_Ty_setFraction 45 rfl) hl (by decide) rfl (fun ls hl => ?_)
    refine lv_iload hx hb (fh_d d_Ty_setFraction 46 rfl) (lv_at hl 3 rfl) ?_
    refine lv_if_eq (tgt := 101) hx hb (fh_d d_Ty_setFraction 47 rfl) rfl (fun c30 => ?_) (fun c30 => absurd c30 (Classical.not_not.mpr (by decide)))
    refine lv_iconst (v := 4) hx hb (fh_d d_Ty_setFraction 50 rfl) (by decide) ?_
    refine lv_aload hx hb (fh_d d_Ty_setFraction 51 rfl) (lv_at hl 9 rfl) ?_
    refine vk_getf (own := "FormulaSetter$Typesetter") (ref := "FormulaSetter$Style") hx hb (((hEn _ hRO).2.2.1 si hsi).2.2.2.1) hS hown (hT _ w1249) (fun _ h9 => h9) (fh_d d_Ty_setFraction 52 rfl) ?_
    refine lv_imul hx hb (fh_d d_Ty_setFraction 53 rfl) ?_
    refine lv_istore (lv' := [(11, .int (4 * (yS si))), (10, .int (yT si)), (9, .int ((yX si) - ((yT si) / 2))), (8, .int (yT si)), (7, .int 0), (6, .int (nI c_23)), (0, .ref (x + 226)), (1, .ref (x + 4 + i)), (2, .ref (x + 4 + a)), (3, .ref (x + 4 + b2)), (4, .ref (yA si)), (5, .int (nI cr))]) hx hb (fh_d d_Ty_setFraction 54 rfl) hl (by decide) rfl (fun ls hl => ?_)
    refine lv_iload hx hb (fh_d d_Ty_setFraction 55 rfl) (lv_at hl 0 rfl) ?_
    refine lv_iload hx hb (fh_d d_Ty_setFraction 56 rfl) (lv_at hl 2 rfl) ?_
    refine lv_iload hx hb (fh_d d_Ty_setFraction 57 rfl) (lv_at hl 3 rfl) ?_
    refine lv_iadd hx hb (fh_d d_Ty_setFraction 58 rfl) ?_
    refine lv_iload hx hb (fh_d d_Ty_setFraction 59 rfl) (lv_at hl 1 rfl) ?_
    refine lv_iadd hx hb (fh_d d_Ty_setFraction 60 rfl) ?_
    refine lv_aload_n hx hb (fh_d d_Ty_setFraction 61 rfl) rfl (lv_at hl 8 rfl) ?_
    refine fh_get (own := "FormulaSetter$Typesetter") (ref := "FormulaSetter$Nucleus") (C := "FormulaSetter$Nucleus") (T := T_Nu) (N := 15) (v := .int ((C_27 a) 2)) hx hb hT i_Nu hown hK hP (mkR_nu (ha)) rfl 2 (by decide) (hT _ w101) (fun x9 h9 => u_same (hT _ w102) x9 h9) (rfl) (fh_d d_Ty_setFraction 62 rfl) ?_
    refine lv_iadd hx hb (fh_d d_Ty_setFraction 63 rfl) ?_
    refine va_mmax hx hb (hml.trans hl.1.symm) hown (hT _ w704) (hT _ w431) (hT _ w14) (hT _ w432) (by show 1 ≤ r; omega) (by show _ ≤ 60 * r; simp [Value.category]; omega) (Nat.le_refl _) (Nat.le_refl _) (fh_d d_Ty_setFraction 64 rfl) ?_
    refine lv_istore (lv' := [(12, .int (if (4 * (yS si)) < (((((yX si) - ((yT si) / 2)) + (yT si)) + (yT si)) + ((C_27 a) 2)) then (((((yX si) - ((yT si) / 2)) + (yT si)) + (yT si)) + ((C_27 a) 2)) else (4 * (yS si)))), (11, .int (4 * (yS si))), (10, .int (yT si)), (9, .int ((yX si) - ((yT si) / 2))), (8, .int (yT si)), (7, .int 0), (6, .int (nI c_23)), (0, .ref (x + 226)), (1, .ref (x + 4 + i)), (2, .ref (x + 4 + a)), (3, .ref (x + 4 + b2)), (4, .ref (yA si)), (5, .int (nI cr))]) hx hb (fh_d d_Ty_setFraction 65 rfl) hl (by decide) rfl (fun ls hl => ?_)
    refine lv_iload hx hb (fh_d d_Ty_setFraction 66 rfl) (lv_at hl 1 rfl) ?_
    refine lv_aload_n hx hb (fh_d d_Ty_setFraction 67 rfl) rfl (lv_at hl 10 rfl) ?_
    refine fh_get (own := "FormulaSetter$Typesetter") (ref := "FormulaSetter$Nucleus") (C := "FormulaSetter$Nucleus") (T := T_Nu) (N := 15) (v := .int ((C_27 b2) 1)) hx hb hT i_Nu hown hK hP (mkR_nu (hb2)) rfl 1 (by decide) (hT _ w94) (fun x9 h9 => u_same (hT _ w95) x9 h9) (rfl) (fh_d d_Ty_setFraction 68 rfl) ?_
    refine lv_iload hx hb (fh_d d_Ty_setFraction 69 rfl) (lv_at hl 2 rfl) ?_
    refine lv_iadd hx hb (fh_d d_Ty_setFraction 70 rfl) ?_
    refine lv_iload hx hb (fh_d d_Ty_setFraction 71 rfl) (lv_at hl 3 rfl) ?_
    refine lv_isub hx hb (fh_d d_Ty_setFraction 72 rfl) ?_
    refine va_mmax hx hb (hml.trans hl.1.symm) hown (hT _ w704) (hT _ w431) (hT _ w14) (hT _ w432) (by show 1 ≤ r; omega) (by show _ ≤ 60 * r; simp [Value.category]; omega) (Nat.le_refl _) (Nat.le_refl _) (fh_d d_Ty_setFraction 73 rfl) ?_
    refine lv_istore (lv' := [(13, .int (if (4 * (yS si)) < ((((C_27 b2) 1) + (yT si)) - ((yX si) - ((yT si) / 2))) then ((((C_27 b2) 1) + (yT si)) - ((yX si) - ((yT si) / 2))) else (4 * (yS si)))), (12, .int (if (4 * (yS si)) < (((((yX si) - ((yT si) / 2)) + (yT si)) + (yT si)) + ((C_27 a) 2)) then (((((yX si) - ((yT si) / 2)) + (yT si)) + (yT si)) + ((C_27 a) 2)) else (4 * (yS si)))), (11, .int (4 * (yS si))), (10, .int (yT si)), (9, .int ((yX si) - ((yT si) / 2))), (8, .int (yT si)), (7, .int 0), (6, .int (nI c_23)), (0, .ref (x + 226)), (1, .ref (x + 4 + i)), (2, .ref (x + 4 + a)), (3, .ref (x + 4 + b2)), (4, .ref (yA si)), (5, .int (nI cr))]) hx hb (fh_d d_Ty_setFraction 74 rfl) hl (by decide) rfl (fun ls hl => ?_)
    refine lv_iconst (v := 2) hx hb (fh_d d_Ty_setFraction 75 rfl) (by decide) ?_
    refine lv_iload hx hb (fh_d d_Ty_setFraction 76 rfl) (lv_at hl 5 rfl) ?_
    refine lv_imul hx hb (fh_d d_Ty_setFraction 77 rfl) ?_
    refine lv_aload_n hx hb (fh_d d_Ty_setFraction 78 rfl) rfl (lv_at hl 10 rfl) ?_
    refine fh_get (own := "FormulaSetter$Typesetter") (ref := "FormulaSetter$Nucleus") (C := "FormulaSetter$Nucleus") (T := T_Nu) (N := 15) (v := .int ((C_27 a) 0)) hx hb hT i_Nu hown hK hP (mkR_nu (ha)) rfl 0 (by decide) (hT _ w87) (fun x9 h9 => u_same (hT _ w88) x9 h9) (rfl) (fh_d d_Ty_setFraction 79 rfl) ?_
    refine lv_aload_n hx hb (fh_d d_Ty_setFraction 80 rfl) rfl (lv_at hl 11 rfl) ?_
    refine fh_get (own := "FormulaSetter$Typesetter") (ref := "FormulaSetter$Nucleus") (C := "FormulaSetter$Nucleus") (T := T_Nu) (N := 15) (v := .int ((C_27 b2) 0)) hx hb hT i_Nu hown hK hP (mkR_nu (hb2)) rfl 0 (by decide) (hT _ w87) (fun x9 h9 => u_same (hT _ w88) x9 h9) (rfl) (fh_d d_Ty_setFraction 81 rfl) ?_
    refine va_mmax hx hb (hml.trans hl.1.symm) hown (hT _ w704) (hT _ w431) (hT _ w14) (hT _ w432) (by show 1 ≤ r; omega) (by show _ ≤ 60 * r; simp [Value.category]; omega) (Nat.le_refl _) (Nat.le_refl _) (fh_d d_Ty_setFraction 82 rfl) ?_
    refine lv_iadd hx hb (fh_d d_Ty_setFraction 83 rfl) ?_
    refine lv_istore (lv' := [(14, .int ((2 * (yT si)) + (if ((C_27 a) 0) < ((C_27 b2) 0) then ((C_27 b2) 0) else ((C_27 a) 0)))), (13, .int (if (4 * (yS si)) < ((((C_27 b2) 1) + (yT si)) - ((yX si) - ((yT si) / 2))) then ((((C_27 b2) 1) + (yT si)) - ((yX si) - ((yT si) / 2))) else (4 * (yS si)))), (12, .int (if (4 * (yS si)) < (((((yX si) - ((yT si) / 2)) + (yT si)) + (yT si)) + ((C_27 a) 2)) then (((((yX si) - ((yT si) / 2)) + (yT si)) + (yT si)) + ((C_27 a) 2)) else (4 * (yS si)))), (11, .int (4 * (yS si))), (10, .int (yT si)), (9, .int ((yX si) - ((yT si) / 2))), (8, .int (yT si)), (7, .int 0), (6, .int (nI c_23)), (0, .ref (x + 226)), (1, .ref (x + 4 + i)), (2, .ref (x + 4 + a)), (3, .ref (x + 4 + b2)), (4, .ref (yA si)), (5, .int (nI cr))]) hx hb (fh_d d_Ty_setFraction 84 rfl) hl (by decide) rfl (fun ls hl => ?_)
    refine lv_aload_n hx hb (fh_d d_Ty_setFraction 85 rfl) rfl (lv_at hl 9 rfl) ?_
    refine fh_get (own := "FormulaSetter$Typesetter") (ref := "FormulaSetter$Typesetter") (C := "FormulaSetter$Typesetter") (T := T_Ty) (N := 2) (v := .ref (x + 227)) hx hb hT i_Ty hown hK hP ((mkR_g (by omega) (by omega) (by omega)).trans mkG_ts) rfl 0 (by decide) (hT _ w247) (fun _ h9 => h9) rfl (fh_d d_Ty_setFraction 86 rfl) ?_
    refine lv_aload_n hx hb (fh_d d_Ty_setFraction 87 rfl) rfl (lv_at hl 11 rfl) ?_
    refine lv_iload hx hb (fh_d d_Ty_setFraction 88 rfl) (lv_at hl 0 rfl) ?_
    refine lv_aload_n hx hb (fh_d d_Ty_setFraction 89 rfl) rfl (lv_at hl 11 rfl) ?_
    refine fh_get (own := "FormulaSetter$Typesetter") (ref := "FormulaSetter$Nucleus") (C := "FormulaSetter$Nucleus") (T := T_Nu) (N := 15) (v := .int ((C_27 a) 0)) hx hb hT i_Nu hown hK hP (mkR_nu (ha)) rfl 0 (by decide) (hT _ w87) (fun x9 h9 => u_same (hT _ w88) x9 h9) (rfl) (fh_d d_Ty_setFraction 90 rfl) ?_
    refine lv_isub hx hb (fh_d d_Ty_setFraction 91 rfl) ?_
    refine lv_iconst (v := 2) hx hb (fh_d d_Ty_setFraction 92 rfl) (by decide) ?_
    refine lv_idiv hx hb (fh_d d_Ty_setFraction 93 rfl) (by decide) ?_
    refine lv_iload hx hb (fh_d d_Ty_setFraction 94 rfl) (lv_at hl 2 rfl) ?_
    refine fh_callV (cc' := c_Sh_move) (nL' := 5) (rest := []) (a := x + 227) (As := [.ref (x + 4 + a), .int ((((2 * (yT si)) + (if ((C_27 a) 0) < ((C_27 b2) 0) then ((C_27 b2) 0) else ((C_27 a) 0))) - ((C_27 a) 0)) / 2), .int (if (4 * (yS si)) < (((((yX si) - ((yT si) / 2)) + (yT si)) + (yT si)) + ((C_27 a) 2)) then (((((yX si) - ((yT si) / 2)) + (yT si)) + (yT si)) + ((C_27 a) 2)) else (4 * (yS si)))]) X hR (m_Sh_mvNu l D ct b RO (r - 1) (by omega) n x kA aA g (nI c_27) F_27 W_27 H_27 D_27 ro_27 co_27 nc lc tx len at_ C_27 R CL_27 RL a (ha) (ob_27.1 a (ha)).1 (ob_27.1 a (ha)).2 ((((2 * (yT si)) + (if ((C_27 a) 0) < ((C_27 b2) 0) then ((C_27 b2) 0) else ((C_27 a) 0))) - ((C_27 a) 0)) / 2) (if (4 * (yS si)) < (((((yX si) - ((yT si) / 2)) + (yT si)) + (yT si)) + ((C_27 a) 2)) then (((((yX si) - ((yT si) / 2)) + (yT si)) + (yT si)) + ((C_27 a) 2)) else (4 * (yS si)))) w723 w720 w721 w722 w7 ⟨by decide, by decide, by show _ = some 3; decide +kernel⟩ (by omega) (by decide) (fh_recv hK hP ((mkR_g (by omega) (by omega) (by omega)).trans mkG_sh) rfl) hP hS hl.1 rfl (by exact Nat.le_of_ble_eq_true rfl) (fh_d d_Ty_setFraction 95 rfl) ⟨Nat.le_refl _, Nat.le_refl _⟩ (fun v9 h9 n9 H locs hq hP hS => ?_)
    obtain ⟨rfl, q31a, q31b⟩ := hq
    rw [q31a, q31b] at hP
    refine W.eq (g2 := F0 m 184 ls []) rfl ?_
    refine lv_aload_n hx hb (fh_d d_Ty_setFraction 96 rfl) rfl (lv_at hl 9 rfl) ?_
    refine fh_get (own := "FormulaSetter$Typesetter") (ref := "FormulaSetter$Typesetter") (C := "FormulaSetter$Typesetter") (T := T_Ty) (N := 2) (v := .ref (x + 227)) hx hb hT i_Ty hown hK hP ((mkR_g (by omega) (by omega) (by omega)).trans mkG_ts) rfl 0 (by decide) (hT _ w247) (fun _ h9 => h9) rfl (fh_d d_Ty_setFraction 97 rfl) ?_
    refine lv_aload_n hx hb (fh_d d_Ty_setFraction 98 rfl) rfl (lv_at hl 12 rfl) ?_
    refine lv_iload hx hb (fh_d d_Ty_setFraction 99 rfl) (lv_at hl 0 rfl) ?_
    refine lv_aload_n hx hb (fh_d d_Ty_setFraction 100 rfl) rfl (lv_at hl 12 rfl) ?_
    refine fh_get (own := "FormulaSetter$Typesetter") (ref := "FormulaSetter$Nucleus") (C := "FormulaSetter$Nucleus") (T := T_Nu) (N := 15) (v := .int ((C_27 b2) 0)) hx hb hT i_Nu hown hK hP (mkR_nu (hb2)) rfl 0 (by decide) (hT _ w87) (fun x9 h9 => u_same (hT _ w88) x9 h9) (rfl) (fh_d d_Ty_setFraction 101 rfl) ?_
    refine lv_isub hx hb (fh_d d_Ty_setFraction 102 rfl) ?_
    refine lv_iconst (v := 2) hx hb (fh_d d_Ty_setFraction 103 rfl) (by decide) ?_
    refine lv_idiv hx hb (fh_d d_Ty_setFraction 104 rfl) (by decide) ?_
    refine lv_iload hx hb (fh_d d_Ty_setFraction 105 rfl) (lv_at hl 1 rfl) ?_
    refine lv_ineg hx hb (fh_d d_Ty_setFraction 106 rfl) ?_
    refine fh_callV (cc' := c_Sh_move) (nL' := 5) (rest := []) (a := x + 227) (As := [.ref (x + 4 + b2), .int ((((2 * (yT si)) + (if ((C_27 a) 0) < ((C_27 b2) 0) then ((C_27 b2) 0) else ((C_27 a) 0))) - ((C_27 b2) 0)) / 2), .int (-(if (4 * (yS si)) < ((((C_27 b2) 1) + (yT si)) - ((yX si) - ((yT si) / 2))) then ((((C_27 b2) 1) + (yT si)) - ((yX si) - ((yT si) / 2))) else (4 * (yS si))))]) X hR (m_Sh_mvNu l D ct b RO (r - 1) (by omega) n x kA aA g (nI c_27) (mvF F_27 (ixI (C_27 a 3)) (ixI (C_27 a 4)) ((((2 * (yT si)) + (if ((C_27 a) 0) < ((C_27 b2) 0) then ((C_27 b2) 0) else ((C_27 a) 0))) - ((C_27 a) 0)) / 2) (if (4 * (yS si)) < (((((yX si) - ((yT si) / 2)) + (yT si)) + (yT si)) + ((C_27 a) 2)) then (((((yX si) - ((yT si) / 2)) + (yT si)) + (yT si)) + ((C_27 a) 2)) else (4 * (yS si)))) W_27 H_27 D_27 ro_27 co_27 nc lc tx len at_ C_27 R CL_27 RL b2 (hb2) (ob_27.1 b2 (hb2)).1 (ob_27.1 b2 (hb2)).2 ((((2 * (yT si)) + (if ((C_27 a) 0) < ((C_27 b2) 0) then ((C_27 b2) 0) else ((C_27 a) 0))) - ((C_27 b2) 0)) / 2) (-(if (4 * (yS si)) < ((((C_27 b2) 1) + (yT si)) - ((yX si) - ((yT si) / 2))) then ((((C_27 b2) 1) + (yT si)) - ((yX si) - ((yT si) / 2))) else (4 * (yS si))))) w723 w720 w721 w722 w7 ⟨by decide, by decide, by show _ = some 3; decide +kernel⟩ (by omega) (by decide) (fh_recv hK hP ((mkR_g (by omega) (by omega) (by omega)).trans mkG_sh) rfl) hP hS hl.1 rfl (by exact Nat.le_of_ble_eq_true rfl) (fh_d d_Ty_setFraction 107 rfl) ⟨Nat.le_refl _, Nat.le_refl _⟩ (fun v9 h9 n9 H locs hq hP hS => ?_)
    obtain ⟨rfl, q32a, q32b⟩ := hq
    rw [q32a, q32b] at hP
    refine W.eq (g2 := F0 m 204 ls []) rfl ?_
    refine lv_aload_n hx hb (fh_d d_Ty_setFraction 108 rfl) rfl (lv_at hl 9 rfl) ?_
    refine fh_get (own := "FormulaSetter$Typesetter") (ref := "FormulaSetter$Typesetter") (C := "FormulaSetter$Typesetter") (T := T_Ty) (N := 2) (v := .ref (x + 227)) hx hb hT i_Ty hown hK hP ((mkR_g (by omega) (by omega) (by omega)).trans mkG_ts) rfl 0 (by decide) (hT _ w247) (fun _ h9 => h9) rfl (fh_d d_Ty_setFraction 109 rfl) ?_
    refine lv_iload hx hb (fh_d d_Ty_setFraction 110 rfl) (lv_at hl 8 rfl) ?_
    refine lv_iconst (v := 1) hx hb (fh_d d_Ty_setFraction 111 rfl) (by decide) ?_
    refine lv_iconst (v := 0) hx hb (fh_d d_Ty_setFraction 112 rfl) (by decide) ?_
    refine lv_iconst (v := 0) hx hb (fh_d d_Ty_setFraction 113 rfl) (by decide) ?_
    refine lv_iload hx hb (fh_d d_Ty_setFraction 114 rfl) (lv_at hl 5 rfl) ?_
    refine lv_iload hx hb (fh_d d_Ty_setFraction 115 rfl) (lv_at hl 6 rfl) ?_
    refine lv_iload hx hb (fh_d d_Ty_setFraction 116 rfl) (lv_at hl 0 rfl) ?_
    refine fh_callV (cc' := c_Sh_put) (nL' := 9) (rest := []) (a := x + 227) (As := [.int (nI c_23), .int 1, .int 0, .int 0, .int ((yX si) - ((yT si) / 2)), .int (yT si), .int ((2 * (yT si)) + (if ((C_27 a) 0) < ((C_27 b2) 0) then ((C_27 b2) 0) else ((C_27 a) 0)))]) X hR (m_Sh_put l D ct b RO (r - 1) n x kA aA g (nI c_27) (mvF (mvF F_27 (ixI (C_27 a 3)) (ixI (C_27 a 4)) ((((2 * (yT si)) + (if ((C_27 a) 0) < ((C_27 b2) 0) then ((C_27 b2) 0) else ((C_27 a) 0))) - ((C_27 a) 0)) / 2) (if (4 * (yS si)) < (((((yX si) - ((yT si) / 2)) + (yT si)) + (yT si)) + ((C_27 a) 2)) then (((((yX si) - ((yT si) / 2)) + (yT si)) + (yT si)) + ((C_27 a) 2)) else (4 * (yS si)))) (ixI (C_27 b2 3)) (ixI (C_27 b2 4)) ((((2 * (yT si)) + (if ((C_27 a) 0) < ((C_27 b2) 0) then ((C_27 b2) 0) else ((C_27 a) 0))) - ((C_27 b2) 0)) / 2) (-(if (4 * (yS si)) < ((((C_27 b2) 1) + (yT si)) - ((yX si) - ((yT si) / 2))) then ((((C_27 b2) 1) + (yT si)) - ((yX si) - ((yT si) / 2))) else (4 * (yS si))))) W_27 H_27 D_27 ro_27 co_27 nc lc tx len at_ C_27 R CL_27 RL c_23 hc_23 1 0 0 ((yX si) - ((yT si) / 2)) (yT si) ((2 * (yT si)) + (if ((C_27 a) 0) < ((C_27 b2) 0) then ((C_27 b2) 0) else ((C_27 a) 0)))) w684 w681 w682 w683 w7 ⟨by decide, by decide, by show _ = some 7; decide +kernel⟩ (by omega) (by decide) (fh_recv hK hP ((mkR_g (by omega) (by omega) (by omega)).trans mkG_sh) rfl) hP hS hl.1 rfl (by exact Nat.le_of_ble_eq_true rfl) (fh_d d_Ty_setFraction 117 rfl) ⟨Nat.le_refl _, Nat.le_refl _⟩ (fun v9 h9 n9 H locs hq hP hS => ?_)
    obtain ⟨rfl, q33a, q33b⟩ := hq
    rw [q33a, q33b] at hP
    refine W.eq (g2 := F0 m 222 ls []) rfl ?_
    refine lv_aload_n hx hb (fh_d d_Ty_setFraction 118 rfl) rfl (lv_at hl 10 rfl) ?_
    refine lv_iload hx hb (fh_d d_Ty_setFraction 119 rfl) (lv_at hl 0 rfl) ?_
    refine lv_iload hx hb (fh_d d_Ty_setFraction 120 rfl) (lv_at hl 2 rfl) ?_
    refine lv_aload_n hx hb (fh_d d_Ty_setFraction 121 rfl) rfl (lv_at hl 11 rfl) ?_
    refine fh_get (own := "FormulaSetter$Typesetter") (ref := "FormulaSetter$Nucleus") (C := "FormulaSetter$Nucleus") (T := T_Nu) (N := 15) (v := .int ((C_27 a) 1)) hx hb hT i_Nu hown hK hP (mkR_nu (ha)) rfl 1 (by decide) (hT _ w94) (fun x9 h9 => u_same (hT _ w95) x9 h9) (rfl) (fh_d d_Ty_setFraction 122 rfl) ?_
    refine lv_iadd hx hb (fh_d d_Ty_setFraction 123 rfl) ?_
    refine lv_iload hx hb (fh_d d_Ty_setFraction 124 rfl) (lv_at hl 1 rfl) ?_
    refine lv_aload_n hx hb (fh_d d_Ty_setFraction 125 rfl) rfl (lv_at hl 12 rfl) ?_
    refine fh_get (own := "FormulaSetter$Typesetter") (ref := "FormulaSetter$Nucleus") (C := "FormulaSetter$Nucleus") (T := T_Nu) (N := 15) (v := .int ((C_27 b2) 2)) hx hb hT i_Nu hown hK hP (mkR_nu (hb2)) rfl 2 (by decide) (hT _ w101) (fun x9 h9 => u_same (hT _ w102) x9 h9) (rfl) (fh_d d_Ty_setFraction 126 rfl) ?_
    refine lv_iadd hx hb (fh_d d_Ty_setFraction 127 rfl) ?_
    refine fh_callU (cc' := c_Bo_measure) (nL' := 4) (rest := []) (a := x + 4 + i) (As := [.int ((2 * (yT si)) + (if ((C_27 a) 0) < ((C_27 b2) 0) then ((C_27 b2) 0) else ((C_27 a) 0))), .int ((if (4 * (yS si)) < (((((yX si) - ((yT si) / 2)) + (yT si)) + (yT si)) + ((C_27 a) 2)) then (((((yX si) - ((yT si) / 2)) + (yT si)) + (yT si)) + ((C_27 a) 2)) else (4 * (yS si))) + ((C_27 a) 1)), .int ((if (4 * (yS si)) < ((((C_27 b2) 1) + (yT si)) - ((yX si) - ((yT si) / 2))) then ((((C_27 b2) 1) + (yT si)) - ((yX si) - ((yT si) / 2))) else (4 * (yS si))) + ((C_27 b2) 2))]) (Ck := "FormulaSetter$Nucleus") (owner := "FormulaSetter$Box") (x' := ⟨"FormulaSetter$Nucleus", "measure", "(III)V"⟩) X hR (m_Bo_measureNu l D ct b RO (r - 1) n x kA aA g (nI c_27) (putF (mvF (mvF F_27 (ixI (C_27 a 3)) (ixI (C_27 a 4)) ((((2 * (yT si)) + (if ((C_27 a) 0) < ((C_27 b2) 0) then ((C_27 b2) 0) else ((C_27 a) 0))) - ((C_27 a) 0)) / 2) (if (4 * (yS si)) < (((((yX si) - ((yT si) / 2)) + (yT si)) + (yT si)) + ((C_27 a) 2)) then (((((yX si) - ((yT si) / 2)) + (yT si)) + (yT si)) + ((C_27 a) 2)) else (4 * (yS si)))) (ixI (C_27 b2 3)) (ixI (C_27 b2 4)) ((((2 * (yT si)) + (if ((C_27 a) 0) < ((C_27 b2) 0) then ((C_27 b2) 0) else ((C_27 a) 0))) - ((C_27 b2) 0)) / 2) (-(if (4 * (yS si)) < ((((C_27 b2) 1) + (yT si)) - ((yX si) - ((yT si) / 2))) then ((((C_27 b2) 1) + (yT si)) - ((yX si) - ((yT si) / 2))) else (4 * (yS si))))) c_23 1 0 0 ((yX si) - ((yT si) / 2)) (yT si) ((2 * (yT si)) + (if ((C_27 a) 0) < ((C_27 b2) 0) then ((C_27 b2) 0) else ((C_27 a) 0)))) W_27 H_27 D_27 ro_27 co_27 nc lc tx len at_ C_27 R CL_27 RL i (hi) ((2 * (yT si)) + (if ((C_27 a) 0) < ((C_27 b2) 0) then ((C_27 b2) 0) else ((C_27 a) 0))) ((if (4 * (yS si)) < (((((yX si) - ((yT si) / 2)) + (yT si)) + (yT si)) + ((C_27 a) 2)) then (((((yX si) - ((yT si) / 2)) + (yT si)) + (yT si)) + ((C_27 a) 2)) else (4 * (yS si))) + ((C_27 a) 1)) ((if (4 * (yS si)) < ((((C_27 b2) 1) + (yT si)) - ((yX si) - ((yT si) / 2))) then ((((C_27 b2) 1) + (yT si)) - ((yX si) - ((yT si) / 2))) else (4 * (yS si))) + ((C_27 b2) 2))) w655 w691 w692 rfl w654 w693 w3 ⟨by decide, by decide, by show _ = some 3; decide +kernel⟩ (by omega) (by decide) (fh_recv hK hP (mkR_nu (hi)) rfl) hP hS hl.1 rfl (by exact Nat.le_of_ble_eq_true rfl) (fh_d d_Ty_setFraction 128 rfl) ⟨Nat.le_refl _, Nat.le_refl _⟩ (fun v9 h9 n9 H locs hq hP hS => ?_)
    obtain ⟨rfl, q34a, q34b⟩ := hq
    rw [q34a, q34b] at hP
    refine W.eq (g2 := F0 m 242 ls []) rfl ?_
    have f35 : (sT (sT (sT C_27 i 0 ((2 * (yT si)) + (if ((C_27 a) 0) < ((C_27 b2) 0) then ((C_27 b2) 0) else ((C_27 a) 0)))) i 1 ((if (4 * (yS si)) < (((((yX si) - ((yT si) / 2)) + (yT si)) + (yT si)) + ((C_27 a) 2)) then (((((yX si) - ((yT si) / 2)) + (yT si)) + (yT si)) + ((C_27 a) 2)) else (4 * (yS si))) + ((C_27 a) 1))) i 2 ((if (4 * (yS si)) < ((((C_27 b2) 1) + (yT si)) - ((yX si) - ((yT si) / 2))) then ((((C_27 b2) 1) + (yT si)) - ((yX si) - ((yT si) / 2))) else (4 * (yS si))) + ((C_27 b2) 2))) i 0 = (2 * (yT si)) + (if ((C_27 a) 0) < ((C_27 b2) 0) then ((C_27 b2) 0) else ((C_27 a) 0)) := (sT_ne (by omega)).trans ((sT_ne (by omega)).trans sT_same)
    have f36 : (sT (sT (sT C_27 i 0 ((2 * (yT si)) + (if ((C_27 a) 0) < ((C_27 b2) 0) then ((C_27 b2) 0) else ((C_27 a) 0)))) i 1 ((if (4 * (yS si)) < (((((yX si) - ((yT si) / 2)) + (yT si)) + (yT si)) + ((C_27 a) 2)) then (((((yX si) - ((yT si) / 2)) + (yT si)) + (yT si)) + ((C_27 a) 2)) else (4 * (yS si))) + ((C_27 a) 1))) i 2 ((if (4 * (yS si)) < ((((C_27 b2) 1) + (yT si)) - ((yX si) - ((yT si) / 2))) then ((((C_27 b2) 1) + (yT si)) - ((yX si) - ((yT si) / 2))) else (4 * (yS si))) + ((C_27 b2) 2))) i 1 = (if (4 * (yS si)) < (((((yX si) - ((yT si) / 2)) + (yT si)) + (yT si)) + ((C_27 a) 2)) then (((((yX si) - ((yT si) / 2)) + (yT si)) + (yT si)) + ((C_27 a) 2)) else (4 * (yS si))) + ((C_27 a) 1) := (sT_ne (by omega)).trans sT_same
    have f37 : (sT (sT (sT C_27 i 0 ((2 * (yT si)) + (if ((C_27 a) 0) < ((C_27 b2) 0) then ((C_27 b2) 0) else ((C_27 a) 0)))) i 1 ((if (4 * (yS si)) < (((((yX si) - ((yT si) / 2)) + (yT si)) + (yT si)) + ((C_27 a) 2)) then (((((yX si) - ((yT si) / 2)) + (yT si)) + (yT si)) + ((C_27 a) 2)) else (4 * (yS si))) + ((C_27 a) 1))) i 2 ((if (4 * (yS si)) < ((((C_27 b2) 1) + (yT si)) - ((yX si) - ((yT si) / 2))) then ((((C_27 b2) 1) + (yT si)) - ((yX si) - ((yT si) / 2))) else (4 * (yS si))) + ((C_27 b2) 2))) i 2 = (if (4 * (yS si)) < ((((C_27 b2) 1) + (yT si)) - ((yX si) - ((yT si) / 2))) then ((((C_27 b2) 1) + (yT si)) - ((yX si) - ((yT si) / 2))) else (4 * (yS si))) + ((C_27 b2) 2) := sT_same
    have y38 : okB (sT (sT (sT C_27 i 0 ((2 * (yT si)) + (if ((C_27 a) 0) < ((C_27 b2) 0) then ((C_27 b2) 0) else ((C_27 a) 0)))) i 1 ((if (4 * (yS si)) < (((((yX si) - ((yT si) / 2)) + (yT si)) + (yT si)) + ((C_27 a) 2)) then (((((yX si) - ((yT si) / 2)) + (yT si)) + (yT si)) + ((C_27 a) 2)) else (4 * (yS si))) + ((C_27 a) 1))) i 2 ((if (4 * (yS si)) < ((((C_27 b2) 1) + (yT si)) - ((yX si) - ((yT si) / 2))) then ((((C_27 b2) 1) + (yT si)) - ((yX si) - ((yT si) / 2))) else (4 * (yS si))) + ((C_27 b2) 2))) CL_27 := okB_m ob_27 i ((2 * (yT si)) + (if ((C_27 a) 0) < ((C_27 b2) 0) then ((C_27 b2) 0) else ((C_27 a) 0))) ((if (4 * (yS si)) < (((((yX si) - ((yT si) / 2)) + (yT si)) + (yT si)) + ((C_27 a) 2)) then (((((yX si) - ((yT si) / 2)) + (yT si)) + (yT si)) + ((C_27 a) 2)) else (4 * (yS si))) + ((C_27 a) 1)) ((if (4 * (yS si)) < ((((C_27 b2) 1) + (yT si)) - ((yX si) - ((yT si) / 2))) then ((((C_27 b2) 1) + (yT si)) - ((yX si) - ((yT si) / 2))) else (4 * (yS si))) + ((C_27 b2) 2))
    refine fh_vret X hP hS (fh_d d_Ty_setFraction 129 rfl) ⟨rfl, ?_, rfl⟩
    · unfold sFrac; (try dsimp only); rw [← e_23]; dsimp only; rw [← e_27]; dsimp only; (try unfold frW frU frD frL frC frY); first | rfl | (simp only [if_neg hs0]; first | done | rfl)

set_option maxHeartbeats 4000000 in
set_option maxRecDepth 100000 in
theorem m_Ty_setRoot (l : Launch) (D : va_G) (ct : Nat → ClassId) (b : Nat) (RO : State → Prop) (hR : fh_R b RO) (sA sV : Nat → Nat) (hSt : ∀ U, RO U → ro_S b sA sV U) (kA aA yA : Nat → Nat) (tK tS tM : Nat) (hEn : ∀ U, RO U → ro_E b sA kA aA yA tK tS tM U) (hAd : ad_ok kA aA yA)  (n x : Nat) (g : fh_H) (c0 : Nat) (hc0 : c0 ≤ 120) (F W0 H0 D0 : Nat → Int32) (rows cols : Int32) (nc lc : Int32) (tx : Value) (len at_ : Int32) (C : Nat → Nat → Int32) (R : Nat → Nat → Option Nat) (CL : Nat → Nat → Int32) (RL : Nat → Nat → Option Nat) (hokB : okB C CL) (N1 : FN) (okN : Nat → Prop) (r0 : Nat) (hN1 : cSN l D ct b RO kA aA yA n x g nc lc tx len at_ R RL okN r0 N1) (hB1 : bSN 60 okN N1) (r : Nat) (hr : r0 + 1 ≤ r) (hr4 : 4 ≤ r) (i si : Nat) (hi : i < 60) (hsi : si < 4) (u : Nat) (hu : u < 60) (hou : okN u) : fh_C l D fh_cl (fh_tys ct) b RO y_Ty_setRoot (Cond.code y_Ty_setRoot c_Ty_setRoot 11 (Option.none : Option FieldType) :: fh_T) (fh_rm r 0 0) [.ref (x + 226), .ref (x + 4 + i), .ref (x + 4 + u), .ref (yA si)] (mkR x kA aA (mkG ct x g (nI c0) F W0 H0 D0 rows cols) nc lc tx len at_ C R CL RL) n (fun v h' n' => v = none ∧ h' = hz ct x kA aA g nc lc tx len at_ R RL (sRoot N1 i u si (c0, F, W0, H0, D0, rows, cols, C, CL)) ∧ n' = n) 0 0 := by
  refine fh_enter (by decide) (Nat.le_of_ble_eq_true rfl) [(0, .ref (x + 226)), (1, .ref (x + 4 + i)), (2, .ref (x + 4 + u)), (3, .ref (yA si))] rfl ?_
  intro p e s m args below meth c H ls X hP hS hl
  have hx := X.1
  have hb := X.2.1
  have hml := X.2.2.1
  have hown : s.vm.findClass "FormulaSetter$Typesetter" = some m.cls := X.2.2.2.1
  have hT := X.2.2.2.2.1
  have hK := X.2.2.2.2.2.1
  have hRO := X.2.2.2.2.2.2.1
  have hnm : meth.name = "setRoot" := X.2.2.2.2.2.2.2.2.2.2
  by_cases hs0 : si = 0
  · subst hs0
    refine lv_aload_n hx hb (fh_d d_Ty_setRoot 0 rfl) rfl (lv_at hl 2 rfl) ?_
    refine lv_ifnonnull (tgt := 5) hx hb (fh_d d_Ty_setRoot 1 rfl) rfl ?_
    refine lv_aload_n hx hb (fh_d d_Ty_setRoot 3 rfl) rfl (lv_at hl 0 rfl) ?_
    refine fh_get (own := "FormulaSetter$Typesetter") (ref := "FormulaSetter$Typesetter") (C := "FormulaSetter$Typesetter") (T := T_Ty) (N := 2) (v := .ref (x + 227)) hx hb hT i_Ty hown hK hP ((mkR_g (by omega) (by omega) (by omega)).trans mkG_ts) rfl 0 (by decide) (hT _ w247) (fun _ h9 => h9) rfl (fh_d d_Ty_setRoot 4 rfl) ?_
    refine fh_callV (cc' := c_Sh_reserve) (nL' := 2) (rest := []) (a := x + 227) (As := []) X hR (m_Sh_reserve l D ct b RO (r - 1) n x kA aA g c0 hc0 F W0 H0 D0 rows cols nc lc tx len at_ C R CL RL) w677 w674 w675 w676 w7 ⟨by decide, by decide, by show _ = some 0; decide +kernel⟩ (by omega) (by decide) (fh_recv hK hP ((mkR_g (by omega) (by omega) (by omega)).trans mkG_sh) rfl) hP hS hl.1 rfl (by exact Nat.le_of_ble_eq_true rfl) (fh_d d_Ty_setRoot 5 rfl) ⟨Nat.le_refl _, Nat.le_refl _⟩ (fun v9 h9 n9 H locs hq hP hS => ?_)
    obtain ⟨rfl, q2a, q2b⟩ := hq
    rw [q2a, q2b] at hP
    have y3 : rsv c0 ≤ 120 := rsv_le hc0
    replace hP : fh_P D fh_cl b (mkR x kA aA (mkG ct x g (nI (rsv c0)) F W0 H0 D0 rows cols) nc lc tx len at_ C R CL RL) n H := hP
    refine W.eq (g2 := F0 m 12 ls [.int (nI c0)]) rfl ?_
    refine lv_istore (lv' := [(4, .int (nI c0)), (0, .ref (x + 226)), (1, .ref (x + 4 + i)), (2, .ref (x + 4 + u)), (3, .ref (yA 0))]) hx hb (fh_d d_Ty_setRoot 6 rfl) hl (by decide) rfl (fun ls hl => ?_)
    refine lv_aload_n hx hb (fh_d d_Ty_setRoot 7 rfl) rfl (lv_at hl 1 rfl) ?_
    refine fh_get (own := "FormulaSetter$Typesetter") (ref := "FormulaSetter$Typesetter") (C := "FormulaSetter$Typesetter") (T := T_Ty) (N := 2) (v := .ref (x + 227)) hx hb hT i_Ty hown hK hP ((mkR_g (by omega) (by omega) (by omega)).trans mkG_ts) rfl 0 (by decide) (hT _ w247) (fun _ h9 => h9) rfl (fh_d d_Ty_setRoot 8 rfl) ?_
    refine fh_callV (cc' := c_Sh_reserve) (nL' := 2) (rest := []) (a := x + 227) (As := []) X hR (m_Sh_reserve l D ct b RO (r - 1) n x kA aA g (rsv c0) y3 F W0 H0 D0 rows cols nc lc tx len at_ C R CL RL) w677 w674 w675 w676 w7 ⟨by decide, by decide, by show _ = some 0; decide +kernel⟩ (by omega) (by decide) (fh_recv hK hP ((mkR_g (by omega) (by omega) (by omega)).trans mkG_sh) rfl) hP hS hl.1 rfl (by exact Nat.le_of_ble_eq_true rfl) (fh_d d_Ty_setRoot 9 rfl) ⟨Nat.le_refl _, Nat.le_refl _⟩ (fun v9 h9 n9 H locs hq hP hS => ?_)
    obtain ⟨rfl, q4a, q4b⟩ := hq
    rw [q4a, q4b] at hP
    have y5 : rsv (rsv c0) ≤ 120 := rsv_le y3
    replace hP : fh_P D fh_cl b (mkR x kA aA (mkG ct x g (nI (rsv (rsv c0))) F W0 H0 D0 rows cols) nc lc tx len at_ C R CL RL) n H := hP
    refine W.eq (g2 := F0 m 21 ls [.int (nI (rsv c0))]) rfl ?_
    refine lv_istore (lv' := [(5, .int (nI (rsv c0))), (4, .int (nI c0)), (0, .ref (x + 226)), (1, .ref (x + 4 + i)), (2, .ref (x + 4 + u)), (3, .ref (yA 0))]) hx hb (fh_d d_Ty_setRoot 10 rfl) hl (by decide) rfl (fun ls hl => ?_)
    refine lv_aload_n hx hb (fh_d d_Ty_setRoot 11 rfl) rfl (lv_at hl 2 rfl) ?_
    refine lv_aload_n hx hb (fh_d d_Ty_setRoot 12 rfl) rfl (lv_at hl 4 rfl) ?_
    refine lv_aload_n hx hb (fh_d d_Ty_setRoot 13 rfl) rfl (lv_at hl 5 rfl) ?_
    refine lv_iconst (v := 1) hx hb (fh_d d_Ty_setRoot 14 rfl) (by decide) ?_
    refine W.eq (g2 := F0 m 27 ls [.int (nI 1), .ref (yA 0), .ref (x + 4 + u), .ref (x + 226)]) rfl ?_
    refine fh_callV (cc' := c_Ty_setNucleus) (nL' := 4) (rest := []) (a := x + 226) (As := [.ref (x + 4 + u), .ref (yA 0), .int (nI 1)]) X hR (hN1 (r - 1) (by omega) (rsv (rsv c0), F, W0, H0, D0, rows, cols, C, CL) ⟨y5, hokB⟩ u 0 1 (hu) hou (by decide) (by omega)) w663 w660 w662 v19 w6 ⟨by decide, by decide, by show _ = some 3; decide +kernel⟩ (by omega) (by decide) (fh_recv hK hP ((mkR_g (by omega) (by omega) (by omega)).trans mkG_ts) rfl) hP hS hl.1 rfl (by exact Nat.le_of_ble_eq_true rfl) (fh_d d_Ty_setRoot 15 rfl) ⟨Nat.le_refl _, Nat.le_refl _⟩ (fun v9 h9 n9 H locs hq hP hS => ?_)
    obtain ⟨⟨c_6, F_6, W_6, H_6, D_6, ro_6, co_6, C_6, CL_6⟩, e_6⟩ : ∃ z, z = N1 (rsv (rsv c0), F, W0, H0, D0, rows, cols, C, CL) u 0 1 := ⟨_, rfl⟩
    obtain ⟨rfl, q_6a, q_6b⟩ := hq
    rw [← e_6] at q_6a
    rw [q_6a, q_6b] at hP
    have o_6 : okT (c_6, F_6, W_6, H_6, D_6, ro_6, co_6, C_6, CL_6) := by rw [e_6]; exact hB1 _ _ _ _ ⟨y5, hokB⟩ (hu) hou
    have hc_6 : c_6 ≤ 120 := o_6.1
    have ob_6 : okB C_6 CL_6 := o_6.2
    replace hP : fh_P D fh_cl b (mkR x kA aA (mkG ct x g (nI c_6) F_6 W_6 H_6 D_6 ro_6 co_6) nc lc tx len at_ C_6 R CL_6 RL) n H := hP
    refine W.eq (g2 := F0 m 30 ls []) rfl ?_
    refine lv_aload_n hx hb (fh_d d_Ty_setRoot 16 rfl) rfl (lv_at hl 5 rfl) ?_
    refine vk_getf (own := "FormulaSetter$Typesetter") (ref := "FormulaSetter$Style") hx hb (((hEn _ hRO).2.2.1 0 (by decide)).2.2.2.2.1) hS hown (hT _ w1251) (fun _ h9 => h9) (fh_d d_Ty_setRoot 17 rfl) ?_
    refine lv_istore (lv' := [(6, .int (yT 0)), (5, .int (nI (rsv c0))), (4, .int (nI c0)), (0, .ref (x + 226)), (1, .ref (x + 4 + i)), (2, .ref (x + 4 + u)), (3, .ref (yA 0))]) hx hb (fh_d d_Ty_setRoot 18 rfl) hl (by decide) rfl (fun ls hl => ?_)
    refine lv_iconst (v := 5) hx hb (fh_d d_Ty_setRoot 19 rfl) (by decide) ?_
    refine lv_aload_n hx hb (fh_d d_Ty_setRoot 20 rfl) rfl (lv_at hl 6 rfl) ?_
    refine vk_getf (own := "FormulaSetter$Typesetter") (ref := "FormulaSetter$Style") hx hb (((hEn _ hRO).2.2.1 0 (by decide)).2.2.2.1) hS hown (hT _ w1249) (fun _ h9 => h9) (fh_d d_Ty_setRoot 21 rfl) ?_
    refine lv_imul hx hb (fh_d d_Ty_setRoot 22 rfl) ?_
    refine lv_istore (lv' := [(7, .int (5 * (yS 0))), (6, .int (yT 0)), (5, .int (nI (rsv c0))), (4, .int (nI c0)), (0, .ref (x + 226)), (1, .ref (x + 4 + i)), (2, .ref (x + 4 + u)), (3, .ref (yA 0))]) hx hb (fh_d d_Ty_setRoot 23 rfl) hl (by decide) rfl (fun ls hl => ?_)
    refine lv_aload_n hx hb (fh_d d_Ty_setRoot 24 rfl) rfl (lv_at hl 6 rfl) ?_
    refine fh_get (own := "FormulaSetter$Typesetter") (ref := "FormulaSetter$Nucleus") (C := "FormulaSetter$Nucleus") (T := T_Nu) (N := 15) (v := .int ((C_6 u) 1)) hx hb hT i_Nu hown hK hP (mkR_nu (hu)) rfl 1 (by decide) (hT _ w94) (fun x9 h9 => u_same (hT _ w95) x9 h9) (rfl) (fh_d d_Ty_setRoot 25 rfl) ?_
    refine lv_iload hx hb (fh_d d_Ty_setRoot 26 rfl) (lv_at hl 1 rfl) ?_
    refine lv_iadd hx hb (fh_d d_Ty_setRoot 27 rfl) ?_
    refine lv_aload_n hx hb (fh_d d_Ty_setRoot 28 rfl) rfl (lv_at hl 7 rfl) ?_
    refine va_gets (own := "FormulaSetter$Typesetter") (ref := "FormulaSetter$Style") (n := "DISPLAY") hx hb ((hEn _ hRO).2.2.1 0 (by decide)).1 hS hown (hT _ w702) (fun _ h9 => h9) (fh_d d_Ty_setRoot 29 rfl) ?_
    refine lv_acmp_ne (rx := some (yA 0)) (ry := some (yA 0)) (tgt := 65) hx hb (fh_d d_Ty_setRoot 30 rfl) rfl (fun c7 => absurd c7 (Classical.not_not.mpr rfl)) (fun c7 => ?_)
    refine lv_aload_n hx hb (fh_d d_Ty_setRoot 31 rfl) rfl (lv_at hl 7 rfl) ?_
    refine vk_getf (own := "FormulaSetter$Typesetter") (ref := "FormulaSetter$Style") hx hb (((hEn _ hRO).2.2.1 0 (by decide)).2.2.2.1) hS hown (hT _ w1249) (fun _ h9 => h9) (fh_d d_Ty_setRoot 32 rfl) ?_
    refine lv_goto (tgt := 67) hx hb (fh_d d_Ty_setRoot 33 rfl) rfl ?_
    refine lv_iadd hx hb (fh_d d_Ty_setRoot 35 rfl) ?_
    refine lv_istore (lv' := [(8, .int ((((C_6 u) 1) + (yT 0)) + (yS 0))), (7, .int (5 * (yS 0))), (6, .int (yT 0)), (5, .int (nI (rsv c0))), (4, .int (nI c0)), (0, .ref (x + 226)), (1, .ref (x + 4 + i)), (2, .ref (x + 4 + u)), (3, .ref (yA 0))]) hx hb (fh_d d_Ty_setRoot 36 rfl) hl (by decide) rfl (fun ls hl => ?_)
    refine lv_iload hx hb (fh_d d_Ty_setRoot 37 rfl) (lv_at hl 0 rfl) ?_
    refine lv_iload hx hb (fh_d d_Ty_setRoot 38 rfl) (lv_at hl 2 rfl) ?_
    refine lv_iadd hx hb (fh_d d_Ty_setRoot 39 rfl) ?_
    refine lv_istore (lv' := [(9, .int (((((C_6 u) 1) + (yT 0)) + (yS 0)) + (yT 0))), (8, .int ((((C_6 u) 1) + (yT 0)) + (yS 0))), (7, .int (5 * (yS 0))), (6, .int (yT 0)), (5, .int (nI (rsv c0))), (4, .int (nI c0)), (0, .ref (x + 226)), (1, .ref (x + 4 + i)), (2, .ref (x + 4 + u)), (3, .ref (yA 0))]) hx hb (fh_d d_Ty_setRoot 40 rfl) hl (by decide) rfl (fun ls hl => ?_)
    refine lv_aload_n hx hb (fh_d d_Ty_setRoot 41 rfl) rfl (lv_at hl 9 rfl) ?_
    refine lv_iload hx hb (fh_d d_Ty_setRoot 42 rfl) (lv_at hl 0 rfl) ?_
    refine lv_aload_n hx hb (fh_d d_Ty_setRoot 43 rfl) rfl (lv_at hl 8 rfl) ?_
    refine fh_get (own := "FormulaSetter$Typesetter") (ref := "FormulaSetter$Nucleus") (C := "FormulaSetter$Nucleus") (T := T_Nu) (N := 15) (v := .int ((C_6 u) 2)) hx hb hT i_Nu hown hK hP (mkR_nu (hu)) rfl 2 (by decide) (hT _ w101) (fun x9 h9 => u_same (hT _ w102) x9 h9) (rfl) (fh_d d_Ty_setRoot 44 rfl) ?_
    refine lv_iadd hx hb (fh_d d_Ty_setRoot 45 rfl) ?_
    refine fh_callV (cc' := c_Sy_tallFor) (nL' := 3) (rest := []) (a := yA 0) (As := [.int ((((((C_6 u) 1) + (yT 0)) + (yS 0)) + (yT 0)) + ((C_6 u) 2))]) X hR (m_Sy_tallFor l D ct b RO sA sV hSt kA aA yA tK tS tM hEn hAd (r - 1) n 0 (by decide) ((((((C_6 u) 1) + (yT 0)) + (yS 0)) + (yT 0)) + ((C_6 u) 2)) (mkR x kA aA (mkG ct x g (nI c_6) F_6 W_6 H_6 D_6 ro_6 co_6) nc lc tx len at_ C_6 R CL_6 RL)) w732 w729 w730 w731 w24 ⟨by decide, by decide, by show _ = some 1; decide +kernel⟩ (by omega) (by decide) (fs_recv ((hEn _ hRO).2.2.1 0 (by decide)).2.1 hS) hP hS hl.1 rfl (by exact Nat.le_of_ble_eq_true rfl) (fh_d d_Ty_setRoot 46 rfl) ⟨Nat.le_refl _, Nat.le_refl _⟩ (fun v9 h9 n9 H locs hq hP hS => ?_)
    obtain ⟨rfl, q8a, q8b⟩ := hq
    rw [q8a, q8b] at hP
    refine W.eq (g2 := F0 m 88 ls [.int (yTa 0 ((((((C_6 u) 1) + (yT 0)) + (yS 0)) + (yT 0)) + ((C_6 u) 2)))]) rfl ?_
    refine lv_istore (lv' := [(10, .int (yTa 0 ((((((C_6 u) 1) + (yT 0)) + (yS 0)) + (yT 0)) + ((C_6 u) 2)))), (9, .int (((((C_6 u) 1) + (yT 0)) + (yS 0)) + (yT 0))), (8, .int ((((C_6 u) 1) + (yT 0)) + (yS 0))), (7, .int (5 * (yS 0))), (6, .int (yT 0)), (5, .int (nI (rsv c0))), (4, .int (nI c0)), (0, .ref (x + 226)), (1, .ref (x + 4 + i)), (2, .ref (x + 4 + u)), (3, .ref (yA 0))]) hx hb (fh_d d_Ty_setRoot 47 rfl) hl (by decide) rfl (fun ls hl => ?_)
    refine lv_aload_n hx hb (fh_d d_Ty_setRoot 48 rfl) rfl (lv_at hl 7 rfl) ?_
    refine fh_get (own := "FormulaSetter$Typesetter") (ref := "FormulaSetter$Typesetter") (C := "FormulaSetter$Typesetter") (T := T_Ty) (N := 2) (v := .ref (x + 227)) hx hb hT i_Ty hown hK hP ((mkR_g (by omega) (by omega) (by omega)).trans mkG_ts) rfl 0 (by decide) (hT _ w247) (fun _ h9 => h9) rfl (fh_d d_Ty_setRoot 49 rfl) ?_
    refine lv_iload hx hb (fh_d d_Ty_setRoot 50 rfl) (lv_at hl 6 rfl) ?_
    refine lv_iconst (v := 2) hx hb (fh_d d_Ty_setRoot 51 rfl) (by decide) ?_
    refine lv_bipush (v := 35) hx hb (fh_d d_Ty_setRoot 52 rfl) (by decide) ?_
    refine lv_iconst (v := 0) hx hb (fh_d d_Ty_setRoot 53 rfl) (by decide) ?_
    refine lv_iload hx hb (fh_d d_Ty_setRoot 54 rfl) (lv_at hl 1 rfl) ?_
    refine lv_iload hx hb (fh_d d_Ty_setRoot 55 rfl) (lv_at hl 0 rfl) ?_
    refine lv_isub hx hb (fh_d d_Ty_setRoot 56 rfl) ?_
    refine lv_iload hx hb (fh_d d_Ty_setRoot 57 rfl) (lv_at hl 0 rfl) ?_
    refine lv_iload hx hb (fh_d d_Ty_setRoot 58 rfl) (lv_at hl 3 rfl) ?_
    refine fh_callV (cc' := c_Sh_put) (nL' := 9) (rest := []) (a := x + 227) (As := [.int (nI c0), .int 2, .int 35, .int 0, .int ((((((C_6 u) 1) + (yT 0)) + (yS 0)) + (yT 0)) - (yTa 0 ((((((C_6 u) 1) + (yT 0)) + (yS 0)) + (yT 0)) + ((C_6 u) 2)))), .int (yTa 0 ((((((C_6 u) 1) + (yT 0)) + (yS 0)) + (yT 0)) + ((C_6 u) 2))), .int (5 * (yS 0))]) X hR (m_Sh_put l D ct b RO (r - 1) n x kA aA g (nI c_6) F_6 W_6 H_6 D_6 ro_6 co_6 nc lc tx len at_ C_6 R CL_6 RL c0 hc0 2 35 0 ((((((C_6 u) 1) + (yT 0)) + (yS 0)) + (yT 0)) - (yTa 0 ((((((C_6 u) 1) + (yT 0)) + (yS 0)) + (yT 0)) + ((C_6 u) 2)))) (yTa 0 ((((((C_6 u) 1) + (yT 0)) + (yS 0)) + (yT 0)) + ((C_6 u) 2))) (5 * (yS 0))) w684 w681 w682 w683 w7 ⟨by decide, by decide, by show _ = some 7; decide +kernel⟩ (by omega) (by decide) (fh_recv hK hP ((mkR_g (by omega) (by omega) (by omega)).trans mkG_sh) rfl) hP hS hl.1 rfl (by exact Nat.le_of_ble_eq_true rfl) (fh_d d_Ty_setRoot 59 rfl) ⟨Nat.le_refl _, Nat.le_refl _⟩ (fun v9 h9 n9 H locs hq hP hS => ?_)
    obtain ⟨rfl, q9a, q9b⟩ := hq
    rw [q9a, q9b] at hP
    refine W.eq (g2 := F0 m 112 ls []) rfl ?_
    refine lv_aload_n hx hb (fh_d d_Ty_setRoot 60 rfl) rfl (lv_at hl 7 rfl) ?_
    refine fh_get (own := "FormulaSetter$Typesetter") (ref := "FormulaSetter$Typesetter") (C := "FormulaSetter$Typesetter") (T := T_Ty) (N := 2) (v := .ref (x + 227)) hx hb hT i_Ty hown hK hP ((mkR_g (by omega) (by omega) (by omega)).trans mkG_ts) rfl 0 (by decide) (hT _ w247) (fun _ h9 => h9) rfl (fh_d d_Ty_setRoot 61 rfl) ?_
    refine lv_iload hx hb (fh_d d_Ty_setRoot 62 rfl) (lv_at hl 5 rfl) ?_
    refine lv_iconst (v := 1) hx hb (fh_d d_Ty_setRoot 63 rfl) (by decide) ?_
    refine lv_iconst (v := 0) hx hb (fh_d d_Ty_setRoot 64 rfl) (by decide) ?_
    refine lv_iload hx hb (fh_d d_Ty_setRoot 65 rfl) (lv_at hl 3 rfl) ?_
    refine lv_iload hx hb (fh_d d_Ty_setRoot 66 rfl) (lv_at hl 2 rfl) ?_
    refine lv_iload hx hb (fh_d d_Ty_setRoot 67 rfl) (lv_at hl 4 rfl) ?_
    refine lv_aload_n hx hb (fh_d d_Ty_setRoot 68 rfl) rfl (lv_at hl 9 rfl) ?_
    refine fh_get (own := "FormulaSetter$Typesetter") (ref := "FormulaSetter$Nucleus") (C := "FormulaSetter$Nucleus") (T := T_Nu) (N := 15) (v := .int ((C_6 u) 0)) hx hb hT i_Nu hown hK hP (mkR_nu (hu)) rfl 0 (by decide) (hT _ w87) (fun x9 h9 => u_same (hT _ w88) x9 h9) (rfl) (fh_d d_Ty_setRoot 69 rfl) ?_
    refine fh_callV (cc' := c_Sh_put) (nL' := 9) (rest := []) (a := x + 227) (As := [.int (nI (rsv c0)), .int 1, .int 0, .int (5 * (yS 0)), .int ((((C_6 u) 1) + (yT 0)) + (yS 0)), .int (yT 0), .int ((C_6 u) 0)]) X hR (m_Sh_put l D ct b RO (r - 1) n x kA aA g (nI c_6) (putF F_6 c0 2 35 0 ((((((C_6 u) 1) + (yT 0)) + (yS 0)) + (yT 0)) - (yTa 0 ((((((C_6 u) 1) + (yT 0)) + (yS 0)) + (yT 0)) + ((C_6 u) 2)))) (yTa 0 ((((((C_6 u) 1) + (yT 0)) + (yS 0)) + (yT 0)) + ((C_6 u) 2))) (5 * (yS 0))) W_6 H_6 D_6 ro_6 co_6 nc lc tx len at_ C_6 R CL_6 RL (rsv c0) (rsv_le hc0) 1 0 (5 * (yS 0)) ((((C_6 u) 1) + (yT 0)) + (yS 0)) (yT 0) ((C_6 u) 0)) w684 w681 w682 w683 w7 ⟨by decide, by decide, by show _ = some 7; decide +kernel⟩ (by omega) (by decide) (fh_recv hK hP ((mkR_g (by omega) (by omega) (by omega)).trans mkG_sh) rfl) hP hS hl.1 rfl (by exact Nat.le_of_ble_eq_true rfl) (fh_d d_Ty_setRoot 70 rfl) ⟨Nat.le_refl _, Nat.le_refl _⟩ (fun v9 h9 n9 H locs hq hP hS => ?_)
    obtain ⟨rfl, q10a, q10b⟩ := hq
    rw [q10a, q10b] at hP
    refine W.eq (g2 := F0 m 133 ls []) rfl ?_
    refine lv_aload_n hx hb (fh_d d_Ty_setRoot 71 rfl) rfl (lv_at hl 7 rfl) ?_
    refine fh_get (own := "FormulaSetter$Typesetter") (ref := "FormulaSetter$Typesetter") (C := "FormulaSetter$Typesetter") (T := T_Ty) (N := 2) (v := .ref (x + 227)) hx hb hT i_Ty hown hK hP ((mkR_g (by omega) (by omega) (by omega)).trans mkG_ts) rfl 0 (by decide) (hT _ w247) (fun _ h9 => h9) rfl (fh_d d_Ty_setRoot 72 rfl) ?_
    refine lv_aload_n hx hb (fh_d d_Ty_setRoot 73 rfl) rfl (lv_at hl 9 rfl) ?_
    refine lv_iload hx hb (fh_d d_Ty_setRoot 74 rfl) (lv_at hl 3 rfl) ?_
    refine lv_iconst (v := 0) hx hb (fh_d d_Ty_setRoot 75 rfl) (by decide) ?_
    refine fh_callV (cc' := c_Sh_move) (nL' := 5) (rest := []) (a := x + 227) (As := [.ref (x + 4 + u), .int (5 * (yS 0)), .int 0]) X hR (m_Sh_mvNu l D ct b RO (r - 1) (by omega) n x kA aA g (nI c_6) (putF (putF F_6 c0 2 35 0 ((((((C_6 u) 1) + (yT 0)) + (yS 0)) + (yT 0)) - (yTa 0 ((((((C_6 u) 1) + (yT 0)) + (yS 0)) + (yT 0)) + ((C_6 u) 2)))) (yTa 0 ((((((C_6 u) 1) + (yT 0)) + (yS 0)) + (yT 0)) + ((C_6 u) 2))) (5 * (yS 0))) (rsv c0) 1 0 (5 * (yS 0)) ((((C_6 u) 1) + (yT 0)) + (yS 0)) (yT 0) ((C_6 u) 0)) W_6 H_6 D_6 ro_6 co_6 nc lc tx len at_ C_6 R CL_6 RL u (hu) (ob_6.1 u (hu)).1 (ob_6.1 u (hu)).2 (5 * (yS 0)) 0) w723 w720 w721 w722 w7 ⟨by decide, by decide, by show _ = some 3; decide +kernel⟩ (by omega) (by decide) (fh_recv hK hP ((mkR_g (by omega) (by omega) (by omega)).trans mkG_sh) rfl) hP hS hl.1 rfl (by exact Nat.le_of_ble_eq_true rfl) (fh_d d_Ty_setRoot 76 rfl) ⟨Nat.le_refl _, Nat.le_refl _⟩ (fun v9 h9 n9 H locs hq hP hS => ?_)
    obtain ⟨rfl, q11a, q11b⟩ := hq
    rw [q11a, q11b] at hP
    refine W.eq (g2 := F0 m 144 ls []) rfl ?_
    refine lv_aload_n hx hb (fh_d d_Ty_setRoot 77 rfl) rfl (lv_at hl 8 rfl) ?_
    refine lv_iload hx hb (fh_d d_Ty_setRoot 78 rfl) (lv_at hl 3 rfl) ?_
    refine lv_aload_n hx hb (fh_d d_Ty_setRoot 79 rfl) rfl (lv_at hl 9 rfl) ?_
    refine fh_get (own := "FormulaSetter$Typesetter") (ref := "FormulaSetter$Nucleus") (C := "FormulaSetter$Nucleus") (T := T_Nu) (N := 15) (v := .int ((C_6 u) 0)) hx hb hT i_Nu hown hK hP (mkR_nu (hu)) rfl 0 (by decide) (hT _ w87) (fun x9 h9 => u_same (hT _ w88) x9 h9) (rfl) (fh_d d_Ty_setRoot 80 rfl) ?_
    refine lv_iadd hx hb (fh_d d_Ty_setRoot 81 rfl) ?_
    refine lv_iload hx hb (fh_d d_Ty_setRoot 82 rfl) (lv_at hl 1 rfl) ?_
    refine lv_aload_n hx hb (fh_d d_Ty_setRoot 83 rfl) rfl (lv_at hl 9 rfl) ?_
    refine fh_get (own := "FormulaSetter$Typesetter") (ref := "FormulaSetter$Nucleus") (C := "FormulaSetter$Nucleus") (T := T_Nu) (N := 15) (v := .int ((C_6 u) 2)) hx hb hT i_Nu hown hK hP (mkR_nu (hu)) rfl 2 (by decide) (hT _ w101) (fun x9 h9 => u_same (hT _ w102) x9 h9) (rfl) (fh_d d_Ty_setRoot 84 rfl) ?_
    refine lv_iload hx hb (fh_d d_Ty_setRoot 85 rfl) (lv_at hl 0 rfl) ?_
    refine lv_iload hx hb (fh_d d_Ty_setRoot 86 rfl) (lv_at hl 1 rfl) ?_
    refine lv_isub hx hb (fh_d d_Ty_setRoot 87 rfl) ?_
    refine va_mmax hx hb (hml.trans hl.1.symm) hown (hT _ w704) (hT _ w431) (hT _ w14) (hT _ w432) (by show 1 ≤ r; omega) (by show _ ≤ 60 * r; simp [Value.category]; omega) (Nat.le_refl _) (Nat.le_refl _) (fh_d d_Ty_setRoot 88 rfl) ?_
    refine fh_callU (cc' := c_Bo_measure) (nL' := 4) (rest := []) (a := x + 4 + i) (As := [.int ((5 * (yS 0)) + ((C_6 u) 0)), .int (((((C_6 u) 1) + (yT 0)) + (yS 0)) + (yT 0)), .int (if ((C_6 u) 2) < ((yTa 0 ((((((C_6 u) 1) + (yT 0)) + (yS 0)) + (yT 0)) + ((C_6 u) 2))) - (((((C_6 u) 1) + (yT 0)) + (yS 0)) + (yT 0))) then ((yTa 0 ((((((C_6 u) 1) + (yT 0)) + (yS 0)) + (yT 0)) + ((C_6 u) 2))) - (((((C_6 u) 1) + (yT 0)) + (yS 0)) + (yT 0))) else ((C_6 u) 2))]) (Ck := "FormulaSetter$Nucleus") (owner := "FormulaSetter$Box") (x' := ⟨"FormulaSetter$Nucleus", "measure", "(III)V"⟩) X hR (m_Bo_measureNu l D ct b RO (r - 1) n x kA aA g (nI c_6) (mvF (putF (putF F_6 c0 2 35 0 ((((((C_6 u) 1) + (yT 0)) + (yS 0)) + (yT 0)) - (yTa 0 ((((((C_6 u) 1) + (yT 0)) + (yS 0)) + (yT 0)) + ((C_6 u) 2)))) (yTa 0 ((((((C_6 u) 1) + (yT 0)) + (yS 0)) + (yT 0)) + ((C_6 u) 2))) (5 * (yS 0))) (rsv c0) 1 0 (5 * (yS 0)) ((((C_6 u) 1) + (yT 0)) + (yS 0)) (yT 0) ((C_6 u) 0)) (ixI (C_6 u 3)) (ixI (C_6 u 4)) (5 * (yS 0)) 0) W_6 H_6 D_6 ro_6 co_6 nc lc tx len at_ C_6 R CL_6 RL i (hi) ((5 * (yS 0)) + ((C_6 u) 0)) (((((C_6 u) 1) + (yT 0)) + (yS 0)) + (yT 0)) (if ((C_6 u) 2) < ((yTa 0 ((((((C_6 u) 1) + (yT 0)) + (yS 0)) + (yT 0)) + ((C_6 u) 2))) - (((((C_6 u) 1) + (yT 0)) + (yS 0)) + (yT 0))) then ((yTa 0 ((((((C_6 u) 1) + (yT 0)) + (yS 0)) + (yT 0)) + ((C_6 u) 2))) - (((((C_6 u) 1) + (yT 0)) + (yS 0)) + (yT 0))) else ((C_6 u) 2))) w655 w691 w692 rfl w654 w693 w3 ⟨by decide, by decide, by show _ = some 3; decide +kernel⟩ (by omega) (by decide) (fh_recv hK hP (mkR_nu (hi)) rfl) hP hS hl.1 rfl (by exact Nat.le_of_ble_eq_true rfl) (fh_d d_Ty_setRoot 89 rfl) ⟨Nat.le_refl _, Nat.le_refl _⟩ (fun v9 h9 n9 H locs hq hP hS => ?_)
    obtain ⟨rfl, q12a, q12b⟩ := hq
    rw [q12a, q12b] at hP
    refine W.eq (g2 := F0 m 169 ls []) rfl ?_
    have f13 : (sT (sT (sT C_6 i 0 ((5 * (yS 0)) + ((C_6 u) 0))) i 1 (((((C_6 u) 1) + (yT 0)) + (yS 0)) + (yT 0))) i 2 (if ((C_6 u) 2) < ((yTa 0 ((((((C_6 u) 1) + (yT 0)) + (yS 0)) + (yT 0)) + ((C_6 u) 2))) - (((((C_6 u) 1) + (yT 0)) + (yS 0)) + (yT 0))) then ((yTa 0 ((((((C_6 u) 1) + (yT 0)) + (yS 0)) + (yT 0)) + ((C_6 u) 2))) - (((((C_6 u) 1) + (yT 0)) + (yS 0)) + (yT 0))) else ((C_6 u) 2))) i 0 = (5 * (yS 0)) + ((C_6 u) 0) := (sT_ne (by omega)).trans ((sT_ne (by omega)).trans sT_same)
    have f14 : (sT (sT (sT C_6 i 0 ((5 * (yS 0)) + ((C_6 u) 0))) i 1 (((((C_6 u) 1) + (yT 0)) + (yS 0)) + (yT 0))) i 2 (if ((C_6 u) 2) < ((yTa 0 ((((((C_6 u) 1) + (yT 0)) + (yS 0)) + (yT 0)) + ((C_6 u) 2))) - (((((C_6 u) 1) + (yT 0)) + (yS 0)) + (yT 0))) then ((yTa 0 ((((((C_6 u) 1) + (yT 0)) + (yS 0)) + (yT 0)) + ((C_6 u) 2))) - (((((C_6 u) 1) + (yT 0)) + (yS 0)) + (yT 0))) else ((C_6 u) 2))) i 1 = ((((C_6 u) 1) + (yT 0)) + (yS 0)) + (yT 0) := (sT_ne (by omega)).trans sT_same
    have f15 : (sT (sT (sT C_6 i 0 ((5 * (yS 0)) + ((C_6 u) 0))) i 1 (((((C_6 u) 1) + (yT 0)) + (yS 0)) + (yT 0))) i 2 (if ((C_6 u) 2) < ((yTa 0 ((((((C_6 u) 1) + (yT 0)) + (yS 0)) + (yT 0)) + ((C_6 u) 2))) - (((((C_6 u) 1) + (yT 0)) + (yS 0)) + (yT 0))) then ((yTa 0 ((((((C_6 u) 1) + (yT 0)) + (yS 0)) + (yT 0)) + ((C_6 u) 2))) - (((((C_6 u) 1) + (yT 0)) + (yS 0)) + (yT 0))) else ((C_6 u) 2))) i 2 = if ((C_6 u) 2) < ((yTa 0 ((((((C_6 u) 1) + (yT 0)) + (yS 0)) + (yT 0)) + ((C_6 u) 2))) - (((((C_6 u) 1) + (yT 0)) + (yS 0)) + (yT 0))) then ((yTa 0 ((((((C_6 u) 1) + (yT 0)) + (yS 0)) + (yT 0)) + ((C_6 u) 2))) - (((((C_6 u) 1) + (yT 0)) + (yS 0)) + (yT 0))) else ((C_6 u) 2) := sT_same
    have y16 : okB (sT (sT (sT C_6 i 0 ((5 * (yS 0)) + ((C_6 u) 0))) i 1 (((((C_6 u) 1) + (yT 0)) + (yS 0)) + (yT 0))) i 2 (if ((C_6 u) 2) < ((yTa 0 ((((((C_6 u) 1) + (yT 0)) + (yS 0)) + (yT 0)) + ((C_6 u) 2))) - (((((C_6 u) 1) + (yT 0)) + (yS 0)) + (yT 0))) then ((yTa 0 ((((((C_6 u) 1) + (yT 0)) + (yS 0)) + (yT 0)) + ((C_6 u) 2))) - (((((C_6 u) 1) + (yT 0)) + (yS 0)) + (yT 0))) else ((C_6 u) 2))) CL_6 := okB_m ob_6 i ((5 * (yS 0)) + ((C_6 u) 0)) (((((C_6 u) 1) + (yT 0)) + (yS 0)) + (yT 0)) (if ((C_6 u) 2) < ((yTa 0 ((((((C_6 u) 1) + (yT 0)) + (yS 0)) + (yT 0)) + ((C_6 u) 2))) - (((((C_6 u) 1) + (yT 0)) + (yS 0)) + (yT 0))) then ((yTa 0 ((((((C_6 u) 1) + (yT 0)) + (yS 0)) + (yT 0)) + ((C_6 u) 2))) - (((((C_6 u) 1) + (yT 0)) + (yS 0)) + (yT 0))) else ((C_6 u) 2))
    refine fh_vret X hP hS (fh_d d_Ty_setRoot 90 rfl) ⟨rfl, ?_, rfl⟩
    · unfold sRoot; (try dsimp only); rw [← e_6]; dsimp only; (try unfold rtT rtY); first | rfl | (simp only [if_neg hs0]; first | done | rfl)
  · skip
    refine lv_aload_n hx hb (fh_d d_Ty_setRoot 0 rfl) rfl (lv_at hl 2 rfl) ?_
    refine lv_ifnonnull (tgt := 5) hx hb (fh_d d_Ty_setRoot 1 rfl) rfl ?_
    refine lv_aload_n hx hb (fh_d d_Ty_setRoot 3 rfl) rfl (lv_at hl 0 rfl) ?_
    refine fh_get (own := "FormulaSetter$Typesetter") (ref := "FormulaSetter$Typesetter") (C := "FormulaSetter$Typesetter") (T := T_Ty) (N := 2) (v := .ref (x + 227)) hx hb hT i_Ty hown hK hP ((mkR_g (by omega) (by omega) (by omega)).trans mkG_ts) rfl 0 (by decide) (hT _ w247) (fun _ h9 => h9) rfl (fh_d d_Ty_setRoot 4 rfl) ?_
    refine fh_callV (cc' := c_Sh_reserve) (nL' := 2) (rest := []) (a := x + 227) (As := []) X hR (m_Sh_reserve l D ct b RO (r - 1) n x kA aA g c0 hc0 F W0 H0 D0 rows cols nc lc tx len at_ C R CL RL) w677 w674 w675 w676 w7 ⟨by decide, by decide, by show _ = some 0; decide +kernel⟩ (by omega) (by decide) (fh_recv hK hP ((mkR_g (by omega) (by omega) (by omega)).trans mkG_sh) rfl) hP hS hl.1 rfl (by exact Nat.le_of_ble_eq_true rfl) (fh_d d_Ty_setRoot 5 rfl) ⟨Nat.le_refl _, Nat.le_refl _⟩ (fun v9 h9 n9 H locs hq hP hS => ?_)
    obtain ⟨rfl, q18a, q18b⟩ := hq
    rw [q18a, q18b] at hP
    have y19 : rsv c0 ≤ 120 := rsv_le hc0
    replace hP : fh_P D fh_cl b (mkR x kA aA (mkG ct x g (nI (rsv c0)) F W0 H0 D0 rows cols) nc lc tx len at_ C R CL RL) n H := hP
    refine W.eq (g2 := F0 m 12 ls [.int (nI c0)]) rfl ?_
    refine lv_istore (lv' := [(4, .int (nI c0)), (0, .ref (x + 226)), (1, .ref (x + 4 + i)), (2, .ref (x + 4 + u)), (3, .ref (yA si))]) hx hb (fh_d d_Ty_setRoot 6 rfl) hl (by decide) rfl (fun ls hl => ?_)
    refine lv_aload_n hx hb (fh_d d_Ty_setRoot 7 rfl) rfl (lv_at hl 1 rfl) ?_
    refine fh_get (own := "FormulaSetter$Typesetter") (ref := "FormulaSetter$Typesetter") (C := "FormulaSetter$Typesetter") (T := T_Ty) (N := 2) (v := .ref (x + 227)) hx hb hT i_Ty hown hK hP ((mkR_g (by omega) (by omega) (by omega)).trans mkG_ts) rfl 0 (by decide) (hT _ w247) (fun _ h9 => h9) rfl (fh_d d_Ty_setRoot 8 rfl) ?_
    refine fh_callV (cc' := c_Sh_reserve) (nL' := 2) (rest := []) (a := x + 227) (As := []) X hR (m_Sh_reserve l D ct b RO (r - 1) n x kA aA g (rsv c0) y19 F W0 H0 D0 rows cols nc lc tx len at_ C R CL RL) w677 w674 w675 w676 w7 ⟨by decide, by decide, by show _ = some 0; decide +kernel⟩ (by omega) (by decide) (fh_recv hK hP ((mkR_g (by omega) (by omega) (by omega)).trans mkG_sh) rfl) hP hS hl.1 rfl (by exact Nat.le_of_ble_eq_true rfl) (fh_d d_Ty_setRoot 9 rfl) ⟨Nat.le_refl _, Nat.le_refl _⟩ (fun v9 h9 n9 H locs hq hP hS => ?_)
    obtain ⟨rfl, q20a, q20b⟩ := hq
    rw [q20a, q20b] at hP
    have y21 : rsv (rsv c0) ≤ 120 := rsv_le y19
    replace hP : fh_P D fh_cl b (mkR x kA aA (mkG ct x g (nI (rsv (rsv c0))) F W0 H0 D0 rows cols) nc lc tx len at_ C R CL RL) n H := hP
    refine W.eq (g2 := F0 m 21 ls [.int (nI (rsv c0))]) rfl ?_
    refine lv_istore (lv' := [(5, .int (nI (rsv c0))), (4, .int (nI c0)), (0, .ref (x + 226)), (1, .ref (x + 4 + i)), (2, .ref (x + 4 + u)), (3, .ref (yA si))]) hx hb (fh_d d_Ty_setRoot 10 rfl) hl (by decide) rfl (fun ls hl => ?_)
    refine lv_aload_n hx hb (fh_d d_Ty_setRoot 11 rfl) rfl (lv_at hl 2 rfl) ?_
    refine lv_aload_n hx hb (fh_d d_Ty_setRoot 12 rfl) rfl (lv_at hl 4 rfl) ?_
    refine lv_aload_n hx hb (fh_d d_Ty_setRoot 13 rfl) rfl (lv_at hl 5 rfl) ?_
    refine lv_iconst (v := 1) hx hb (fh_d d_Ty_setRoot 14 rfl) (by decide) ?_
    refine W.eq (g2 := F0 m 27 ls [.int (nI 1), .ref (yA si), .ref (x + 4 + u), .ref (x + 226)]) rfl ?_
    refine fh_callV (cc' := c_Ty_setNucleus) (nL' := 4) (rest := []) (a := x + 226) (As := [.ref (x + 4 + u), .ref (yA si), .int (nI 1)]) X hR (hN1 (r - 1) (by omega) (rsv (rsv c0), F, W0, H0, D0, rows, cols, C, CL) ⟨y21, hokB⟩ u si 1 (hu) hou hsi (by omega)) w663 w660 w662 v19 w6 ⟨by decide, by decide, by show _ = some 3; decide +kernel⟩ (by omega) (by decide) (fh_recv hK hP ((mkR_g (by omega) (by omega) (by omega)).trans mkG_ts) rfl) hP hS hl.1 rfl (by exact Nat.le_of_ble_eq_true rfl) (fh_d d_Ty_setRoot 15 rfl) ⟨Nat.le_refl _, Nat.le_refl _⟩ (fun v9 h9 n9 H locs hq hP hS => ?_)
    obtain ⟨⟨c_22, F_22, W_22, H_22, D_22, ro_22, co_22, C_22, CL_22⟩, e_22⟩ : ∃ z, z = N1 (rsv (rsv c0), F, W0, H0, D0, rows, cols, C, CL) u si 1 := ⟨_, rfl⟩
    obtain ⟨rfl, q_22a, q_22b⟩ := hq
    rw [← e_22] at q_22a
    rw [q_22a, q_22b] at hP
    have o_22 : okT (c_22, F_22, W_22, H_22, D_22, ro_22, co_22, C_22, CL_22) := by rw [e_22]; exact hB1 _ _ _ _ ⟨y21, hokB⟩ (hu) hou
    have hc_22 : c_22 ≤ 120 := o_22.1
    have ob_22 : okB C_22 CL_22 := o_22.2
    replace hP : fh_P D fh_cl b (mkR x kA aA (mkG ct x g (nI c_22) F_22 W_22 H_22 D_22 ro_22 co_22) nc lc tx len at_ C_22 R CL_22 RL) n H := hP
    refine W.eq (g2 := F0 m 30 ls []) rfl ?_
    refine lv_aload_n hx hb (fh_d d_Ty_setRoot 16 rfl) rfl (lv_at hl 5 rfl) ?_
    refine vk_getf (own := "FormulaSetter$Typesetter") (ref := "FormulaSetter$Style") hx hb (((hEn _ hRO).2.2.1 si hsi).2.2.2.2.1) hS hown (hT _ w1251) (fun _ h9 => h9) (fh_d d_Ty_setRoot 17 rfl) ?_
    refine lv_istore (lv' := [(6, .int (yT si)), (5, .int (nI (rsv c0))), (4, .int (nI c0)), (0, .ref (x + 226)), (1, .ref (x + 4 + i)), (2, .ref (x + 4 + u)), (3, .ref (yA si))]) hx hb (fh_d d_Ty_setRoot 18 rfl) hl (by decide) rfl (fun ls hl => ?_)
    refine lv_iconst (v := 5) hx hb (fh_d d_Ty_setRoot 19 rfl) (by decide) ?_
    refine lv_aload_n hx hb (fh_d d_Ty_setRoot 20 rfl) rfl (lv_at hl 6 rfl) ?_
    refine vk_getf (own := "FormulaSetter$Typesetter") (ref := "FormulaSetter$Style") hx hb (((hEn _ hRO).2.2.1 si hsi).2.2.2.1) hS hown (hT _ w1249) (fun _ h9 => h9) (fh_d d_Ty_setRoot 21 rfl) ?_
    refine lv_imul hx hb (fh_d d_Ty_setRoot 22 rfl) ?_
    refine lv_istore (lv' := [(7, .int (5 * (yS si))), (6, .int (yT si)), (5, .int (nI (rsv c0))), (4, .int (nI c0)), (0, .ref (x + 226)), (1, .ref (x + 4 + i)), (2, .ref (x + 4 + u)), (3, .ref (yA si))]) hx hb (fh_d d_Ty_setRoot 23 rfl) hl (by decide) rfl (fun ls hl => ?_)
    refine lv_aload_n hx hb (fh_d d_Ty_setRoot 24 rfl) rfl (lv_at hl 6 rfl) ?_
    refine fh_get (own := "FormulaSetter$Typesetter") (ref := "FormulaSetter$Nucleus") (C := "FormulaSetter$Nucleus") (T := T_Nu) (N := 15) (v := .int ((C_22 u) 1)) hx hb hT i_Nu hown hK hP (mkR_nu (hu)) rfl 1 (by decide) (hT _ w94) (fun x9 h9 => u_same (hT _ w95) x9 h9) (rfl) (fh_d d_Ty_setRoot 25 rfl) ?_
    refine lv_iload hx hb (fh_d d_Ty_setRoot 26 rfl) (lv_at hl 1 rfl) ?_
    refine lv_iadd hx hb (fh_d d_Ty_setRoot 27 rfl) ?_
    refine lv_aload_n hx hb (fh_d d_Ty_setRoot 28 rfl) rfl (lv_at hl 7 rfl) ?_
    refine va_gets (own := "FormulaSetter$Typesetter") (ref := "FormulaSetter$Style") (n := "DISPLAY") hx hb ((hEn _ hRO).2.2.1 0 (by decide)).1 hS hown (hT _ w702) (fun _ h9 => h9) (fh_d d_Ty_setRoot 29 rfl) ?_
    refine lv_acmp_ne (rx := some (yA si)) (ry := some (yA 0)) (tgt := 65) hx hb (fh_d d_Ty_setRoot 30 rfl) rfl (fun c23 => ?_) (fun c23 => absurd c23 (fun z => hs0 (hAd.2.2 _ _ hsi (by decide) (Option.some.inj z))))
    refine lv_iload hx hb (fh_d d_Ty_setRoot 34 rfl) (lv_at hl 1 rfl) ?_
    refine lv_iadd hx hb (fh_d d_Ty_setRoot 35 rfl) ?_
    refine lv_istore (lv' := [(8, .int ((((C_22 u) 1) + (yT si)) + (yT si))), (7, .int (5 * (yS si))), (6, .int (yT si)), (5, .int (nI (rsv c0))), (4, .int (nI c0)), (0, .ref (x + 226)), (1, .ref (x + 4 + i)), (2, .ref (x + 4 + u)), (3, .ref (yA si))]) hx hb (fh_d d_Ty_setRoot 36 rfl) hl (by decide) rfl (fun ls hl => ?_)
    refine lv_iload hx hb (fh_d d_Ty_setRoot 37 rfl) (lv_at hl 0 rfl) ?_
    refine lv_iload hx hb (fh_d d_Ty_setRoot 38 rfl) (lv_at hl 2 rfl) ?_
    refine lv_iadd hx hb (fh_d d_Ty_setRoot 39 rfl) ?_
    refine lv_istore (lv' := [(9, .int (((((C_22 u) 1) + (yT si)) + (yT si)) + (yT si))), (8, .int ((((C_22 u) 1) + (yT si)) + (yT si))), (7, .int (5 * (yS si))), (6, .int (yT si)), (5, .int (nI (rsv c0))), (4, .int (nI c0)), (0, .ref (x + 226)), (1, .ref (x + 4 + i)), (2, .ref (x + 4 + u)), (3, .ref (yA si))]) hx hb (fh_d d_Ty_setRoot 40 rfl) hl (by decide) rfl (fun ls hl => ?_)
    refine lv_aload_n hx hb (fh_d d_Ty_setRoot 41 rfl) rfl (lv_at hl 9 rfl) ?_
    refine lv_iload hx hb (fh_d d_Ty_setRoot 42 rfl) (lv_at hl 0 rfl) ?_
    refine lv_aload_n hx hb (fh_d d_Ty_setRoot 43 rfl) rfl (lv_at hl 8 rfl) ?_
    refine fh_get (own := "FormulaSetter$Typesetter") (ref := "FormulaSetter$Nucleus") (C := "FormulaSetter$Nucleus") (T := T_Nu) (N := 15) (v := .int ((C_22 u) 2)) hx hb hT i_Nu hown hK hP (mkR_nu (hu)) rfl 2 (by decide) (hT _ w101) (fun x9 h9 => u_same (hT _ w102) x9 h9) (rfl) (fh_d d_Ty_setRoot 44 rfl) ?_
    refine lv_iadd hx hb (fh_d d_Ty_setRoot 45 rfl) ?_
    refine fh_callV (cc' := c_Sy_tallFor) (nL' := 3) (rest := []) (a := yA si) (As := [.int ((((((C_22 u) 1) + (yT si)) + (yT si)) + (yT si)) + ((C_22 u) 2))]) X hR (m_Sy_tallFor l D ct b RO sA sV hSt kA aA yA tK tS tM hEn hAd (r - 1) n si hsi ((((((C_22 u) 1) + (yT si)) + (yT si)) + (yT si)) + ((C_22 u) 2)) (mkR x kA aA (mkG ct x g (nI c_22) F_22 W_22 H_22 D_22 ro_22 co_22) nc lc tx len at_ C_22 R CL_22 RL)) w732 w729 w730 w731 w24 ⟨by decide, by decide, by show _ = some 1; decide +kernel⟩ (by omega) (by decide) (fs_recv ((hEn _ hRO).2.2.1 si hsi).2.1 hS) hP hS hl.1 rfl (by exact Nat.le_of_ble_eq_true rfl) (fh_d d_Ty_setRoot 46 rfl) ⟨Nat.le_refl _, Nat.le_refl _⟩ (fun v9 h9 n9 H locs hq hP hS => ?_)
    obtain ⟨rfl, q24a, q24b⟩ := hq
    rw [q24a, q24b] at hP
    refine W.eq (g2 := F0 m 88 ls [.int (yTa si ((((((C_22 u) 1) + (yT si)) + (yT si)) + (yT si)) + ((C_22 u) 2)))]) rfl ?_
    refine lv_istore (lv' := [(10, .int (yTa si ((((((C_22 u) 1) + (yT si)) + (yT si)) + (yT si)) + ((C_22 u) 2)))), (9, .int (((((C_22 u) 1) + (yT si)) + (yT si)) + (yT si))), (8, .int ((((C_22 u) 1) + (yT si)) + (yT si))), (7, .int (5 * (yS si))), (6, .int (yT si)), (5, .int (nI (rsv c0))), (4, .int (nI c0)), (0, .ref (x + 226)), (1, .ref (x + 4 + i)), (2, .ref (x + 4 + u)), (3, .ref (yA si))]) hx hb (fh_d d_Ty_setRoot 47 rfl) hl (by decide) rfl (fun ls hl => ?_)
    refine lv_aload_n hx hb (fh_d d_Ty_setRoot 48 rfl) rfl (lv_at hl 7 rfl) ?_
    refine fh_get (own := "FormulaSetter$Typesetter") (ref := "FormulaSetter$Typesetter") (C := "FormulaSetter$Typesetter") (T := T_Ty) (N := 2) (v := .ref (x + 227)) hx hb hT i_Ty hown hK hP ((mkR_g (by omega) (by omega) (by omega)).trans mkG_ts) rfl 0 (by decide) (hT _ w247) (fun _ h9 => h9) rfl (fh_d d_Ty_setRoot 49 rfl) ?_
    refine lv_iload hx hb (fh_d d_Ty_setRoot 50 rfl) (lv_at hl 6 rfl) ?_
    refine lv_iconst (v := 2) hx hb (fh_d d_Ty_setRoot 51 rfl) (by decide) ?_
    refine lv_bipush (v := 35) hx hb (fh_d d_Ty_setRoot 52 rfl) (by decide) ?_
    refine lv_iconst (v := 0) hx hb (fh_d d_Ty_setRoot 53 rfl) (by decide) ?_
    refine lv_iload hx hb (fh_d d_Ty_setRoot 54 rfl) (lv_at hl 1 rfl) ?_
    refine lv_iload hx hb (fh_d d_Ty_setRoot 55 rfl) (lv_at hl 0 rfl) ?_
    refine lv_isub hx hb (fh_d d_Ty_setRoot 56 rfl) ?_
    refine lv_iload hx hb (fh_d d_Ty_setRoot 57 rfl) (lv_at hl 0 rfl) ?_
    refine lv_iload hx hb (fh_d d_Ty_setRoot 58 rfl) (lv_at hl 3 rfl) ?_
    refine fh_callV (cc' := c_Sh_put) (nL' := 9) (rest := []) (a := x + 227) (As := [.int (nI c0), .int 2, .int 35, .int 0, .int ((((((C_22 u) 1) + (yT si)) + (yT si)) + (yT si)) - (yTa si ((((((C_22 u) 1) + (yT si)) + (yT si)) + (yT si)) + ((C_22 u) 2)))), .int (yTa si ((((((C_22 u) 1) + (yT si)) + (yT si)) + (yT si)) + ((C_22 u) 2))), .int (5 * (yS si))]) X hR (m_Sh_put l D ct b RO (r - 1) n x kA aA g (nI c_22) F_22 W_22 H_22 D_22 ro_22 co_22 nc lc tx len at_ C_22 R CL_22 RL c0 hc0 2 35 0 ((((((C_22 u) 1) + (yT si)) + (yT si)) + (yT si)) - (yTa si ((((((C_22 u) 1) + (yT si)) + (yT si)) + (yT si)) + ((C_22 u) 2)))) (yTa si ((((((C_22 u) 1) + (yT si)) + (yT si)) + (yT si)) + ((C_22 u) 2))) (5 * (yS si))) w684 w681 w682 w683 w7 ⟨by decide, by decide, by show _ = some 7; decide +kernel⟩ (by omega) (by decide) (fh_recv hK hP ((mkR_g (by omega) (by omega) (by omega)).trans mkG_sh) rfl) hP hS hl.1 rfl (by exact Nat.le_of_ble_eq_true rfl) (fh_d d_Ty_setRoot 59 rfl) ⟨Nat.le_refl _, Nat.le_refl _⟩ (fun v9 h9 n9 H locs hq hP hS => ?_)
    obtain ⟨rfl, q25a, q25b⟩ := hq
    rw [q25a, q25b] at hP
    refine W.eq (g2 := F0 m 112 ls []) rfl ?_
    refine lv_aload_n hx hb (fh_d d_Ty_setRoot 60 rfl) rfl (lv_at hl 7 rfl) ?_
    refine fh_get (own := "FormulaSetter$Typesetter") (ref := "FormulaSetter$Typesetter") (C := "FormulaSetter$Typesetter") (T := T_Ty) (N := 2) (v := .ref (x + 227)) hx hb hT i_Ty hown hK hP ((mkR_g (by omega) (by omega) (by omega)).trans mkG_ts) rfl 0 (by decide) (hT _ w247) (fun _ h9 => h9) rfl (fh_d d_Ty_setRoot 61 rfl) ?_
    refine lv_iload hx hb (fh_d d_Ty_setRoot 62 rfl) (lv_at hl 5 rfl) ?_
    refine lv_iconst (v := 1) hx hb (fh_d d_Ty_setRoot 63 rfl) (by decide) ?_
    refine lv_iconst (v := 0) hx hb (fh_d d_Ty_setRoot 64 rfl) (by decide) ?_
    refine lv_iload hx hb (fh_d d_Ty_setRoot 65 rfl) (lv_at hl 3 rfl) ?_
    refine lv_iload hx hb (fh_d d_Ty_setRoot 66 rfl) (lv_at hl 2 rfl) ?_
    refine lv_iload hx hb (fh_d d_Ty_setRoot 67 rfl) (lv_at hl 4 rfl) ?_
    refine lv_aload_n hx hb (fh_d d_Ty_setRoot 68 rfl) rfl (lv_at hl 9 rfl) ?_
    refine fh_get (own := "FormulaSetter$Typesetter") (ref := "FormulaSetter$Nucleus") (C := "FormulaSetter$Nucleus") (T := T_Nu) (N := 15) (v := .int ((C_22 u) 0)) hx hb hT i_Nu hown hK hP (mkR_nu (hu)) rfl 0 (by decide) (hT _ w87) (fun x9 h9 => u_same (hT _ w88) x9 h9) (rfl) (fh_d d_Ty_setRoot 69 rfl) ?_
    refine fh_callV (cc' := c_Sh_put) (nL' := 9) (rest := []) (a := x + 227) (As := [.int (nI (rsv c0)), .int 1, .int 0, .int (5 * (yS si)), .int ((((C_22 u) 1) + (yT si)) + (yT si)), .int (yT si), .int ((C_22 u) 0)]) X hR (m_Sh_put l D ct b RO (r - 1) n x kA aA g (nI c_22) (putF F_22 c0 2 35 0 ((((((C_22 u) 1) + (yT si)) + (yT si)) + (yT si)) - (yTa si ((((((C_22 u) 1) + (yT si)) + (yT si)) + (yT si)) + ((C_22 u) 2)))) (yTa si ((((((C_22 u) 1) + (yT si)) + (yT si)) + (yT si)) + ((C_22 u) 2))) (5 * (yS si))) W_22 H_22 D_22 ro_22 co_22 nc lc tx len at_ C_22 R CL_22 RL (rsv c0) (rsv_le hc0) 1 0 (5 * (yS si)) ((((C_22 u) 1) + (yT si)) + (yT si)) (yT si) ((C_22 u) 0)) w684 w681 w682 w683 w7 ⟨by decide, by decide, by show _ = some 7; decide +kernel⟩ (by omega) (by decide) (fh_recv hK hP ((mkR_g (by omega) (by omega) (by omega)).trans mkG_sh) rfl) hP hS hl.1 rfl (by exact Nat.le_of_ble_eq_true rfl) (fh_d d_Ty_setRoot 70 rfl) ⟨Nat.le_refl _, Nat.le_refl _⟩ (fun v9 h9 n9 H locs hq hP hS => ?_)
    obtain ⟨rfl, q26a, q26b⟩ := hq
    rw [q26a, q26b] at hP
    refine W.eq (g2 := F0 m 133 ls []) rfl ?_
    refine lv_aload_n hx hb (fh_d d_Ty_setRoot 71 rfl) rfl (lv_at hl 7 rfl) ?_
    refine fh_get (own := "FormulaSetter$Typesetter") (ref := "FormulaSetter$Typesetter") (C := "FormulaSetter$Typesetter") (T := T_Ty) (N := 2) (v := .ref (x + 227)) hx hb hT i_Ty hown hK hP ((mkR_g (by omega) (by omega) (by omega)).trans mkG_ts) rfl 0 (by decide) (hT _ w247) (fun _ h9 => h9) rfl (fh_d d_Ty_setRoot 72 rfl) ?_
    refine lv_aload_n hx hb (fh_d d_Ty_setRoot 73 rfl) rfl (lv_at hl 9 rfl) ?_
    refine lv_iload hx hb (fh_d d_Ty_setRoot 74 rfl) (lv_at hl 3 rfl) ?_
    refine lv_iconst (v := 0) hx hb (fh_d d_Ty_setRoot 75 rfl) (by decide) ?_
    refine fh_callV (cc' := c_Sh_move) (nL' := 5) (rest := []) (a := x + 227) (As := [.ref (x + 4 + u), .int (5 * (yS si)), .int 0]) X hR (m_Sh_mvNu l D ct b RO (r - 1) (by omega) n x kA aA g (nI c_22) (putF (putF F_22 c0 2 35 0 ((((((C_22 u) 1) + (yT si)) + (yT si)) + (yT si)) - (yTa si ((((((C_22 u) 1) + (yT si)) + (yT si)) + (yT si)) + ((C_22 u) 2)))) (yTa si ((((((C_22 u) 1) + (yT si)) + (yT si)) + (yT si)) + ((C_22 u) 2))) (5 * (yS si))) (rsv c0) 1 0 (5 * (yS si)) ((((C_22 u) 1) + (yT si)) + (yT si)) (yT si) ((C_22 u) 0)) W_22 H_22 D_22 ro_22 co_22 nc lc tx len at_ C_22 R CL_22 RL u (hu) (ob_22.1 u (hu)).1 (ob_22.1 u (hu)).2 (5 * (yS si)) 0) w723 w720 w721 w722 w7 ⟨by decide, by decide, by show _ = some 3; decide +kernel⟩ (by omega) (by decide) (fh_recv hK hP ((mkR_g (by omega) (by omega) (by omega)).trans mkG_sh) rfl) hP hS hl.1 rfl (by exact Nat.le_of_ble_eq_true rfl) (fh_d d_Ty_setRoot 76 rfl) ⟨Nat.le_refl _, Nat.le_refl _⟩ (fun v9 h9 n9 H locs hq hP hS => ?_)
    obtain ⟨rfl, q27a, q27b⟩ := hq
    rw [q27a, q27b] at hP
    refine W.eq (g2 := F0 m 144 ls []) rfl ?_
    refine lv_aload_n hx hb (fh_d d_Ty_setRoot 77 rfl) rfl (lv_at hl 8 rfl) ?_
    refine lv_iload hx hb (fh_d d_Ty_setRoot 78 rfl) (lv_at hl 3 rfl) ?_
    refine lv_aload_n hx hb (fh_d d_Ty_setRoot 79 rfl) rfl (lv_at hl 9 rfl) ?_
    refine fh_get (own := "FormulaSetter$Typesetter") (ref := "FormulaSetter$Nucleus") (C := "FormulaSetter$Nucleus") (T := T_Nu) (N := 15) (v := .int ((C_22 u) 0)) hx hb hT i_Nu hown hK hP (mkR_nu (hu)) rfl 0 (by decide) (hT _ w87) (fun x9 h9 => u_same (hT _ w88) x9 h9) (rfl) (fh_d d_Ty_setRoot 80 rfl) ?_
    refine lv_iadd hx hb (fh_d d_Ty_setRoot 81 rfl) ?_
    refine lv_iload hx hb (fh_d d_Ty_setRoot 82 rfl) (lv_at hl 1 rfl) ?_
    refine lv_aload_n hx hb (fh_d d_Ty_setRoot 83 rfl) rfl (lv_at hl 9 rfl) ?_
    refine fh_get (own := "FormulaSetter$Typesetter") (ref := "FormulaSetter$Nucleus") (C := "FormulaSetter$Nucleus") (T := T_Nu) (N := 15) (v := .int ((C_22 u) 2)) hx hb hT i_Nu hown hK hP (mkR_nu (hu)) rfl 2 (by decide) (hT _ w101) (fun x9 h9 => u_same (hT _ w102) x9 h9) (rfl) (fh_d d_Ty_setRoot 84 rfl) ?_
    refine lv_iload hx hb (fh_d d_Ty_setRoot 85 rfl) (lv_at hl 0 rfl) ?_
    refine lv_iload hx hb (fh_d d_Ty_setRoot 86 rfl) (lv_at hl 1 rfl) ?_
    refine lv_isub hx hb (fh_d d_Ty_setRoot 87 rfl) ?_
    refine va_mmax hx hb (hml.trans hl.1.symm) hown (hT _ w704) (hT _ w431) (hT _ w14) (hT _ w432) (by show 1 ≤ r; omega) (by show _ ≤ 60 * r; simp [Value.category]; omega) (Nat.le_refl _) (Nat.le_refl _) (fh_d d_Ty_setRoot 88 rfl) ?_
    refine fh_callU (cc' := c_Bo_measure) (nL' := 4) (rest := []) (a := x + 4 + i) (As := [.int ((5 * (yS si)) + ((C_22 u) 0)), .int (((((C_22 u) 1) + (yT si)) + (yT si)) + (yT si)), .int (if ((C_22 u) 2) < ((yTa si ((((((C_22 u) 1) + (yT si)) + (yT si)) + (yT si)) + ((C_22 u) 2))) - (((((C_22 u) 1) + (yT si)) + (yT si)) + (yT si))) then ((yTa si ((((((C_22 u) 1) + (yT si)) + (yT si)) + (yT si)) + ((C_22 u) 2))) - (((((C_22 u) 1) + (yT si)) + (yT si)) + (yT si))) else ((C_22 u) 2))]) (Ck := "FormulaSetter$Nucleus") (owner := "FormulaSetter$Box") (x' := ⟨"FormulaSetter$Nucleus", "measure", "(III)V"⟩) X hR (m_Bo_measureNu l D ct b RO (r - 1) n x kA aA g (nI c_22) (mvF (putF (putF F_22 c0 2 35 0 ((((((C_22 u) 1) + (yT si)) + (yT si)) + (yT si)) - (yTa si ((((((C_22 u) 1) + (yT si)) + (yT si)) + (yT si)) + ((C_22 u) 2)))) (yTa si ((((((C_22 u) 1) + (yT si)) + (yT si)) + (yT si)) + ((C_22 u) 2))) (5 * (yS si))) (rsv c0) 1 0 (5 * (yS si)) ((((C_22 u) 1) + (yT si)) + (yT si)) (yT si) ((C_22 u) 0)) (ixI (C_22 u 3)) (ixI (C_22 u 4)) (5 * (yS si)) 0) W_22 H_22 D_22 ro_22 co_22 nc lc tx len at_ C_22 R CL_22 RL i (hi) ((5 * (yS si)) + ((C_22 u) 0)) (((((C_22 u) 1) + (yT si)) + (yT si)) + (yT si)) (if ((C_22 u) 2) < ((yTa si ((((((C_22 u) 1) + (yT si)) + (yT si)) + (yT si)) + ((C_22 u) 2))) - (((((C_22 u) 1) + (yT si)) + (yT si)) + (yT si))) then ((yTa si ((((((C_22 u) 1) + (yT si)) + (yT si)) + (yT si)) + ((C_22 u) 2))) - (((((C_22 u) 1) + (yT si)) + (yT si)) + (yT si))) else ((C_22 u) 2))) w655 w691 w692 rfl w654 w693 w3 ⟨by decide, by decide, by show _ = some 3; decide +kernel⟩ (by omega) (by decide) (fh_recv hK hP (mkR_nu (hi)) rfl) hP hS hl.1 rfl (by exact Nat.le_of_ble_eq_true rfl) (fh_d d_Ty_setRoot 89 rfl) ⟨Nat.le_refl _, Nat.le_refl _⟩ (fun v9 h9 n9 H locs hq hP hS => ?_)
    obtain ⟨rfl, q28a, q28b⟩ := hq
    rw [q28a, q28b] at hP
    refine W.eq (g2 := F0 m 169 ls []) rfl ?_
    have f29 : (sT (sT (sT C_22 i 0 ((5 * (yS si)) + ((C_22 u) 0))) i 1 (((((C_22 u) 1) + (yT si)) + (yT si)) + (yT si))) i 2 (if ((C_22 u) 2) < ((yTa si ((((((C_22 u) 1) + (yT si)) + (yT si)) + (yT si)) + ((C_22 u) 2))) - (((((C_22 u) 1) + (yT si)) + (yT si)) + (yT si))) then ((yTa si ((((((C_22 u) 1) + (yT si)) + (yT si)) + (yT si)) + ((C_22 u) 2))) - (((((C_22 u) 1) + (yT si)) + (yT si)) + (yT si))) else ((C_22 u) 2))) i 0 = (5 * (yS si)) + ((C_22 u) 0) := (sT_ne (by omega)).trans ((sT_ne (by omega)).trans sT_same)
    have f30 : (sT (sT (sT C_22 i 0 ((5 * (yS si)) + ((C_22 u) 0))) i 1 (((((C_22 u) 1) + (yT si)) + (yT si)) + (yT si))) i 2 (if ((C_22 u) 2) < ((yTa si ((((((C_22 u) 1) + (yT si)) + (yT si)) + (yT si)) + ((C_22 u) 2))) - (((((C_22 u) 1) + (yT si)) + (yT si)) + (yT si))) then ((yTa si ((((((C_22 u) 1) + (yT si)) + (yT si)) + (yT si)) + ((C_22 u) 2))) - (((((C_22 u) 1) + (yT si)) + (yT si)) + (yT si))) else ((C_22 u) 2))) i 1 = ((((C_22 u) 1) + (yT si)) + (yT si)) + (yT si) := (sT_ne (by omega)).trans sT_same
    have f31 : (sT (sT (sT C_22 i 0 ((5 * (yS si)) + ((C_22 u) 0))) i 1 (((((C_22 u) 1) + (yT si)) + (yT si)) + (yT si))) i 2 (if ((C_22 u) 2) < ((yTa si ((((((C_22 u) 1) + (yT si)) + (yT si)) + (yT si)) + ((C_22 u) 2))) - (((((C_22 u) 1) + (yT si)) + (yT si)) + (yT si))) then ((yTa si ((((((C_22 u) 1) + (yT si)) + (yT si)) + (yT si)) + ((C_22 u) 2))) - (((((C_22 u) 1) + (yT si)) + (yT si)) + (yT si))) else ((C_22 u) 2))) i 2 = if ((C_22 u) 2) < ((yTa si ((((((C_22 u) 1) + (yT si)) + (yT si)) + (yT si)) + ((C_22 u) 2))) - (((((C_22 u) 1) + (yT si)) + (yT si)) + (yT si))) then ((yTa si ((((((C_22 u) 1) + (yT si)) + (yT si)) + (yT si)) + ((C_22 u) 2))) - (((((C_22 u) 1) + (yT si)) + (yT si)) + (yT si))) else ((C_22 u) 2) := sT_same
    have y32 : okB (sT (sT (sT C_22 i 0 ((5 * (yS si)) + ((C_22 u) 0))) i 1 (((((C_22 u) 1) + (yT si)) + (yT si)) + (yT si))) i 2 (if ((C_22 u) 2) < ((yTa si ((((((C_22 u) 1) + (yT si)) + (yT si)) + (yT si)) + ((C_22 u) 2))) - (((((C_22 u) 1) + (yT si)) + (yT si)) + (yT si))) then ((yTa si ((((((C_22 u) 1) + (yT si)) + (yT si)) + (yT si)) + ((C_22 u) 2))) - (((((C_22 u) 1) + (yT si)) + (yT si)) + (yT si))) else ((C_22 u) 2))) CL_22 := okB_m ob_22 i ((5 * (yS si)) + ((C_22 u) 0)) (((((C_22 u) 1) + (yT si)) + (yT si)) + (yT si)) (if ((C_22 u) 2) < ((yTa si ((((((C_22 u) 1) + (yT si)) + (yT si)) + (yT si)) + ((C_22 u) 2))) - (((((C_22 u) 1) + (yT si)) + (yT si)) + (yT si))) then ((yTa si ((((((C_22 u) 1) + (yT si)) + (yT si)) + (yT si)) + ((C_22 u) 2))) - (((((C_22 u) 1) + (yT si)) + (yT si)) + (yT si))) else ((C_22 u) 2))
    refine fh_vret X hP hS (fh_d d_Ty_setRoot 90 rfl) ⟨rfl, ?_, rfl⟩
    · unfold sRoot; (try dsimp only); rw [← e_22]; dsimp only; (try unfold rtT rtY); first | rfl | (simp only [if_neg hs0]; first | done | rfl)

set_option maxHeartbeats 4000000 in
set_option maxRecDepth 100000 in
theorem m_Ty_setHat (l : Launch) (D : va_G) (ct : Nat → ClassId) (b : Nat) (RO : State → Prop) (hR : fh_R b RO) (sA sV : Nat → Nat) (hSt : ∀ U, RO U → ro_S b sA sV U) (kA aA yA : Nat → Nat) (tK tS tM : Nat) (hEn : ∀ U, RO U → ro_E b sA kA aA yA tK tS tM U) (hAd : ad_ok kA aA yA)  (n x : Nat) (g : fh_H) (c0 : Nat) (hc0 : c0 ≤ 120) (F W0 H0 D0 : Nat → Int32) (rows cols : Int32) (nc lc : Int32) (tx : Value) (len at_ : Int32) (C : Nat → Nat → Int32) (R : Nat → Nat → Option Nat) (CL : Nat → Nat → Int32) (RL : Nat → Nat → Option Nat) (hokB : okB C CL) (N1 : FN) (okN : Nat → Prop) (r0 : Nat) (hN1 : cSN l D ct b RO kA aA yA n x g nc lc tx len at_ R RL okN r0 N1) (hB1 : bSN 60 okN N1) (r : Nat) (hr : r0 + 1 ≤ r) (hr4 : 4 ≤ r) (i si : Nat) (hi : i < 60) (hsi : si < 4) (u : Nat) (hu : u < 60) (hou : okN u) : fh_C l D fh_cl (fh_tys ct) b RO y_Ty_setHat (Cond.code y_Ty_setHat c_Ty_setHat 7 (Option.none : Option FieldType) :: fh_T) (fh_rm r 0 0) [.ref (x + 226), .ref (x + 4 + i), .ref (x + 4 + u), .ref (yA si)] (mkR x kA aA (mkG ct x g (nI c0) F W0 H0 D0 rows cols) nc lc tx len at_ C R CL RL) n (fun v h' n' => v = none ∧ h' = hz ct x kA aA g nc lc tx len at_ R RL (sHat N1 i u si (c0, F, W0, H0, D0, rows, cols, C, CL)) ∧ n' = n) 0 0 := by
  refine fh_enter (by decide) (Nat.le_of_ble_eq_true rfl) [(0, .ref (x + 226)), (1, .ref (x + 4 + i)), (2, .ref (x + 4 + u)), (3, .ref (yA si))] rfl ?_
  intro p e s m args below meth c H ls X hP hS hl
  have hx := X.1
  have hb := X.2.1
  have hml := X.2.2.1
  have hown : s.vm.findClass "FormulaSetter$Typesetter" = some m.cls := X.2.2.2.1
  have hT := X.2.2.2.2.1
  have hK := X.2.2.2.2.2.1
  have hRO := X.2.2.2.2.2.2.1
  have hnm : meth.name = "setHat" := X.2.2.2.2.2.2.2.2.2.2
  refine lv_aload_n hx hb (fh_d d_Ty_setHat 0 rfl) rfl (lv_at hl 2 rfl) ?_
  refine lv_ifnonnull (tgt := 5) hx hb (fh_d d_Ty_setHat 1 rfl) rfl ?_
  refine lv_aload_n hx hb (fh_d d_Ty_setHat 3 rfl) rfl (lv_at hl 0 rfl) ?_
  refine lv_aload_n hx hb (fh_d d_Ty_setHat 4 rfl) rfl (lv_at hl 2 rfl) ?_
  refine lv_aload_n hx hb (fh_d d_Ty_setHat 5 rfl) rfl (lv_at hl 3 rfl) ?_
  refine lv_iconst (v := 1) hx hb (fh_d d_Ty_setHat 6 rfl) (by decide) ?_
  refine W.eq (g2 := F0 m 9 ls [.int (nI 1), .ref (yA si), .ref (x + 4 + u), .ref (x + 226)]) rfl ?_
  refine fh_callV (cc' := c_Ty_setNucleus) (nL' := 4) (rest := []) (a := x + 226) (As := [.ref (x + 4 + u), .ref (yA si), .int (nI 1)]) X hR (hN1 (r - 1) (by omega) (c0, F, W0, H0, D0, rows, cols, C, CL) ⟨hc0, hokB⟩ u si 1 (hu) hou hsi (by omega)) w663 w660 w662 v19 w6 ⟨by decide, by decide, by show _ = some 3; decide +kernel⟩ (by omega) (by decide) (fh_recv hK hP ((mkR_g (by omega) (by omega) (by omega)).trans mkG_ts) rfl) hP hS hl.1 rfl (by exact Nat.le_of_ble_eq_true rfl) (fh_d d_Ty_setHat 7 rfl) ⟨Nat.le_refl _, Nat.le_refl _⟩ (fun v9 h9 n9 H locs hq hP hS => ?_)
  obtain ⟨⟨c_2, F_2, W_2, H_2, D_2, ro_2, co_2, C_2, CL_2⟩, e_2⟩ : ∃ z, z = N1 (c0, F, W0, H0, D0, rows, cols, C, CL) u si 1 := ⟨_, rfl⟩
  obtain ⟨rfl, q_2a, q_2b⟩ := hq
  rw [← e_2] at q_2a
  rw [q_2a, q_2b] at hP
  have o_2 : okT (c_2, F_2, W_2, H_2, D_2, ro_2, co_2, C_2, CL_2) := by rw [e_2]; exact hB1 _ _ _ _ ⟨hc0, hokB⟩ (hu) hou
  have hc_2 : c_2 ≤ 120 := o_2.1
  have ob_2 : okB C_2 CL_2 := o_2.2
  replace hP : fh_P D fh_cl b (mkR x kA aA (mkG ct x g (nI c_2) F_2 W_2 H_2 D_2 ro_2 co_2) nc lc tx len at_ C_2 R CL_2 RL) n H := hP
  refine W.eq (g2 := F0 m 12 ls []) rfl ?_
  refine lv_aload_n hx hb (fh_d d_Ty_setHat 8 rfl) rfl (lv_at hl 3 rfl) ?_
  refine vk_getf (own := "FormulaSetter$Typesetter") (ref := "FormulaSetter$Style") hx hb (((hEn _ hRO).2.2.1 si hsi).2.2.2.1) hS hown (hT _ w1249) (fun _ h9 => h9) (fh_d d_Ty_setHat 9 rfl) ?_
  refine lv_istore (lv' := [(4, .int (yS si)), (0, .ref (x + 226)), (1, .ref (x + 4 + i)), (2, .ref (x + 4 + u)), (3, .ref (yA si))]) hx hb (fh_d d_Ty_setHat 10 rfl) hl (by decide) rfl (fun ls hl => ?_)
  refine lv_aload_n hx hb (fh_d d_Ty_setHat 11 rfl) rfl (lv_at hl 3 rfl) ?_
  refine fh_get (own := "FormulaSetter$Typesetter") (ref := "FormulaSetter$Nucleus") (C := "FormulaSetter$Nucleus") (T := T_Nu) (N := 15) (v := .int ((C_2 u) 0)) hx hb hT i_Nu hown hK hP (mkR_nu (hu)) rfl 0 (by decide) (hT _ w87) (fun x9 h9 => u_same (hT _ w88) x9 h9) (rfl) (fh_d d_Ty_setHat 12 rfl) ?_
  refine lv_bipush (v := 94) hx hb (fh_d d_Ty_setHat 13 rfl) (by decide) ?_
  refine lv_iload hx hb (fh_d d_Ty_setHat 14 rfl) (lv_at hl 0 rfl) ?_
  refine fh_callS (cc' := c_Ty_signWidth) (nL' := 2) (rest := [.int ((C_2 u) 0)]) (av := [.int 94, .int (yS si)]) X hR (m_Ty_signWidth l D ct b RO (r - 1) n 94 (yS si) (mkR x kA aA (mkG ct x g (nI c_2) F_2 W_2 H_2 D_2 ro_2 co_2) nc lc tx len at_ C_2 R CL_2 RL)) w680 w678 w679 w6 ⟨by decide, by decide, by show _ = some 2; decide +kernel⟩ (by omega) (by decide) hP hS hl.1 rfl (by exact Nat.le_of_ble_eq_true rfl) (fh_d d_Ty_setHat 15 rfl) ⟨Nat.le_refl _, Nat.le_refl _⟩ (fun v9 h9 n9 H locs hq hP hS => ?_)
  obtain ⟨rfl, q3a, q3b⟩ := hq
  rw [q3a, q3b] at hP
  refine W.eq (g2 := F0 m 29 ls [.int (sgW 94 (yS si)), .int ((C_2 u) 0)]) rfl ?_
  refine lv_isub hx hb (fh_d d_Ty_setHat 16 rfl) ?_
  refine lv_iconst (v := 2) hx hb (fh_d d_Ty_setHat 17 rfl) (by decide) ?_
  refine lv_idiv hx hb (fh_d d_Ty_setHat 18 rfl) (by decide) ?_
  refine lv_istore (lv' := [(5, .int ((((C_2 u) 0) - (sgW 94 (yS si))) / 2)), (4, .int (yS si)), (0, .ref (x + 226)), (1, .ref (x + 4 + i)), (2, .ref (x + 4 + u)), (3, .ref (yA si))]) hx hb (fh_d d_Ty_setHat 19 rfl) hl (by decide) rfl (fun ls hl => ?_)
  refine lv_iconst (v := 0) hx hb (fh_d d_Ty_setHat 20 rfl) (by decide) ?_
  refine lv_aload_n hx hb (fh_d d_Ty_setHat 21 rfl) rfl (lv_at hl 4 rfl) ?_
  refine fh_get (own := "FormulaSetter$Typesetter") (ref := "FormulaSetter$Nucleus") (C := "FormulaSetter$Nucleus") (T := T_Nu) (N := 15) (v := .int ((C_2 u) 1)) hx hb hT i_Nu hown hK hP (mkR_nu (hu)) rfl 1 (by decide) (hT _ w94) (fun x9 h9 => u_same (hT _ w95) x9 h9) (rfl) (fh_d d_Ty_setHat 22 rfl) ?_
  refine lv_iconst (v := 5) hx hb (fh_d d_Ty_setHat 23 rfl) (by decide) ?_
  refine lv_iload hx hb (fh_d d_Ty_setHat 24 rfl) (lv_at hl 1 rfl) ?_
  refine lv_imul hx hb (fh_d d_Ty_setHat 25 rfl) ?_
  refine lv_isub hx hb (fh_d d_Ty_setHat 26 rfl) ?_
  refine va_mmax hx hb (hml.trans hl.1.symm) hown (hT _ w704) (hT _ w431) (hT _ w14) (hT _ w432) (by show 1 ≤ r; omega) (by show _ ≤ 60 * r; simp [Value.category]; omega) (Nat.le_refl _) (Nat.le_refl _) (fh_d d_Ty_setHat 27 rfl) ?_
  refine lv_istore (lv' := [(6, .int (if (0 : Int32) < (((C_2 u) 1) - (5 * (yS si))) then (((C_2 u) 1) - (5 * (yS si))) else (0 : Int32))), (5, .int ((((C_2 u) 0) - (sgW 94 (yS si))) / 2)), (4, .int (yS si)), (0, .ref (x + 226)), (1, .ref (x + 4 + i)), (2, .ref (x + 4 + u)), (3, .ref (yA si))]) hx hb (fh_d d_Ty_setHat 28 rfl) hl (by decide) rfl (fun ls hl => ?_)
  refine lv_aload_n hx hb (fh_d d_Ty_setHat 29 rfl) rfl (lv_at hl 3 rfl) ?_
  refine lv_bipush (v := 94) hx hb (fh_d d_Ty_setHat 30 rfl) (by decide) ?_
  refine lv_iload hx hb (fh_d d_Ty_setHat 31 rfl) (lv_at hl 2 rfl) ?_
  refine lv_iload hx hb (fh_d d_Ty_setHat 32 rfl) (lv_at hl 1 rfl) ?_
  refine lv_iload hx hb (fh_d d_Ty_setHat 33 rfl) (lv_at hl 0 rfl) ?_
  refine fh_callV (cc' := c_Ty_addSign) (nL' := 5) (rest := []) (a := x + 226) (As := [.int 94, .int (yS si), .int ((((C_2 u) 0) - (sgW 94 (yS si))) / 2), .int (if (0 : Int32) < (((C_2 u) 1) - (5 * (yS si))) then (((C_2 u) 1) - (5 * (yS si))) else (0 : Int32))]) X hR (m_Ty_addSign l D ct b RO hR sA sV hSt kA aA yA tK tS tM hEn hAd (r - 1) (by omega) n x g c_2 hc_2 F_2 W_2 H_2 D_2 ro_2 co_2 nc lc tx len at_ C_2 R CL_2 RL ob_2 94 (yS si) ((((C_2 u) 0) - (sgW 94 (yS si))) / 2) (if (0 : Int32) < (((C_2 u) 1) - (5 * (yS si))) then (((C_2 u) 1) - (5 * (yS si))) else (0 : Int32))) w673 w670 w672 v21 w6 ⟨by decide, by decide, by show _ = some 4; decide +kernel⟩ (by omega) (by decide) (fh_recv hK hP ((mkR_g (by omega) (by omega) (by omega)).trans mkG_ts) rfl) hP hS hl.1 rfl (by exact Nat.le_of_ble_eq_true rfl) (fh_d d_Ty_setHat 34 rfl) ⟨Nat.le_refl _, Nat.le_refl _⟩ (fun v9 h9 n9 H locs hq hP hS => ?_)
  obtain ⟨rfl, q4a, q4b⟩ := hq
  rw [q4a, q4b] at hP
  have y5 : rsv c_2 ≤ 120 := rsv_le hc_2
  replace hP : fh_P D fh_cl b (mkR x kA aA (mkG ct x g (nI (rsv c_2)) (putF F_2 c_2 0 94 ((((C_2 u) 0) - (sgW 94 (yS si))) / 2) (if (0 : Int32) < (((C_2 u) 1) - (5 * (yS si))) then (((C_2 u) 1) - (5 * (yS si))) else (0 : Int32)) (yS si) (sgW 94 (yS si))) W_2 H_2 D_2 ro_2 co_2) nc lc tx len at_ C_2 R CL_2 RL) n H := hP
  refine W.eq (g2 := F0 m 61 ls []) rfl ?_
  refine lv_aload_n hx hb (fh_d d_Ty_setHat 35 rfl) rfl (lv_at hl 4 rfl) ?_
  refine lv_aload_n hx hb (fh_d d_Ty_setHat 36 rfl) rfl (lv_at hl 5 rfl) ?_
  refine fh_get (own := "FormulaSetter$Typesetter") (ref := "FormulaSetter$Nucleus") (C := "FormulaSetter$Nucleus") (T := T_Nu) (N := 15) (v := .int ((C_2 u) 0)) hx hb hT i_Nu hown hK hP (mkR_nu (hu)) rfl 0 (by decide) (hT _ w87) (fun x9 h9 => u_same (hT _ w88) x9 h9) (rfl) (fh_d d_Ty_setHat 37 rfl) ?_
  refine lv_aload_n hx hb (fh_d d_Ty_setHat 38 rfl) rfl (lv_at hl 5 rfl) ?_
  refine fh_get (own := "FormulaSetter$Typesetter") (ref := "FormulaSetter$Nucleus") (C := "FormulaSetter$Nucleus") (T := T_Nu) (N := 15) (v := .int ((C_2 u) 1)) hx hb hT i_Nu hown hK hP (mkR_nu (hu)) rfl 1 (by decide) (hT _ w94) (fun x9 h9 => u_same (hT _ w95) x9 h9) (rfl) (fh_d d_Ty_setHat 39 rfl) ?_
  refine lv_iload hx hb (fh_d d_Ty_setHat 40 rfl) (lv_at hl 0 rfl) ?_
  refine lv_bipush (v := 94) hx hb (fh_d d_Ty_setHat 41 rfl) (by decide) ?_
  refine lv_iload hx hb (fh_d d_Ty_setHat 42 rfl) (lv_at hl 2 rfl) ?_
  refine fh_callS (cc' := c_Ty_signHeight) (nL' := 2) (rest := [.int (if (0 : Int32) < (((C_2 u) 1) - (5 * (yS si))) then (((C_2 u) 1) - (5 * (yS si))) else (0 : Int32)), .int ((C_2 u) 1), .int ((C_2 u) 0), .ref (x + 4 + i)]) (av := [.int 94, .int (yS si)]) X hR (m_Ty_signHeight l D ct b RO (r - 1) n 94 (yS si) (mkR x kA aA (mkG ct x g (nI (rsv c_2)) (putF F_2 c_2 0 94 ((((C_2 u) 0) - (sgW 94 (yS si))) / 2) (if (0 : Int32) < (((C_2 u) 1) - (5 * (yS si))) then (((C_2 u) 1) - (5 * (yS si))) else (0 : Int32)) (yS si) (sgW 94 (yS si))) W_2 H_2 D_2 ro_2 co_2) nc lc tx len at_ C_2 R CL_2 RL)) w687 w685 w686 w6 ⟨by decide, by decide, by show _ = some 2; decide +kernel⟩ (by omega) (by decide) hP hS hl.1 rfl (by exact Nat.le_of_ble_eq_true rfl) (fh_d d_Ty_setHat 43 rfl) ⟨Nat.le_refl _, Nat.le_refl _⟩ (fun v9 h9 n9 H locs hq hP hS => ?_)
  obtain ⟨rfl, q6a, q6b⟩ := hq
  rw [q6a, q6b] at hP
  refine W.eq (g2 := F0 m 79 ls [.int (sgH 94 (yS si)), .int (if (0 : Int32) < (((C_2 u) 1) - (5 * (yS si))) then (((C_2 u) 1) - (5 * (yS si))) else (0 : Int32)), .int ((C_2 u) 1), .int ((C_2 u) 0), .ref (x + 4 + i)]) rfl ?_
  refine lv_iadd hx hb (fh_d d_Ty_setHat 44 rfl) ?_
  refine va_mmax hx hb (hml.trans hl.1.symm) hown (hT _ w704) (hT _ w431) (hT _ w14) (hT _ w432) (by show 1 ≤ r; omega) (by show _ ≤ 60 * r; simp [Value.category]; omega) (Nat.le_refl _) (Nat.le_refl _) (fh_d d_Ty_setHat 45 rfl) ?_
  refine lv_aload_n hx hb (fh_d d_Ty_setHat 46 rfl) rfl (lv_at hl 5 rfl) ?_
  refine fh_get (own := "FormulaSetter$Typesetter") (ref := "FormulaSetter$Nucleus") (C := "FormulaSetter$Nucleus") (T := T_Nu) (N := 15) (v := .int ((C_2 u) 2)) hx hb hT i_Nu hown hK hP (mkR_nu (hu)) rfl 2 (by decide) (hT _ w101) (fun x9 h9 => u_same (hT _ w102) x9 h9) (rfl) (fh_d d_Ty_setHat 47 rfl) ?_
  refine fh_callU (cc' := c_Bo_measure) (nL' := 4) (rest := []) (a := x + 4 + i) (As := [.int ((C_2 u) 0), .int (if ((C_2 u) 1) < ((if (0 : Int32) < (((C_2 u) 1) - (5 * (yS si))) then (((C_2 u) 1) - (5 * (yS si))) else (0 : Int32)) + (sgH 94 (yS si))) then ((if (0 : Int32) < (((C_2 u) 1) - (5 * (yS si))) then (((C_2 u) 1) - (5 * (yS si))) else (0 : Int32)) + (sgH 94 (yS si))) else ((C_2 u) 1)), .int ((C_2 u) 2)]) (Ck := "FormulaSetter$Nucleus") (owner := "FormulaSetter$Box") (x' := ⟨"FormulaSetter$Nucleus", "measure", "(III)V"⟩) X hR (m_Bo_measureNu l D ct b RO (r - 1) n x kA aA g (nI (rsv c_2)) (putF F_2 c_2 0 94 ((((C_2 u) 0) - (sgW 94 (yS si))) / 2) (if (0 : Int32) < (((C_2 u) 1) - (5 * (yS si))) then (((C_2 u) 1) - (5 * (yS si))) else (0 : Int32)) (yS si) (sgW 94 (yS si))) W_2 H_2 D_2 ro_2 co_2 nc lc tx len at_ C_2 R CL_2 RL i (hi) ((C_2 u) 0) (if ((C_2 u) 1) < ((if (0 : Int32) < (((C_2 u) 1) - (5 * (yS si))) then (((C_2 u) 1) - (5 * (yS si))) else (0 : Int32)) + (sgH 94 (yS si))) then ((if (0 : Int32) < (((C_2 u) 1) - (5 * (yS si))) then (((C_2 u) 1) - (5 * (yS si))) else (0 : Int32)) + (sgH 94 (yS si))) else ((C_2 u) 1)) ((C_2 u) 2)) w655 w691 w692 rfl w654 w693 w3 ⟨by decide, by decide, by show _ = some 3; decide +kernel⟩ (by omega) (by decide) (fh_recv hK hP (mkR_nu (hi)) rfl) hP hS hl.1 rfl (by exact Nat.le_of_ble_eq_true rfl) (fh_d d_Ty_setHat 48 rfl) ⟨Nat.le_refl _, Nat.le_refl _⟩ (fun v9 h9 n9 H locs hq hP hS => ?_)
  obtain ⟨rfl, q7a, q7b⟩ := hq
  rw [q7a, q7b] at hP
  refine W.eq (g2 := F0 m 90 ls []) rfl ?_
  have f8 : (sT (sT (sT C_2 i 0 ((C_2 u) 0)) i 1 (if ((C_2 u) 1) < ((if (0 : Int32) < (((C_2 u) 1) - (5 * (yS si))) then (((C_2 u) 1) - (5 * (yS si))) else (0 : Int32)) + (sgH 94 (yS si))) then ((if (0 : Int32) < (((C_2 u) 1) - (5 * (yS si))) then (((C_2 u) 1) - (5 * (yS si))) else (0 : Int32)) + (sgH 94 (yS si))) else ((C_2 u) 1))) i 2 ((C_2 u) 2)) i 0 = (C_2 u) 0 := (sT_ne (by omega)).trans ((sT_ne (by omega)).trans sT_same)
  have f9 : (sT (sT (sT C_2 i 0 ((C_2 u) 0)) i 1 (if ((C_2 u) 1) < ((if (0 : Int32) < (((C_2 u) 1) - (5 * (yS si))) then (((C_2 u) 1) - (5 * (yS si))) else (0 : Int32)) + (sgH 94 (yS si))) then ((if (0 : Int32) < (((C_2 u) 1) - (5 * (yS si))) then (((C_2 u) 1) - (5 * (yS si))) else (0 : Int32)) + (sgH 94 (yS si))) else ((C_2 u) 1))) i 2 ((C_2 u) 2)) i 1 = if ((C_2 u) 1) < ((if (0 : Int32) < (((C_2 u) 1) - (5 * (yS si))) then (((C_2 u) 1) - (5 * (yS si))) else (0 : Int32)) + (sgH 94 (yS si))) then ((if (0 : Int32) < (((C_2 u) 1) - (5 * (yS si))) then (((C_2 u) 1) - (5 * (yS si))) else (0 : Int32)) + (sgH 94 (yS si))) else ((C_2 u) 1) := (sT_ne (by omega)).trans sT_same
  have f10 : (sT (sT (sT C_2 i 0 ((C_2 u) 0)) i 1 (if ((C_2 u) 1) < ((if (0 : Int32) < (((C_2 u) 1) - (5 * (yS si))) then (((C_2 u) 1) - (5 * (yS si))) else (0 : Int32)) + (sgH 94 (yS si))) then ((if (0 : Int32) < (((C_2 u) 1) - (5 * (yS si))) then (((C_2 u) 1) - (5 * (yS si))) else (0 : Int32)) + (sgH 94 (yS si))) else ((C_2 u) 1))) i 2 ((C_2 u) 2)) i 2 = (C_2 u) 2 := sT_same
  have y11 : okB (sT (sT (sT C_2 i 0 ((C_2 u) 0)) i 1 (if ((C_2 u) 1) < ((if (0 : Int32) < (((C_2 u) 1) - (5 * (yS si))) then (((C_2 u) 1) - (5 * (yS si))) else (0 : Int32)) + (sgH 94 (yS si))) then ((if (0 : Int32) < (((C_2 u) 1) - (5 * (yS si))) then (((C_2 u) 1) - (5 * (yS si))) else (0 : Int32)) + (sgH 94 (yS si))) else ((C_2 u) 1))) i 2 ((C_2 u) 2)) CL_2 := okB_m ob_2 i ((C_2 u) 0) (if ((C_2 u) 1) < ((if (0 : Int32) < (((C_2 u) 1) - (5 * (yS si))) then (((C_2 u) 1) - (5 * (yS si))) else (0 : Int32)) + (sgH 94 (yS si))) then ((if (0 : Int32) < (((C_2 u) 1) - (5 * (yS si))) then (((C_2 u) 1) - (5 * (yS si))) else (0 : Int32)) + (sgH 94 (yS si))) else ((C_2 u) 1)) ((C_2 u) 2)
  refine fh_vret X hP hS (fh_d d_Ty_setHat 49 rfl) ⟨rfl, ?_, rfl⟩
  · unfold sHat; (try dsimp only); rw [← e_2]; dsimp only; rfl

set_option maxHeartbeats 4000000 in
set_option maxRecDepth 100000 in
theorem m_Ty_setBar (l : Launch) (D : va_G) (ct : Nat → ClassId) (b : Nat) (RO : State → Prop) (hR : fh_R b RO) (sA sV : Nat → Nat) (hSt : ∀ U, RO U → ro_S b sA sV U) (kA aA yA : Nat → Nat) (tK tS tM : Nat) (hEn : ∀ U, RO U → ro_E b sA kA aA yA tK tS tM U) (hAd : ad_ok kA aA yA)  (n x : Nat) (g : fh_H) (c0 : Nat) (hc0 : c0 ≤ 120) (F W0 H0 D0 : Nat → Int32) (rows cols : Int32) (nc lc : Int32) (tx : Value) (len at_ : Int32) (C : Nat → Nat → Int32) (R : Nat → Nat → Option Nat) (CL : Nat → Nat → Int32) (RL : Nat → Nat → Option Nat) (hokB : okB C CL) (N1 : FN) (okN : Nat → Prop) (r0 : Nat) (hN1 : cSN l D ct b RO kA aA yA n x g nc lc tx len at_ R RL okN r0 N1) (hB1 : bSN 60 okN N1) (r : Nat) (hr : r0 + 1 ≤ r) (hr4 : 4 ≤ r) (i si : Nat) (hi : i < 60) (hsi : si < 4) (u : Nat) (hu : u < 60) (hou : okN u) : fh_C l D fh_cl (fh_tys ct) b RO y_Ty_setBar (Cond.code y_Ty_setBar c_Ty_setBar 5 (Option.none : Option FieldType) :: fh_T) (fh_rm r 0 0) [.ref (x + 226), .ref (x + 4 + i), .ref (x + 4 + u), .ref (yA si)] (mkR x kA aA (mkG ct x g (nI c0) F W0 H0 D0 rows cols) nc lc tx len at_ C R CL RL) n (fun v h' n' => v = none ∧ h' = hz ct x kA aA g nc lc tx len at_ R RL (sBar N1 i u si (c0, F, W0, H0, D0, rows, cols, C, CL)) ∧ n' = n) 0 0 := by
  refine fh_enter (by decide) (Nat.le_of_ble_eq_true rfl) [(0, .ref (x + 226)), (1, .ref (x + 4 + i)), (2, .ref (x + 4 + u)), (3, .ref (yA si))] rfl ?_
  intro p e s m args below meth c H ls X hP hS hl
  have hx := X.1
  have hb := X.2.1
  have hml := X.2.2.1
  have hown : s.vm.findClass "FormulaSetter$Typesetter" = some m.cls := X.2.2.2.1
  have hT := X.2.2.2.2.1
  have hK := X.2.2.2.2.2.1
  have hRO := X.2.2.2.2.2.2.1
  have hnm : meth.name = "setBar" := X.2.2.2.2.2.2.2.2.2.2
  refine lv_aload_n hx hb (fh_d d_Ty_setBar 0 rfl) rfl (lv_at hl 2 rfl) ?_
  refine lv_ifnonnull (tgt := 5) hx hb (fh_d d_Ty_setBar 1 rfl) rfl ?_
  refine lv_aload_n hx hb (fh_d d_Ty_setBar 3 rfl) rfl (lv_at hl 0 rfl) ?_
  refine lv_aload_n hx hb (fh_d d_Ty_setBar 4 rfl) rfl (lv_at hl 2 rfl) ?_
  refine lv_aload_n hx hb (fh_d d_Ty_setBar 5 rfl) rfl (lv_at hl 3 rfl) ?_
  refine lv_iconst (v := 1) hx hb (fh_d d_Ty_setBar 6 rfl) (by decide) ?_
  refine W.eq (g2 := F0 m 9 ls [.int (nI 1), .ref (yA si), .ref (x + 4 + u), .ref (x + 226)]) rfl ?_
  refine fh_callV (cc' := c_Ty_setNucleus) (nL' := 4) (rest := []) (a := x + 226) (As := [.ref (x + 4 + u), .ref (yA si), .int (nI 1)]) X hR (hN1 (r - 1) (by omega) (c0, F, W0, H0, D0, rows, cols, C, CL) ⟨hc0, hokB⟩ u si 1 (hu) hou hsi (by omega)) w663 w660 w662 v19 w6 ⟨by decide, by decide, by show _ = some 3; decide +kernel⟩ (by omega) (by decide) (fh_recv hK hP ((mkR_g (by omega) (by omega) (by omega)).trans mkG_ts) rfl) hP hS hl.1 rfl (by exact Nat.le_of_ble_eq_true rfl) (fh_d d_Ty_setBar 7 rfl) ⟨Nat.le_refl _, Nat.le_refl _⟩ (fun v9 h9 n9 H locs hq hP hS => ?_)
  obtain ⟨⟨c_2, F_2, W_2, H_2, D_2, ro_2, co_2, C_2, CL_2⟩, e_2⟩ : ∃ z, z = N1 (c0, F, W0, H0, D0, rows, cols, C, CL) u si 1 := ⟨_, rfl⟩
  obtain ⟨rfl, q_2a, q_2b⟩ := hq
  rw [← e_2] at q_2a
  rw [q_2a, q_2b] at hP
  have o_2 : okT (c_2, F_2, W_2, H_2, D_2, ro_2, co_2, C_2, CL_2) := by rw [e_2]; exact hB1 _ _ _ _ ⟨hc0, hokB⟩ (hu) hou
  have hc_2 : c_2 ≤ 120 := o_2.1
  have ob_2 : okB C_2 CL_2 := o_2.2
  replace hP : fh_P D fh_cl b (mkR x kA aA (mkG ct x g (nI c_2) F_2 W_2 H_2 D_2 ro_2 co_2) nc lc tx len at_ C_2 R CL_2 RL) n H := hP
  refine W.eq (g2 := F0 m 12 ls []) rfl ?_
  refine lv_aload_n hx hb (fh_d d_Ty_setBar 8 rfl) rfl (lv_at hl 3 rfl) ?_
  refine vk_getf (own := "FormulaSetter$Typesetter") (ref := "FormulaSetter$Style") hx hb (((hEn _ hRO).2.2.1 si hsi).2.2.2.2.1) hS hown (hT _ w1251) (fun _ h9 => h9) (fh_d d_Ty_setBar 9 rfl) ?_
  refine lv_istore (lv' := [(4, .int (yT si)), (0, .ref (x + 226)), (1, .ref (x + 4 + i)), (2, .ref (x + 4 + u)), (3, .ref (yA si))]) hx hb (fh_d d_Ty_setBar 10 rfl) hl (by decide) rfl (fun ls hl => ?_)
  refine lv_aload_n hx hb (fh_d d_Ty_setBar 11 rfl) rfl (lv_at hl 1 rfl) ?_
  refine fh_get (own := "FormulaSetter$Typesetter") (ref := "FormulaSetter$Typesetter") (C := "FormulaSetter$Typesetter") (T := T_Ty) (N := 2) (v := .ref (x + 227)) hx hb hT i_Ty hown hK hP ((mkR_g (by omega) (by omega) (by omega)).trans mkG_ts) rfl 0 (by decide) (hT _ w247) (fun _ h9 => h9) rfl (fh_d d_Ty_setBar 12 rfl) ?_
  refine lv_aload_n hx hb (fh_d d_Ty_setBar 13 rfl) rfl (lv_at hl 1 rfl) ?_
  refine fh_get (own := "FormulaSetter$Typesetter") (ref := "FormulaSetter$Typesetter") (C := "FormulaSetter$Typesetter") (T := T_Ty) (N := 2) (v := .ref (x + 227)) hx hb hT i_Ty hown hK hP ((mkR_g (by omega) (by omega) (by omega)).trans mkG_ts) rfl 0 (by decide) (hT _ w247) (fun _ h9 => h9) rfl (fh_d d_Ty_setBar 14 rfl) ?_
  refine fh_callV (cc' := c_Sh_reserve) (nL' := 2) (rest := [.ref (x + 227)]) (a := x + 227) (As := []) X hR (m_Sh_reserve l D ct b RO (r - 1) n x kA aA g c_2 hc_2 F_2 W_2 H_2 D_2 ro_2 co_2 nc lc tx len at_ C_2 R CL_2 RL) w677 w674 w675 w676 w7 ⟨by decide, by decide, by show _ = some 0; decide +kernel⟩ (by omega) (by decide) (fh_recv hK hP ((mkR_g (by omega) (by omega) (by omega)).trans mkG_sh) rfl) hP hS hl.1 rfl (by exact Nat.le_of_ble_eq_true rfl) (fh_d d_Ty_setBar 15 rfl) ⟨Nat.le_refl _, Nat.le_refl _⟩ (fun v9 h9 n9 H locs hq hP hS => ?_)
  obtain ⟨rfl, q3a, q3b⟩ := hq
  rw [q3a, q3b] at hP
  have y4 : rsv c_2 ≤ 120 := rsv_le hc_2
  replace hP : fh_P D fh_cl b (mkR x kA aA (mkG ct x g (nI (rsv c_2)) F_2 W_2 H_2 D_2 ro_2 co_2) nc lc tx len at_ C_2 R CL_2 RL) n H := hP
  refine W.eq (g2 := F0 m 29 ls [.int (nI c_2), .ref (x + 227)]) rfl ?_
  refine lv_iconst (v := 1) hx hb (fh_d d_Ty_setBar 16 rfl) (by decide) ?_
  refine lv_iconst (v := 0) hx hb (fh_d d_Ty_setBar 17 rfl) (by decide) ?_
  refine lv_iconst (v := 0) hx hb (fh_d d_Ty_setBar 18 rfl) (by decide) ?_
  refine lv_aload_n hx hb (fh_d d_Ty_setBar 19 rfl) rfl (lv_at hl 3 rfl) ?_
  refine fh_get (own := "FormulaSetter$Typesetter") (ref := "FormulaSetter$Nucleus") (C := "FormulaSetter$Nucleus") (T := T_Nu) (N := 15) (v := .int ((C_2 u) 1)) hx hb hT i_Nu hown hK hP (mkR_nu (hu)) rfl 1 (by decide) (hT _ w94) (fun x9 h9 => u_same (hT _ w95) x9 h9) (rfl) (fh_d d_Ty_setBar 20 rfl) ?_
  refine lv_iload hx hb (fh_d d_Ty_setBar 21 rfl) (lv_at hl 0 rfl) ?_
  refine lv_iadd hx hb (fh_d d_Ty_setBar 22 rfl) ?_
  refine lv_iload hx hb (fh_d d_Ty_setBar 23 rfl) (lv_at hl 0 rfl) ?_
  refine lv_aload_n hx hb (fh_d d_Ty_setBar 24 rfl) rfl (lv_at hl 3 rfl) ?_
  refine fh_get (own := "FormulaSetter$Typesetter") (ref := "FormulaSetter$Nucleus") (C := "FormulaSetter$Nucleus") (T := T_Nu) (N := 15) (v := .int ((C_2 u) 0)) hx hb hT i_Nu hown hK hP (mkR_nu (hu)) rfl 0 (by decide) (hT _ w87) (fun x9 h9 => u_same (hT _ w88) x9 h9) (rfl) (fh_d d_Ty_setBar 25 rfl) ?_
  refine fh_callV (cc' := c_Sh_put) (nL' := 9) (rest := []) (a := x + 227) (As := [.int (nI c_2), .int 1, .int 0, .int 0, .int (((C_2 u) 1) + (yT si)), .int (yT si), .int ((C_2 u) 0)]) X hR (m_Sh_put l D ct b RO (r - 1) n x kA aA g (nI (rsv c_2)) F_2 W_2 H_2 D_2 ro_2 co_2 nc lc tx len at_ C_2 R CL_2 RL c_2 hc_2 1 0 0 (((C_2 u) 1) + (yT si)) (yT si) ((C_2 u) 0)) w684 w681 w682 w683 w7 ⟨by decide, by decide, by show _ = some 7; decide +kernel⟩ (by omega) (by decide) (fh_recv hK hP ((mkR_g (by omega) (by omega) (by omega)).trans mkG_sh) rfl) hP hS hl.1 rfl (by exact Nat.le_of_ble_eq_true rfl) (fh_d d_Ty_setBar 26 rfl) ⟨Nat.le_refl _, Nat.le_refl _⟩ (fun v9 h9 n9 H locs hq hP hS => ?_)
  obtain ⟨rfl, q5a, q5b⟩ := hq
  rw [q5a, q5b] at hP
  refine W.eq (g2 := F0 m 48 ls []) rfl ?_
  refine lv_aload_n hx hb (fh_d d_Ty_setBar 27 rfl) rfl (lv_at hl 2 rfl) ?_
  refine lv_aload_n hx hb (fh_d d_Ty_setBar 28 rfl) rfl (lv_at hl 3 rfl) ?_
  refine fh_get (own := "FormulaSetter$Typesetter") (ref := "FormulaSetter$Nucleus") (C := "FormulaSetter$Nucleus") (T := T_Nu) (N := 15) (v := .int ((C_2 u) 0)) hx hb hT i_Nu hown hK hP (mkR_nu (hu)) rfl 0 (by decide) (hT _ w87) (fun x9 h9 => u_same (hT _ w88) x9 h9) (rfl) (fh_d d_Ty_setBar 29 rfl) ?_
  refine lv_aload_n hx hb (fh_d d_Ty_setBar 30 rfl) rfl (lv_at hl 3 rfl) ?_
  refine fh_get (own := "FormulaSetter$Typesetter") (ref := "FormulaSetter$Nucleus") (C := "FormulaSetter$Nucleus") (T := T_Nu) (N := 15) (v := .int ((C_2 u) 1)) hx hb hT i_Nu hown hK hP (mkR_nu (hu)) rfl 1 (by decide) (hT _ w94) (fun x9 h9 => u_same (hT _ w95) x9 h9) (rfl) (fh_d d_Ty_setBar 31 rfl) ?_
  refine lv_iconst (v := 3) hx hb (fh_d d_Ty_setBar 32 rfl) (by decide) ?_
  refine lv_iload hx hb (fh_d d_Ty_setBar 33 rfl) (lv_at hl 0 rfl) ?_
  refine lv_imul hx hb (fh_d d_Ty_setBar 34 rfl) ?_
  refine lv_iadd hx hb (fh_d d_Ty_setBar 35 rfl) ?_
  refine lv_aload_n hx hb (fh_d d_Ty_setBar 36 rfl) rfl (lv_at hl 3 rfl) ?_
  refine fh_get (own := "FormulaSetter$Typesetter") (ref := "FormulaSetter$Nucleus") (C := "FormulaSetter$Nucleus") (T := T_Nu) (N := 15) (v := .int ((C_2 u) 2)) hx hb hT i_Nu hown hK hP (mkR_nu (hu)) rfl 2 (by decide) (hT _ w101) (fun x9 h9 => u_same (hT _ w102) x9 h9) (rfl) (fh_d d_Ty_setBar 37 rfl) ?_
  refine fh_callU (cc' := c_Bo_measure) (nL' := 4) (rest := []) (a := x + 4 + i) (As := [.int ((C_2 u) 0), .int (((C_2 u) 1) + (3 * (yT si))), .int ((C_2 u) 2)]) (Ck := "FormulaSetter$Nucleus") (owner := "FormulaSetter$Box") (x' := ⟨"FormulaSetter$Nucleus", "measure", "(III)V"⟩) X hR (m_Bo_measureNu l D ct b RO (r - 1) n x kA aA g (nI (rsv c_2)) (putF F_2 c_2 1 0 0 (((C_2 u) 1) + (yT si)) (yT si) ((C_2 u) 0)) W_2 H_2 D_2 ro_2 co_2 nc lc tx len at_ C_2 R CL_2 RL i (hi) ((C_2 u) 0) (((C_2 u) 1) + (3 * (yT si))) ((C_2 u) 2)) w655 w691 w692 rfl w654 w693 w3 ⟨by decide, by decide, by show _ = some 3; decide +kernel⟩ (by omega) (by decide) (fh_recv hK hP (mkR_nu (hi)) rfl) hP hS hl.1 rfl (by exact Nat.le_of_ble_eq_true rfl) (fh_d d_Ty_setBar 38 rfl) ⟨Nat.le_refl _, Nat.le_refl _⟩ (fun v9 h9 n9 H locs hq hP hS => ?_)
  obtain ⟨rfl, q6a, q6b⟩ := hq
  rw [q6a, q6b] at hP
  refine W.eq (g2 := F0 m 69 ls []) rfl ?_
  have f7 : (sT (sT (sT C_2 i 0 ((C_2 u) 0)) i 1 (((C_2 u) 1) + (3 * (yT si)))) i 2 ((C_2 u) 2)) i 0 = (C_2 u) 0 := (sT_ne (by omega)).trans ((sT_ne (by omega)).trans sT_same)
  have f8 : (sT (sT (sT C_2 i 0 ((C_2 u) 0)) i 1 (((C_2 u) 1) + (3 * (yT si)))) i 2 ((C_2 u) 2)) i 1 = ((C_2 u) 1) + (3 * (yT si)) := (sT_ne (by omega)).trans sT_same
  have f9 : (sT (sT (sT C_2 i 0 ((C_2 u) 0)) i 1 (((C_2 u) 1) + (3 * (yT si)))) i 2 ((C_2 u) 2)) i 2 = (C_2 u) 2 := sT_same
  have y10 : okB (sT (sT (sT C_2 i 0 ((C_2 u) 0)) i 1 (((C_2 u) 1) + (3 * (yT si)))) i 2 ((C_2 u) 2)) CL_2 := okB_m ob_2 i ((C_2 u) 0) (((C_2 u) 1) + (3 * (yT si))) ((C_2 u) 2)
  refine fh_vret X hP hS (fh_d d_Ty_setBar 39 rfl) ⟨rfl, ?_, rfl⟩
  · unfold sBar; (try dsimp only); rw [← e_2]; dsimp only; rfl
