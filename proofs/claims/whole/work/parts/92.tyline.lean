/-! Typesetter: setLine. Printed by wip/whole/gen/p92.py -/
/-- an item of a line -/
def okI (R : Nat → Nat → Option Nat) (okN : Nat → Prop) (i : Nat) : Prop := i < 60 ∧ okN i ∧ (∃ k, k < 11 ∧ R i 5 = some k) ∧ (∃ a, a < 8 ∧ R i 6 = some a) ∧ (∀ u, R i 12 = some u → u < 60 ∧ okN u) ∧ (∀ u, R i 13 = some u → u < 60 ∧ okN u)
set_option maxHeartbeats 4000000 in
set_option maxRecDepth 100000 in
theorem m_Ty_setLine (l : Launch) (D : va_G) (ct : Nat → ClassId) (b : Nat) (RO : State → Prop) (hR : fh_R b RO) (sA sV : Nat → Nat) (hSt : ∀ U, RO U → ro_S b sA sV U) (kA aA yA : Nat → Nat) (tK tS tM : Nat) (hEn : ∀ U, RO U → ro_E b sA kA aA yA tK tS tM U) (hAd : ad_ok kA aA yA)  (n x : Nat) (g : fh_H) (c0 : Nat) (hc0 : c0 ≤ 120) (F W0 H0 D0 : Nat → Int32) (rows cols : Int32) (nc lc : Int32) (tx : Value) (len at_ : Int32) (C : Nat → Nat → Int32) (R : Nat → Nat → Option Nat) (CL : Nat → Nat → Int32) (RL : Nat → Nat → Option Nat) (hokB : okB C CL) (N1 : FN) (okN : Nat → Prop) (r0 : Nat) (hN1 : cSN l D ct b RO kA aA yA n x g nc lc tx len at_ R RL okN r0 N1) (hB1 : bSN 60 okN N1) (r : Nat) (hr : r0 + 2 ≤ r) (hr4 : 6 ≤ r) (j si cr : Nat) (hj : j < 161) (hsi : si < 4) (hcr : cr ≤ 1) (its : List Nat) (hfi : RL j 5 = its.head?) (hnx : nxC R 14 its) (hit : ∀ i ∈ its, okI R okN i) : fh_C l D fh_cl (fh_tys ct) b RO y_Ty_setLine (Cond.code y_Ty_setLine c_Ty_setLine 8 (Option.none : Option FieldType) :: fh_T) (fh_rm r 0 0) [.ref (x + 226), .ref (x + 65 + j), .ref (yA si), .int (nI cr)] (mkR x kA aA (mkG ct x g (nI c0) F W0 H0 D0 rows cols) nc lc tx len at_ C R CL RL) n (fun v h' n' => v = none ∧ h' = hz ct x kA aA g nc lc tx len at_ R RL (sLi R N1 its (c0, F, W0, H0, D0, rows, cols, C, CL) j si cr) ∧ n' = n) 0 0 := by
  refine fh_enter (by decide) (Nat.le_of_ble_eq_true rfl) [(0, .ref (x + 226)), (1, .ref (x + 65 + j)), (2, .ref (yA si)), (3, .int (nI cr))] rfl ?_
  intro p e s m args below meth c H ls X hP hS hl
  have hx := X.1
  have hb := X.2.1
  have hml := X.2.2.1
  have hown : s.vm.findClass "FormulaSetter$Typesetter" = some m.cls := X.2.2.2.1
  have hT := X.2.2.2.2.1
  have hK := X.2.2.2.2.2.1
  have hRO := X.2.2.2.2.2.2.1
  have hnm : meth.name = "setLine" := X.2.2.2.2.2.2.2.2.2.2
  have loop : ∀ (t : List Nat) (bf : Option Nat) (c9 : Nat) (F9 W9 H9 D9 : Nat → Int32) (ro9 co9 : Int32) (C9 CL9 : Nat → Nat → Int32), okT (c9, F9, W9, H9, D9, ro9, co9, C9, CL9) → nxC R 14 t → (∀ i ∈ t, okI R okN i) → (∀ q, bf = some q → q < 60 ∧ ∃ a, a < 8 ∧ R q 6 = some a) → sIts R N1 j si cr bf t (c9, F9, W9, H9, D9, ro9, co9, C9, CL9) = sIts R N1 j si cr none its (c0, F, W0, H0, D0, rows, cols, C, meas (sT CL j 3 (nI c0)) j 0 0 0) → ∀ (H : Heap) (locs : List Loc) (ls : Array Slot), fh_P D fh_cl b (mkR x kA aA (mkG ct x g (nI c9) F9 W9 H9 D9 ro9 co9) nc lc tx len at_ C9 R CL9 RL) n H → va_S (fh_A b) s.heap H locs → lv_has ls 8 [(4, va_rf (bf.map (fun z => x + 4 + z))), (5, va_rf ((t.head?).map (fun z => x + 4 + z))), (0, .ref (x + 226)), (1, .ref (x + 65 + j)), (2, .ref (yA si)), (3, .int (nI cr))] → W p l e (fh_rm r 0 0) s m args below meth c H locs 0 0 (MQ below (fh_Post D fh_cl b (fun v h' n' => v = none ∧ h' = hz ct x kA aA g nc lc tx len at_ R RL (sLi R N1 its (c0, F, W0, H0, D0, rows, cols, C, CL) j si cr) ∧ n' = n)) args s 0 0 (fh_A b)) (F0 m 27 ls []) := by
    intro t
    induction t with
    | nil =>
      intro bf c9 F9 W9 H9 D9 ro9 co9 C9 CL9 o9 hnt hot hbf hfo H locs ls hP hS hl
      replace hl : lv_has ls 8 [(5, .null), (0, .ref (x + 226)), (1, .ref (x + 65 + j)), (2, .ref (yA si)), (3, .int (nI cr))] := lv_sub hl [1, 2, 3, 4, 5] rfl
      refine lv_aloadN hx hb (fh_d d_Ty_setLine 15 rfl) (lv_at hl 0 rfl) ?_
      refine lv_ifnullN (tgt := 136) hx hb (fh_d d_Ty_setLine 16 rfl) rfl ?_
      refine lv_aload_n hx hb (fh_d d_Ty_setLine 66 rfl) rfl (lv_at hl 2 rfl) ?_
      refine lv_aload_n hx hb (fh_d d_Ty_setLine 67 rfl) rfl (lv_at hl 1 rfl) ?_
      refine fh_get (own := "FormulaSetter$Typesetter") (ref := "FormulaSetter$Typesetter") (C := "FormulaSetter$Typesetter") (T := T_Ty) (N := 2) (v := .ref (x + 227)) hx hb hT i_Ty hown hK hP ((mkR_g (by omega) (by omega) (by omega)).trans mkG_ts) rfl 0 (by decide) (hT _ w247) (fun _ h9 => h9) rfl (fh_d d_Ty_setLine 68 rfl) ?_
      refine fh_get (own := "FormulaSetter$Typesetter") (ref := "FormulaSetter$Sheet") (C := "FormulaSetter$Sheet") (T := T_Sh) (N := 2) (v := .int (nI c9)) hx hb hT i_Sh hown hK hP ((mkR_g (by omega) (by omega) (by omega)).trans mkG_sh) rfl 1 (by decide) (hT _ w217) (fun _ h9 => h9) rfl (fh_d d_Ty_setLine 69 rfl) ?_
      refine fh_put (own := "FormulaSetter$Typesetter") (ref := "FormulaSetter$Line") (C := "FormulaSetter$Line") (T := T_Li) (N := 9) (v := .int (nI c9)) (ty := .int) hx hb hT i_Li t_Li k_Li n_Li hown hK hP hS (mkR_li (hj)) rfl 4 (by decide) (hT _ w109) (fun x9 h9 => u_same (hT _ w110) x9 h9) rfl (by decide +kernel) rfl rfl (Nat.le_of_ble_eq_true rfl) (fh_d d_Ty_setLine 70 rfl) (fun H locs hP hS => ?_)
      replace hP := fh_P.eq (h' := mkR x kA aA (mkG ct x g (nI c9) F9 W9 H9 D9 ro9 co9) nc lc tx len at_ C9 R (sT CL9 j 4 (nI c9)) RL) hP (mkR_li4 (v := nI c9) (hj))
      have f2 : (sT CL9 j 4 (nI c9)) j 4 = nI c9 := sT_same
      have y3 : okB C9 (sT CL9 j 4 (nI c9)) := okB_L o9.2 j 4 (nI c9) (fun _ => okv_n o9.1) (by omega)
      refine fh_vret X hP hS (fh_d d_Ty_setLine 71 rfl) ⟨rfl, ?_, rfl⟩
      · unfold sLi; dsimp only; rw [← hfo]; rfl
    | cons i t ih =>
      intro bf c9 F9 W9 H9 D9 ro9 co9 C9 CL9 o9 hnt hot hbf hfo H locs ls hP hS hl
      obtain ⟨hi, hoi, ⟨k9, hk9, h5⟩, ⟨a9, ha9, h6⟩, hu12, hu13⟩ := hot i List.mem_cons_self
      rcases bf with _ | q9
      · have hq9 : True := trivial
        have hl : lv_has ls 8 [(4, .null), (5, .ref (x + 4 + i)), (0, .ref (x + 226)), (1, .ref (x + 65 + j)), (2, .ref (yA si)), (3, .int (nI cr))] := hl
        refine lv_aload hx hb (fh_d d_Ty_setLine 15 rfl) (lv_at hl 1 rfl) ?_
        refine lv_ifnull hx hb (fh_d d_Ty_setLine 16 rfl) ?_
        refine lv_aload_n hx hb (fh_d d_Ty_setLine 17 rfl) rfl (lv_at hl 2 rfl) ?_
        refine lv_aload hx hb (fh_d d_Ty_setLine 18 rfl) (lv_at hl 1 rfl) ?_
        refine lv_aload_n hx hb (fh_d d_Ty_setLine 19 rfl) rfl (lv_at hl 4 rfl) ?_
        refine lv_iload_n hx hb (fh_d d_Ty_setLine 20 rfl) rfl (lv_at hl 5 rfl) ?_
        refine fh_callV (cc' := c_Ty_setItem) (nL' := 4) (rest := []) (a := x + 226) (As := [.ref (x + 4 + i), .ref (yA si), .int (nI cr)]) X hR (m_Ty_setItem l D ct b RO hR sA sV hSt kA aA yA tK tS tM hEn hAd n x g c9 o9.1 F9 W9 H9 D9 ro9 co9 nc lc tx len at_ C9 R CL9 RL o9.2 N1 okN r0 hN1 hB1 (r - 1) (by omega) (by omega) i si cr hi hsi hcr k9 hk9 h5 hoi hu12 hu13) w659 w656 w658 v18 w6 ⟨by decide, by decide, by show _ = some 3; decide +kernel⟩ (by omega) (by decide) (fh_recv hK hP ((mkR_g (by omega) (by omega) (by omega)).trans mkG_ts) rfl) hP hS hl.1 rfl (by exact Nat.le_of_ble_eq_true rfl) (fh_d d_Ty_setLine 21 rfl) ⟨Nat.le_refl _, Nat.le_refl _⟩ (fun v9 h9 n9 H locs hq hP hS => ?_)
        obtain ⟨⟨c_5, F_5, W_5, H_5, D_5, ro_5, co_5, C_5, CL_5⟩, e_5⟩ : ∃ z, z = sItem R N1 (c9, F9, W9, H9, D9, ro9, co9, C9, CL9) i si cr := ⟨_, rfl⟩
        obtain ⟨rfl, q_5a, q_5b⟩ := hq
        rw [← e_5] at q_5a
        rw [q_5a, q_5b] at hP
        have o_5 : okT (c_5, F_5, W_5, H_5, D_5, ro_5, co_5, C_5, CL_5) := by rw [e_5]; exact sItem_ok hB1 ⟨o9.1, o9.2⟩ hi hoi hu12 hu13 si cr
        have hc_5 : c_5 ≤ 120 := o_5.1
        have ob_5 : okB C_5 CL_5 := o_5.2
        replace hP : fh_P D fh_cl b (mkR x kA aA (mkG ct x g (nI c_5) F_5 W_5 H_5 D_5 ro_5 co_5) nc lc tx len at_ C_5 R CL_5 RL) n H := hP
        refine W.eq (g2 := F0 m 40 ls []) rfl ?_
        refine lv_aloadN hx hb (fh_d d_Ty_setLine 22 rfl) (lv_at hl 0 rfl) ?_
        refine lv_ifnonnullN hx hb (fh_d d_Ty_setLine 23 rfl) ?_
        refine lv_iconst (v := 0) hx hb (fh_d d_Ty_setLine 24 rfl) (by decide) ?_
        refine lv_goto (tgt := 63) hx hb (fh_d d_Ty_setLine 25 rfl) rfl ?_
        refine lv_istore (lv' := [(6, .int 0), (4, .null), (5, .ref (x + 4 + i)), (0, .ref (x + 226)), (1, .ref (x + 65 + j)), (2, .ref (yA si)), (3, .int (nI cr))]) hx hb (fh_d d_Ty_setLine 32 rfl) hl (by decide) rfl (fun ls hl => ?_)
        refine lv_aload_n hx hb (fh_d d_Ty_setLine 33 rfl) rfl (lv_at hl 4 rfl) ?_
        refine fh_get (own := "FormulaSetter$Typesetter") (ref := "FormulaSetter$Line") (C := "FormulaSetter$Line") (T := T_Li) (N := 9) (v := .int ((CL_5 j) 0)) hx hb hT i_Li hown hK hP (mkR_li (hj)) rfl 0 (by decide) (hT _ w86) (fun x9 h9 => u_same (hT _ w85) x9 h9) (rfl) (fh_d d_Ty_setLine 34 rfl) ?_
        refine lv_iload hx hb (fh_d d_Ty_setLine 35 rfl) (lv_at hl 0 rfl) ?_
        refine lv_iadd hx hb (fh_d d_Ty_setLine 36 rfl) ?_
        refine lv_istore (lv' := [(7, .int (((CL_5 j) 0) + 0)), (6, .int 0), (4, .null), (5, .ref (x + 4 + i)), (0, .ref (x + 226)), (1, .ref (x + 65 + j)), (2, .ref (yA si)), (3, .int (nI cr))]) hx hb (fh_d d_Ty_setLine 37 rfl) hl (by decide) rfl (fun ls hl => ?_)
        refine lv_aload_n hx hb (fh_d d_Ty_setLine 38 rfl) rfl (lv_at hl 4 rfl) ?_
        refine fh_get (own := "FormulaSetter$Typesetter") (ref := "FormulaSetter$Typesetter") (C := "FormulaSetter$Typesetter") (T := T_Ty) (N := 2) (v := .ref (x + 227)) hx hb hT i_Ty hown hK hP ((mkR_g (by omega) (by omega) (by omega)).trans mkG_ts) rfl 0 (by decide) (hT _ w247) (fun _ h9 => h9) rfl (fh_d d_Ty_setLine 39 rfl) ?_
        refine lv_aload hx hb (fh_d d_Ty_setLine 40 rfl) (lv_at hl 3 rfl) ?_
        refine lv_iload hx hb (fh_d d_Ty_setLine 41 rfl) (lv_at hl 0 rfl) ?_
        refine lv_iconst (v := 0) hx hb (fh_d d_Ty_setLine 42 rfl) (by decide) ?_
        refine fh_callV (cc' := c_Sh_move) (nL' := 5) (rest := []) (a := x + 227) (As := [.ref (x + 4 + i), .int (((CL_5 j) 0) + 0), .int 0]) X hR (m_Sh_mvNu l D ct b RO (r - 1) (by omega) n x kA aA g (nI c_5) F_5 W_5 H_5 D_5 ro_5 co_5 nc lc tx len at_ C_5 R CL_5 RL i (hi) (ob_5.1 i (hi)).1 (ob_5.1 i (hi)).2 (((CL_5 j) 0) + 0) 0) w723 w720 w721 w722 w7 ⟨by decide, by decide, by show _ = some 3; decide +kernel⟩ (by omega) (by decide) (fh_recv hK hP ((mkR_g (by omega) (by omega) (by omega)).trans mkG_sh) rfl) hP hS hl.1 rfl (by exact Nat.le_of_ble_eq_true rfl) (fh_d d_Ty_setLine 43 rfl) ⟨Nat.le_refl _, Nat.le_refl _⟩ (fun v9 h9 n9 H locs hq hP hS => ?_)
        obtain ⟨rfl, q7a, q7b⟩ := hq
        rw [q7a, q7b] at hP
        refine W.eq (g2 := F0 m 86 ls []) rfl ?_
        refine lv_aload_n hx hb (fh_d d_Ty_setLine 44 rfl) rfl (lv_at hl 5 rfl) ?_
        refine lv_iload hx hb (fh_d d_Ty_setLine 45 rfl) (lv_at hl 0 rfl) ?_
        refine lv_aload hx hb (fh_d d_Ty_setLine 46 rfl) (lv_at hl 3 rfl) ?_
        refine fh_get (own := "FormulaSetter$Typesetter") (ref := "FormulaSetter$Nucleus") (C := "FormulaSetter$Nucleus") (T := T_Nu) (N := 15) (v := .int ((C_5 i) 0)) hx hb hT i_Nu hown hK hP (mkR_nu (hi)) rfl 0 (by decide) (hT _ w87) (fun x9 h9 => u_same (hT _ w88) x9 h9) (rfl) (fh_d d_Ty_setLine 47 rfl) ?_
        refine lv_iadd hx hb (fh_d d_Ty_setLine 48 rfl) ?_
        refine lv_aload_n hx hb (fh_d d_Ty_setLine 49 rfl) rfl (lv_at hl 5 rfl) ?_
        refine fh_get (own := "FormulaSetter$Typesetter") (ref := "FormulaSetter$Line") (C := "FormulaSetter$Line") (T := T_Li) (N := 9) (v := .int ((CL_5 j) 1)) hx hb hT i_Li hown hK hP (mkR_li (hj)) rfl 1 (by decide) (hT _ w93) (fun x9 h9 => u_same (hT _ w92) x9 h9) (rfl) (fh_d d_Ty_setLine 50 rfl) ?_
        refine lv_aload hx hb (fh_d d_Ty_setLine 51 rfl) (lv_at hl 3 rfl) ?_
        refine fh_get (own := "FormulaSetter$Typesetter") (ref := "FormulaSetter$Nucleus") (C := "FormulaSetter$Nucleus") (T := T_Nu) (N := 15) (v := .int ((C_5 i) 1)) hx hb hT i_Nu hown hK hP (mkR_nu (hi)) rfl 1 (by decide) (hT _ w94) (fun x9 h9 => u_same (hT _ w95) x9 h9) (rfl) (fh_d d_Ty_setLine 52 rfl) ?_
        refine va_mmax hx hb (hml.trans hl.1.symm) hown (hT _ w704) (hT _ w431) (hT _ w14) (hT _ w432) (by show 1 ≤ r; omega) (by show _ ≤ 60 * r; simp [Value.category]; omega) (Nat.le_refl _) (Nat.le_refl _) (fh_d d_Ty_setLine 53 rfl) ?_
        refine lv_aload_n hx hb (fh_d d_Ty_setLine 54 rfl) rfl (lv_at hl 5 rfl) ?_
        refine fh_get (own := "FormulaSetter$Typesetter") (ref := "FormulaSetter$Line") (C := "FormulaSetter$Line") (T := T_Li) (N := 9) (v := .int ((CL_5 j) 2)) hx hb hT i_Li hown hK hP (mkR_li (hj)) rfl 2 (by decide) (hT _ w100) (fun x9 h9 => u_same (hT _ w99) x9 h9) (rfl) (fh_d d_Ty_setLine 55 rfl) ?_
        refine lv_aload hx hb (fh_d d_Ty_setLine 56 rfl) (lv_at hl 3 rfl) ?_
        refine fh_get (own := "FormulaSetter$Typesetter") (ref := "FormulaSetter$Nucleus") (C := "FormulaSetter$Nucleus") (T := T_Nu) (N := 15) (v := .int ((C_5 i) 2)) hx hb hT i_Nu hown hK hP (mkR_nu (hi)) rfl 2 (by decide) (hT _ w101) (fun x9 h9 => u_same (hT _ w102) x9 h9) (rfl) (fh_d d_Ty_setLine 57 rfl) ?_
        refine va_mmax hx hb (hml.trans hl.1.symm) hown (hT _ w704) (hT _ w431) (hT _ w14) (hT _ w432) (by show 1 ≤ r; omega) (by show _ ≤ 60 * r; simp [Value.category]; omega) (Nat.le_refl _) (Nat.le_refl _) (fh_d d_Ty_setLine 58 rfl) ?_
        refine fh_callU (cc' := c_Bo_measure) (nL' := 4) (rest := []) (a := x + 65 + j) (As := [.int ((((CL_5 j) 0) + 0) + ((C_5 i) 0)), .int (if ((CL_5 j) 1) < ((C_5 i) 1) then ((C_5 i) 1) else ((CL_5 j) 1)), .int (if ((CL_5 j) 2) < ((C_5 i) 2) then ((C_5 i) 2) else ((CL_5 j) 2))]) (Ck := "FormulaSetter$Line") (owner := "FormulaSetter$Box") (x' := ⟨"FormulaSetter$Line", "measure", "(III)V"⟩) X hR (m_Bo_measureLi l D ct b RO (r - 1) n x kA aA g (nI c_5) (mvF F_5 (ixI (C_5 i 3)) (ixI (C_5 i 4)) (((CL_5 j) 0) + 0) 0) W_5 H_5 D_5 ro_5 co_5 nc lc tx len at_ C_5 R CL_5 RL j (hj) ((((CL_5 j) 0) + 0) + ((C_5 i) 0)) (if ((CL_5 j) 1) < ((C_5 i) 1) then ((C_5 i) 1) else ((CL_5 j) 1)) (if ((CL_5 j) 2) < ((C_5 i) 2) then ((C_5 i) 2) else ((CL_5 j) 2))) w655 w650 w651 rfl w654 w653 w3 ⟨by decide, by decide, by show _ = some 3; decide +kernel⟩ (by omega) (by decide) (fh_recv hK hP (mkR_li (hj)) rfl) hP hS hl.1 rfl (by exact Nat.le_of_ble_eq_true rfl) (fh_d d_Ty_setLine 59 rfl) ⟨Nat.le_refl _, Nat.le_refl _⟩ (fun v9 h9 n9 H locs hq hP hS => ?_)
        obtain ⟨rfl, q8a, q8b⟩ := hq
        rw [q8a, q8b] at hP
        refine W.eq (g2 := F0 m 122 ls []) rfl ?_
        have f9 : (sT (sT (sT CL_5 j 0 ((((CL_5 j) 0) + 0) + ((C_5 i) 0))) j 1 (if ((CL_5 j) 1) < ((C_5 i) 1) then ((C_5 i) 1) else ((CL_5 j) 1))) j 2 (if ((CL_5 j) 2) < ((C_5 i) 2) then ((C_5 i) 2) else ((CL_5 j) 2))) j 0 = (((CL_5 j) 0) + 0) + ((C_5 i) 0) := (sT_ne (by omega)).trans ((sT_ne (by omega)).trans sT_same)
        have f10 : (sT (sT (sT CL_5 j 0 ((((CL_5 j) 0) + 0) + ((C_5 i) 0))) j 1 (if ((CL_5 j) 1) < ((C_5 i) 1) then ((C_5 i) 1) else ((CL_5 j) 1))) j 2 (if ((CL_5 j) 2) < ((C_5 i) 2) then ((C_5 i) 2) else ((CL_5 j) 2))) j 1 = if ((CL_5 j) 1) < ((C_5 i) 1) then ((C_5 i) 1) else ((CL_5 j) 1) := (sT_ne (by omega)).trans sT_same
        have f11 : (sT (sT (sT CL_5 j 0 ((((CL_5 j) 0) + 0) + ((C_5 i) 0))) j 1 (if ((CL_5 j) 1) < ((C_5 i) 1) then ((C_5 i) 1) else ((CL_5 j) 1))) j 2 (if ((CL_5 j) 2) < ((C_5 i) 2) then ((C_5 i) 2) else ((CL_5 j) 2))) j 2 = if ((CL_5 j) 2) < ((C_5 i) 2) then ((C_5 i) 2) else ((CL_5 j) 2) := sT_same
        have y12 : okB C_5 (sT (sT (sT CL_5 j 0 ((((CL_5 j) 0) + 0) + ((C_5 i) 0))) j 1 (if ((CL_5 j) 1) < ((C_5 i) 1) then ((C_5 i) 1) else ((CL_5 j) 1))) j 2 (if ((CL_5 j) 2) < ((C_5 i) 2) then ((C_5 i) 2) else ((CL_5 j) 2))) := okB_mL ob_5 j ((((CL_5 j) 0) + 0) + ((C_5 i) 0)) (if ((CL_5 j) 1) < ((C_5 i) 1) then ((C_5 i) 1) else ((CL_5 j) 1)) (if ((CL_5 j) 2) < ((C_5 i) 2) then ((C_5 i) 2) else ((CL_5 j) 2))
        refine lv_aload hx hb (fh_d d_Ty_setLine 60 rfl) (lv_at hl 3 rfl) ?_
        refine lv_astore (lv' := [(4, .ref (x + 4 + i)), (7, .int (((CL_5 j) 0) + 0)), (6, .int 0), (5, .ref (x + 4 + i)), (0, .ref (x + 226)), (1, .ref (x + 65 + j)), (2, .ref (yA si)), (3, .int (nI cr))]) hx hb (fh_d d_Ty_setLine 61 rfl) hl (by decide) rfl (fun ls hl => ?_)
        refine lv_aload hx hb (fh_d d_Ty_setLine 62 rfl) (lv_at hl 3 rfl) ?_
        refine fh_get (own := "FormulaSetter$Typesetter") (ref := "FormulaSetter$Nucleus") (C := "FormulaSetter$Nucleus") (T := T_Nu) (N := 15) (v := va_rf ((t.head?).map (fun z => x + 4 + z))) hx hb hT i_Nu hown hK hP (mkR_nu (hi)) rfl 14 (by decide) (hT _ w82) (fun _ h9 => h9) (by show some (va_rf ((R i 14).map (fun z => x + 4 + z))) = _; rw [hnt.1]) (fh_d d_Ty_setLine 63 rfl) ?_
        refine fq_astore (lv' := [(5, va_rf ((t.head?).map (fun z => x + 4 + z))), (4, .ref (x + 4 + i)), (7, .int (((CL_5 j) 0) + 0)), (6, .int 0), (0, .ref (x + 226)), (1, .ref (x + 65 + j)), (2, .ref (yA si)), (3, .int (nI cr))]) hx hb (fh_d d_Ty_setLine 64 rfl) hl (by decide) rfl (fun ls hl => ?_)
        refine lv_goto (tgt := 27) hx hb (fh_d d_Ty_setLine 65 rfl) rfl ?_
        refine ih (some i) _ _ _ _ _ _ _ _ _ ⟨hc_5, y12⟩ hnt.2 (fun q hq => hot q (List.mem_cons_of_mem _ hq)) (fun q hq => by cases hq; exact ⟨hi, a9, ha9, h6⟩) ?_ H locs ls hP hS (lv_sub hl [1, 0, 4, 5, 6, 7] rfl)
        rw [← hfo]
        show sIts R N1 j si cr (some i) t _ = sIts R N1 j si cr (some i) t (sIt R N1 j si cr (c9, F9, W9, H9, D9, ro9, co9, C9, CL9) none i)
        congr 1
        unfold sIt
        rw [← e_5]
        dsimp only [Option.elim]
        rfl
      · obtain ⟨hq9, p9, hp9, h6q⟩ := hbf q9 rfl
        have hl : lv_has ls 8 [(4, .ref (x + 4 + q9)), (5, .ref (x + 4 + i)), (0, .ref (x + 226)), (1, .ref (x + 65 + j)), (2, .ref (yA si)), (3, .int (nI cr))] := hl
        refine lv_aload hx hb (fh_d d_Ty_setLine 15 rfl) (lv_at hl 1 rfl) ?_
        refine lv_ifnull hx hb (fh_d d_Ty_setLine 16 rfl) ?_
        refine lv_aload_n hx hb (fh_d d_Ty_setLine 17 rfl) rfl (lv_at hl 2 rfl) ?_
        refine lv_aload hx hb (fh_d d_Ty_setLine 18 rfl) (lv_at hl 1 rfl) ?_
        refine lv_aload_n hx hb (fh_d d_Ty_setLine 19 rfl) rfl (lv_at hl 4 rfl) ?_
        refine lv_iload_n hx hb (fh_d d_Ty_setLine 20 rfl) rfl (lv_at hl 5 rfl) ?_
        refine fh_callV (cc' := c_Ty_setItem) (nL' := 4) (rest := []) (a := x + 226) (As := [.ref (x + 4 + i), .ref (yA si), .int (nI cr)]) X hR (m_Ty_setItem l D ct b RO hR sA sV hSt kA aA yA tK tS tM hEn hAd n x g c9 o9.1 F9 W9 H9 D9 ro9 co9 nc lc tx len at_ C9 R CL9 RL o9.2 N1 okN r0 hN1 hB1 (r - 1) (by omega) (by omega) i si cr hi hsi hcr k9 hk9 h5 hoi hu12 hu13) w659 w656 w658 v18 w6 ⟨by decide, by decide, by show _ = some 3; decide +kernel⟩ (by omega) (by decide) (fh_recv hK hP ((mkR_g (by omega) (by omega) (by omega)).trans mkG_ts) rfl) hP hS hl.1 rfl (by exact Nat.le_of_ble_eq_true rfl) (fh_d d_Ty_setLine 21 rfl) ⟨Nat.le_refl _, Nat.le_refl _⟩ (fun v9 h9 n9 H locs hq hP hS => ?_)
        obtain ⟨⟨c_14, F_14, W_14, H_14, D_14, ro_14, co_14, C_14, CL_14⟩, e_14⟩ : ∃ z, z = sItem R N1 (c9, F9, W9, H9, D9, ro9, co9, C9, CL9) i si cr := ⟨_, rfl⟩
        obtain ⟨rfl, q_14a, q_14b⟩ := hq
        rw [← e_14] at q_14a
        rw [q_14a, q_14b] at hP
        have o_14 : okT (c_14, F_14, W_14, H_14, D_14, ro_14, co_14, C_14, CL_14) := by rw [e_14]; exact sItem_ok hB1 ⟨o9.1, o9.2⟩ hi hoi hu12 hu13 si cr
        have hc_14 : c_14 ≤ 120 := o_14.1
        have ob_14 : okB C_14 CL_14 := o_14.2
        replace hP : fh_P D fh_cl b (mkR x kA aA (mkG ct x g (nI c_14) F_14 W_14 H_14 D_14 ro_14 co_14) nc lc tx len at_ C_14 R CL_14 RL) n H := hP
        refine W.eq (g2 := F0 m 40 ls []) rfl ?_
        refine lv_aload hx hb (fh_d d_Ty_setLine 22 rfl) (lv_at hl 0 rfl) ?_
        refine lv_ifnonnull (tgt := 49) hx hb (fh_d d_Ty_setLine 23 rfl) rfl ?_
        refine lv_aload_n hx hb (fh_d d_Ty_setLine 26 rfl) rfl (lv_at hl 4 rfl) ?_
        refine lv_aload hx hb (fh_d d_Ty_setLine 27 rfl) (lv_at hl 0 rfl) ?_
        refine fh_get (own := "FormulaSetter$Typesetter") (ref := "FormulaSetter$Nucleus") (C := "FormulaSetter$Nucleus") (T := T_Nu) (N := 15) (v := .ref (aA p9)) hx hb hT i_Nu hown hK hP (mkR_nu (hq9)) rfl 6 (by decide) (hT _ w56) (fun _ h9 => h9) (by show some (va_rf ((R q9 6).map aA)) = _; rw [h6q]; rfl) (fh_d d_Ty_setLine 28 rfl) ?_
        refine lv_aload hx hb (fh_d d_Ty_setLine 29 rfl) (lv_at hl 1 rfl) ?_
        refine fh_get (own := "FormulaSetter$Typesetter") (ref := "FormulaSetter$Nucleus") (C := "FormulaSetter$Nucleus") (T := T_Nu) (N := 15) (v := .ref (aA a9)) hx hb hT i_Nu hown hK hP (mkR_nu (hi)) rfl 6 (by decide) (hT _ w56) (fun _ h9 => h9) (by show some (va_rf ((R i 6).map aA)) = _; rw [h6]; rfl) (fh_d d_Ty_setLine 30 rfl) ?_
        refine fh_callV (cc' := c_Sy_spaceBetween) (nL' := 4) (rest := []) (a := yA si) (As := [.ref (aA p9), .ref (aA a9)]) X hR (m_Sy_spaceBetween l D ct b RO hR sA sV hSt kA aA yA tK tS tM hEn hAd (r - 1) n si hsi (by omega) p9 a9 hp9 ha9 (mkR x kA aA (mkG ct x g (nI c_14) F_14 W_14 H_14 D_14 ro_14 co_14) nc lc tx len at_ C_14 R CL_14 RL)) w828 w825 w826 w827 w24 ⟨by decide, by decide, by show _ = some 2; decide +kernel⟩ (by omega) (by decide) (fs_recv ((hEn _ hRO).2.2.1 si hsi).2.1 hS) hP hS hl.1 rfl (by exact Nat.le_of_ble_eq_true rfl) (fh_d d_Ty_setLine 31 rfl) ⟨Nat.le_refl _, Nat.le_refl _⟩ (fun v9 h9 n9 H locs hq hP hS => ?_)
        obtain ⟨rfl, q16a, q16b⟩ := hq
        rw [q16a, q16b] at hP
        refine W.eq (g2 := F0 m 63 ls [.int (spB si p9 a9)]) rfl ?_
        refine lv_istore (lv' := [(6, .int (spB si p9 a9)), (4, .ref (x + 4 + q9)), (5, .ref (x + 4 + i)), (0, .ref (x + 226)), (1, .ref (x + 65 + j)), (2, .ref (yA si)), (3, .int (nI cr))]) hx hb (fh_d d_Ty_setLine 32 rfl) hl (by decide) rfl (fun ls hl => ?_)
        refine lv_aload_n hx hb (fh_d d_Ty_setLine 33 rfl) rfl (lv_at hl 4 rfl) ?_
        refine fh_get (own := "FormulaSetter$Typesetter") (ref := "FormulaSetter$Line") (C := "FormulaSetter$Line") (T := T_Li) (N := 9) (v := .int ((CL_14 j) 0)) hx hb hT i_Li hown hK hP (mkR_li (hj)) rfl 0 (by decide) (hT _ w86) (fun x9 h9 => u_same (hT _ w85) x9 h9) (rfl) (fh_d d_Ty_setLine 34 rfl) ?_
        refine lv_iload hx hb (fh_d d_Ty_setLine 35 rfl) (lv_at hl 0 rfl) ?_
        refine lv_iadd hx hb (fh_d d_Ty_setLine 36 rfl) ?_
        refine lv_istore (lv' := [(7, .int (((CL_14 j) 0) + (spB si p9 a9))), (6, .int (spB si p9 a9)), (4, .ref (x + 4 + q9)), (5, .ref (x + 4 + i)), (0, .ref (x + 226)), (1, .ref (x + 65 + j)), (2, .ref (yA si)), (3, .int (nI cr))]) hx hb (fh_d d_Ty_setLine 37 rfl) hl (by decide) rfl (fun ls hl => ?_)
        refine lv_aload_n hx hb (fh_d d_Ty_setLine 38 rfl) rfl (lv_at hl 4 rfl) ?_
        refine fh_get (own := "FormulaSetter$Typesetter") (ref := "FormulaSetter$Typesetter") (C := "FormulaSetter$Typesetter") (T := T_Ty) (N := 2) (v := .ref (x + 227)) hx hb hT i_Ty hown hK hP ((mkR_g (by omega) (by omega) (by omega)).trans mkG_ts) rfl 0 (by decide) (hT _ w247) (fun _ h9 => h9) rfl (fh_d d_Ty_setLine 39 rfl) ?_
        refine lv_aload hx hb (fh_d d_Ty_setLine 40 rfl) (lv_at hl 3 rfl) ?_
        refine lv_iload hx hb (fh_d d_Ty_setLine 41 rfl) (lv_at hl 0 rfl) ?_
        refine lv_iconst (v := 0) hx hb (fh_d d_Ty_setLine 42 rfl) (by decide) ?_
        refine fh_callV (cc' := c_Sh_move) (nL' := 5) (rest := []) (a := x + 227) (As := [.ref (x + 4 + i), .int (((CL_14 j) 0) + (spB si p9 a9)), .int 0]) X hR (m_Sh_mvNu l D ct b RO (r - 1) (by omega) n x kA aA g (nI c_14) F_14 W_14 H_14 D_14 ro_14 co_14 nc lc tx len at_ C_14 R CL_14 RL i (hi) (ob_14.1 i (hi)).1 (ob_14.1 i (hi)).2 (((CL_14 j) 0) + (spB si p9 a9)) 0) w723 w720 w721 w722 w7 ⟨by decide, by decide, by show _ = some 3; decide +kernel⟩ (by omega) (by decide) (fh_recv hK hP ((mkR_g (by omega) (by omega) (by omega)).trans mkG_sh) rfl) hP hS hl.1 rfl (by exact Nat.le_of_ble_eq_true rfl) (fh_d d_Ty_setLine 43 rfl) ⟨Nat.le_refl _, Nat.le_refl _⟩ (fun v9 h9 n9 H locs hq hP hS => ?_)
        obtain ⟨rfl, q17a, q17b⟩ := hq
        rw [q17a, q17b] at hP
        refine W.eq (g2 := F0 m 86 ls []) rfl ?_
        refine lv_aload_n hx hb (fh_d d_Ty_setLine 44 rfl) rfl (lv_at hl 5 rfl) ?_
        refine lv_iload hx hb (fh_d d_Ty_setLine 45 rfl) (lv_at hl 0 rfl) ?_
        refine lv_aload hx hb (fh_d d_Ty_setLine 46 rfl) (lv_at hl 3 rfl) ?_
        refine fh_get (own := "FormulaSetter$Typesetter") (ref := "FormulaSetter$Nucleus") (C := "FormulaSetter$Nucleus") (T := T_Nu) (N := 15) (v := .int ((C_14 i) 0)) hx hb hT i_Nu hown hK hP (mkR_nu (hi)) rfl 0 (by decide) (hT _ w87) (fun x9 h9 => u_same (hT _ w88) x9 h9) (rfl) (fh_d d_Ty_setLine 47 rfl) ?_
        refine lv_iadd hx hb (fh_d d_Ty_setLine 48 rfl) ?_
        refine lv_aload_n hx hb (fh_d d_Ty_setLine 49 rfl) rfl (lv_at hl 5 rfl) ?_
        refine fh_get (own := "FormulaSetter$Typesetter") (ref := "FormulaSetter$Line") (C := "FormulaSetter$Line") (T := T_Li) (N := 9) (v := .int ((CL_14 j) 1)) hx hb hT i_Li hown hK hP (mkR_li (hj)) rfl 1 (by decide) (hT _ w93) (fun x9 h9 => u_same (hT _ w92) x9 h9) (rfl) (fh_d d_Ty_setLine 50 rfl) ?_
        refine lv_aload hx hb (fh_d d_Ty_setLine 51 rfl) (lv_at hl 3 rfl) ?_
        refine fh_get (own := "FormulaSetter$Typesetter") (ref := "FormulaSetter$Nucleus") (C := "FormulaSetter$Nucleus") (T := T_Nu) (N := 15) (v := .int ((C_14 i) 1)) hx hb hT i_Nu hown hK hP (mkR_nu (hi)) rfl 1 (by decide) (hT _ w94) (fun x9 h9 => u_same (hT _ w95) x9 h9) (rfl) (fh_d d_Ty_setLine 52 rfl) ?_
        refine va_mmax hx hb (hml.trans hl.1.symm) hown (hT _ w704) (hT _ w431) (hT _ w14) (hT _ w432) (by show 1 ≤ r; omega) (by show _ ≤ 60 * r; simp [Value.category]; omega) (Nat.le_refl _) (Nat.le_refl _) (fh_d d_Ty_setLine 53 rfl) ?_
        refine lv_aload_n hx hb (fh_d d_Ty_setLine 54 rfl) rfl (lv_at hl 5 rfl) ?_
        refine fh_get (own := "FormulaSetter$Typesetter") (ref := "FormulaSetter$Line") (C := "FormulaSetter$Line") (T := T_Li) (N := 9) (v := .int ((CL_14 j) 2)) hx hb hT i_Li hown hK hP (mkR_li (hj)) rfl 2 (by decide) (hT _ w100) (fun x9 h9 => u_same (hT _ w99) x9 h9) (rfl) (fh_d d_Ty_setLine 55 rfl) ?_
        refine lv_aload hx hb (fh_d d_Ty_setLine 56 rfl) (lv_at hl 3 rfl) ?_
        refine fh_get (own := "FormulaSetter$Typesetter") (ref := "FormulaSetter$Nucleus") (C := "FormulaSetter$Nucleus") (T := T_Nu) (N := 15) (v := .int ((C_14 i) 2)) hx hb hT i_Nu hown hK hP (mkR_nu (hi)) rfl 2 (by decide) (hT _ w101) (fun x9 h9 => u_same (hT _ w102) x9 h9) (rfl) (fh_d d_Ty_setLine 57 rfl) ?_
        refine va_mmax hx hb (hml.trans hl.1.symm) hown (hT _ w704) (hT _ w431) (hT _ w14) (hT _ w432) (by show 1 ≤ r; omega) (by show _ ≤ 60 * r; simp [Value.category]; omega) (Nat.le_refl _) (Nat.le_refl _) (fh_d d_Ty_setLine 58 rfl) ?_
        refine fh_callU (cc' := c_Bo_measure) (nL' := 4) (rest := []) (a := x + 65 + j) (As := [.int ((((CL_14 j) 0) + (spB si p9 a9)) + ((C_14 i) 0)), .int (if ((CL_14 j) 1) < ((C_14 i) 1) then ((C_14 i) 1) else ((CL_14 j) 1)), .int (if ((CL_14 j) 2) < ((C_14 i) 2) then ((C_14 i) 2) else ((CL_14 j) 2))]) (Ck := "FormulaSetter$Line") (owner := "FormulaSetter$Box") (x' := ⟨"FormulaSetter$Line", "measure", "(III)V"⟩) X hR (m_Bo_measureLi l D ct b RO (r - 1) n x kA aA g (nI c_14) (mvF F_14 (ixI (C_14 i 3)) (ixI (C_14 i 4)) (((CL_14 j) 0) + (spB si p9 a9)) 0) W_14 H_14 D_14 ro_14 co_14 nc lc tx len at_ C_14 R CL_14 RL j (hj) ((((CL_14 j) 0) + (spB si p9 a9)) + ((C_14 i) 0)) (if ((CL_14 j) 1) < ((C_14 i) 1) then ((C_14 i) 1) else ((CL_14 j) 1)) (if ((CL_14 j) 2) < ((C_14 i) 2) then ((C_14 i) 2) else ((CL_14 j) 2))) w655 w650 w651 rfl w654 w653 w3 ⟨by decide, by decide, by show _ = some 3; decide +kernel⟩ (by omega) (by decide) (fh_recv hK hP (mkR_li (hj)) rfl) hP hS hl.1 rfl (by exact Nat.le_of_ble_eq_true rfl) (fh_d d_Ty_setLine 59 rfl) ⟨Nat.le_refl _, Nat.le_refl _⟩ (fun v9 h9 n9 H locs hq hP hS => ?_)
        obtain ⟨rfl, q18a, q18b⟩ := hq
        rw [q18a, q18b] at hP
        refine W.eq (g2 := F0 m 122 ls []) rfl ?_
        have f19 : (sT (sT (sT CL_14 j 0 ((((CL_14 j) 0) + (spB si p9 a9)) + ((C_14 i) 0))) j 1 (if ((CL_14 j) 1) < ((C_14 i) 1) then ((C_14 i) 1) else ((CL_14 j) 1))) j 2 (if ((CL_14 j) 2) < ((C_14 i) 2) then ((C_14 i) 2) else ((CL_14 j) 2))) j 0 = (((CL_14 j) 0) + (spB si p9 a9)) + ((C_14 i) 0) := (sT_ne (by omega)).trans ((sT_ne (by omega)).trans sT_same)
        have f20 : (sT (sT (sT CL_14 j 0 ((((CL_14 j) 0) + (spB si p9 a9)) + ((C_14 i) 0))) j 1 (if ((CL_14 j) 1) < ((C_14 i) 1) then ((C_14 i) 1) else ((CL_14 j) 1))) j 2 (if ((CL_14 j) 2) < ((C_14 i) 2) then ((C_14 i) 2) else ((CL_14 j) 2))) j 1 = if ((CL_14 j) 1) < ((C_14 i) 1) then ((C_14 i) 1) else ((CL_14 j) 1) := (sT_ne (by omega)).trans sT_same
        have f21 : (sT (sT (sT CL_14 j 0 ((((CL_14 j) 0) + (spB si p9 a9)) + ((C_14 i) 0))) j 1 (if ((CL_14 j) 1) < ((C_14 i) 1) then ((C_14 i) 1) else ((CL_14 j) 1))) j 2 (if ((CL_14 j) 2) < ((C_14 i) 2) then ((C_14 i) 2) else ((CL_14 j) 2))) j 2 = if ((CL_14 j) 2) < ((C_14 i) 2) then ((C_14 i) 2) else ((CL_14 j) 2) := sT_same
        have y22 : okB C_14 (sT (sT (sT CL_14 j 0 ((((CL_14 j) 0) + (spB si p9 a9)) + ((C_14 i) 0))) j 1 (if ((CL_14 j) 1) < ((C_14 i) 1) then ((C_14 i) 1) else ((CL_14 j) 1))) j 2 (if ((CL_14 j) 2) < ((C_14 i) 2) then ((C_14 i) 2) else ((CL_14 j) 2))) := okB_mL ob_14 j ((((CL_14 j) 0) + (spB si p9 a9)) + ((C_14 i) 0)) (if ((CL_14 j) 1) < ((C_14 i) 1) then ((C_14 i) 1) else ((CL_14 j) 1)) (if ((CL_14 j) 2) < ((C_14 i) 2) then ((C_14 i) 2) else ((CL_14 j) 2))
        refine lv_aload hx hb (fh_d d_Ty_setLine 60 rfl) (lv_at hl 3 rfl) ?_
        refine lv_astore (lv' := [(4, .ref (x + 4 + i)), (7, .int (((CL_14 j) 0) + (spB si p9 a9))), (6, .int (spB si p9 a9)), (5, .ref (x + 4 + i)), (0, .ref (x + 226)), (1, .ref (x + 65 + j)), (2, .ref (yA si)), (3, .int (nI cr))]) hx hb (fh_d d_Ty_setLine 61 rfl) hl (by decide) rfl (fun ls hl => ?_)
        refine lv_aload hx hb (fh_d d_Ty_setLine 62 rfl) (lv_at hl 3 rfl) ?_
        refine fh_get (own := "FormulaSetter$Typesetter") (ref := "FormulaSetter$Nucleus") (C := "FormulaSetter$Nucleus") (T := T_Nu) (N := 15) (v := va_rf ((t.head?).map (fun z => x + 4 + z))) hx hb hT i_Nu hown hK hP (mkR_nu (hi)) rfl 14 (by decide) (hT _ w82) (fun _ h9 => h9) (by show some (va_rf ((R i 14).map (fun z => x + 4 + z))) = _; rw [hnt.1]) (fh_d d_Ty_setLine 63 rfl) ?_
        refine fq_astore (lv' := [(5, va_rf ((t.head?).map (fun z => x + 4 + z))), (4, .ref (x + 4 + i)), (7, .int (((CL_14 j) 0) + (spB si p9 a9))), (6, .int (spB si p9 a9)), (0, .ref (x + 226)), (1, .ref (x + 65 + j)), (2, .ref (yA si)), (3, .int (nI cr))]) hx hb (fh_d d_Ty_setLine 64 rfl) hl (by decide) rfl (fun ls hl => ?_)
        refine lv_goto (tgt := 27) hx hb (fh_d d_Ty_setLine 65 rfl) rfl ?_
        refine ih (some i) _ _ _ _ _ _ _ _ _ ⟨hc_14, y22⟩ hnt.2 (fun q hq => hot q (List.mem_cons_of_mem _ hq)) (fun q hq => by cases hq; exact ⟨hi, a9, ha9, h6⟩) ?_ H locs ls hP hS (lv_sub hl [1, 0, 4, 5, 6, 7] rfl)
        rw [← hfo]
        show sIts R N1 j si cr (some i) t _ = sIts R N1 j si cr (some i) t (sIt R N1 j si cr (c9, F9, W9, H9, D9, ro9, co9, C9, CL9) (some q9) i)
        congr 1
        unfold sIt
        rw [← e_14]
        dsimp only [Option.elim]
        rw [h6, h6q]
        rfl
  obtain ⟨o5, h50⟩ : ∃ z, RL j 5 = z := ⟨_, rfl⟩
  rcases o5 with _ | i0
  · have hih := hfi.symm.trans h50
    refine lv_aload_n hx hb (fh_d d_Ty_setLine 0 rfl) rfl (lv_at hl 1 rfl) ?_
    refine lv_aload_n hx hb (fh_d d_Ty_setLine 1 rfl) rfl (lv_at hl 0 rfl) ?_
    refine fh_get (own := "FormulaSetter$Typesetter") (ref := "FormulaSetter$Typesetter") (C := "FormulaSetter$Typesetter") (T := T_Ty) (N := 2) (v := .ref (x + 227)) hx hb hT i_Ty hown hK hP ((mkR_g (by omega) (by omega) (by omega)).trans mkG_ts) rfl 0 (by decide) (hT _ w247) (fun _ h9 => h9) rfl (fh_d d_Ty_setLine 2 rfl) ?_
    refine fh_get (own := "FormulaSetter$Typesetter") (ref := "FormulaSetter$Sheet") (C := "FormulaSetter$Sheet") (T := T_Sh) (N := 2) (v := .int (nI c0)) hx hb hT i_Sh hown hK hP ((mkR_g (by omega) (by omega) (by omega)).trans mkG_sh) rfl 1 (by decide) (hT _ w217) (fun _ h9 => h9) rfl (fh_d d_Ty_setLine 3 rfl) ?_
    refine fh_put (own := "FormulaSetter$Typesetter") (ref := "FormulaSetter$Line") (C := "FormulaSetter$Line") (T := T_Li) (N := 9) (v := .int (nI c0)) (ty := .int) hx hb hT i_Li t_Li k_Li n_Li hown hK hP hS (mkR_li (hj)) rfl 3 (by decide) (hT _ w104) (fun x9 h9 => u_same (hT _ w105) x9 h9) rfl (by decide +kernel) rfl rfl (Nat.le_of_ble_eq_true rfl) (fh_d d_Ty_setLine 4 rfl) (fun H locs hP hS => ?_)
    replace hP := fh_P.eq (h' := mkR x kA aA (mkG ct x g (nI c0) F W0 H0 D0 rows cols) nc lc tx len at_ C R (sT CL j 3 (nI c0)) RL) hP (mkR_li3 (v := nI c0) (hj))
    have f23 : (sT CL j 3 (nI c0)) j 3 = nI c0 := sT_same
    have y24 : okB C (sT CL j 3 (nI c0)) := okB_L hokB j 3 (nI c0) (fun _ => okv_n hc0) (by omega)
    refine lv_aload_n hx hb (fh_d d_Ty_setLine 5 rfl) rfl (lv_at hl 1 rfl) ?_
    refine lv_iconst (v := 0) hx hb (fh_d d_Ty_setLine 6 rfl) (by decide) ?_
    refine lv_iconst (v := 0) hx hb (fh_d d_Ty_setLine 7 rfl) (by decide) ?_
    refine lv_iconst (v := 0) hx hb (fh_d d_Ty_setLine 8 rfl) (by decide) ?_
    refine fh_callU (cc' := c_Bo_measure) (nL' := 4) (rest := []) (a := x + 65 + j) (As := [.int 0, .int 0, .int 0]) (Ck := "FormulaSetter$Line") (owner := "FormulaSetter$Box") (x' := ⟨"FormulaSetter$Line", "measure", "(III)V"⟩) X hR (m_Bo_measureLi l D ct b RO (r - 1) n x kA aA g (nI c0) F W0 H0 D0 rows cols nc lc tx len at_ C R (sT CL j 3 (nI c0)) RL j (hj) 0 0 0) w655 w650 w651 rfl w654 w653 w3 ⟨by decide, by decide, by show _ = some 3; decide +kernel⟩ (by omega) (by decide) (fh_recv hK hP (mkR_li (hj)) rfl) hP hS hl.1 rfl (by exact Nat.le_of_ble_eq_true rfl) (fh_d d_Ty_setLine 9 rfl) ⟨Nat.le_refl _, Nat.le_refl _⟩ (fun v9 h9 n9 H locs hq hP hS => ?_)
    obtain ⟨rfl, q25a, q25b⟩ := hq
    rw [q25a, q25b] at hP
    refine W.eq (g2 := F0 m 18 ls []) rfl ?_
    have f26 : (sT (sT (sT (sT CL j 3 (nI c0)) j 0 0) j 1 0) j 2 0) j 3 = nI c0 := (sT_ne (by omega)).trans ((sT_ne (by omega)).trans ((sT_ne (by omega)).trans f23))
    have f27 : (sT (sT (sT (sT CL j 3 (nI c0)) j 0 0) j 1 0) j 2 0) j 0 = 0 := (sT_ne (by omega)).trans ((sT_ne (by omega)).trans sT_same)
    have f28 : (sT (sT (sT (sT CL j 3 (nI c0)) j 0 0) j 1 0) j 2 0) j 1 = 0 := (sT_ne (by omega)).trans sT_same
    have f29 : (sT (sT (sT (sT CL j 3 (nI c0)) j 0 0) j 1 0) j 2 0) j 2 = 0 := sT_same
    have y30 : okB C (sT (sT (sT (sT CL j 3 (nI c0)) j 0 0) j 1 0) j 2 0) := okB_mL y24 j 0 0 0
    refine lv_null hx hb (fh_d d_Ty_setLine 10 rfl) ?_
    refine lv_astoreN (lv' := [(4, .null), (0, .ref (x + 226)), (1, .ref (x + 65 + j)), (2, .ref (yA si)), (3, .int (nI cr))]) hx hb (fh_d d_Ty_setLine 11 rfl) hl (by decide) rfl (fun ls hl => ?_)
    refine lv_aload_n hx hb (fh_d d_Ty_setLine 12 rfl) rfl (lv_at hl 2 rfl) ?_
    refine fh_get (own := "FormulaSetter$Typesetter") (ref := "FormulaSetter$Line") (C := "FormulaSetter$Line") (T := T_Li) (N := 9) (v := .null) hx hb hT i_Li hown hK hP (mkR_li (hj)) rfl 5 (by decide) (hT _ w154) (fun _ h9 => h9) (by show some (va_rf ((RL j 5).map (fun z => x + 4 + z))) = _; rw [h50]; rfl) (fh_d d_Ty_setLine 13 rfl) ?_
    refine lv_astoreN (lv' := [(5, .null), (4, .null), (0, .ref (x + 226)), (1, .ref (x + 65 + j)), (2, .ref (yA si)), (3, .int (nI cr))]) hx hb (fh_d d_Ty_setLine 14 rfl) hl (by decide) rfl (fun ls hl => ?_)
    exact loop its none _ _ _ _ _ _ _ _ _ ⟨hc0, y30⟩ hnx hit (fun q hq => by cases hq) rfl H _ _ hP hS (by rw [hih]; exact lv_sub hl [1, 0, 2, 3, 4, 5] rfl)
  · have hih := hfi.symm.trans h50
    refine lv_aload_n hx hb (fh_d d_Ty_setLine 0 rfl) rfl (lv_at hl 1 rfl) ?_
    refine lv_aload_n hx hb (fh_d d_Ty_setLine 1 rfl) rfl (lv_at hl 0 rfl) ?_
    refine fh_get (own := "FormulaSetter$Typesetter") (ref := "FormulaSetter$Typesetter") (C := "FormulaSetter$Typesetter") (T := T_Ty) (N := 2) (v := .ref (x + 227)) hx hb hT i_Ty hown hK hP ((mkR_g (by omega) (by omega) (by omega)).trans mkG_ts) rfl 0 (by decide) (hT _ w247) (fun _ h9 => h9) rfl (fh_d d_Ty_setLine 2 rfl) ?_
    refine fh_get (own := "FormulaSetter$Typesetter") (ref := "FormulaSetter$Sheet") (C := "FormulaSetter$Sheet") (T := T_Sh) (N := 2) (v := .int (nI c0)) hx hb hT i_Sh hown hK hP ((mkR_g (by omega) (by omega) (by omega)).trans mkG_sh) rfl 1 (by decide) (hT _ w217) (fun _ h9 => h9) rfl (fh_d d_Ty_setLine 3 rfl) ?_
    refine fh_put (own := "FormulaSetter$Typesetter") (ref := "FormulaSetter$Line") (C := "FormulaSetter$Line") (T := T_Li) (N := 9) (v := .int (nI c0)) (ty := .int) hx hb hT i_Li t_Li k_Li n_Li hown hK hP hS (mkR_li (hj)) rfl 3 (by decide) (hT _ w104) (fun x9 h9 => u_same (hT _ w105) x9 h9) rfl (by decide +kernel) rfl rfl (Nat.le_of_ble_eq_true rfl) (fh_d d_Ty_setLine 4 rfl) (fun H locs hP hS => ?_)
    replace hP := fh_P.eq (h' := mkR x kA aA (mkG ct x g (nI c0) F W0 H0 D0 rows cols) nc lc tx len at_ C R (sT CL j 3 (nI c0)) RL) hP (mkR_li3 (v := nI c0) (hj))
    have f31 : (sT CL j 3 (nI c0)) j 3 = nI c0 := sT_same
    have y32 : okB C (sT CL j 3 (nI c0)) := okB_L hokB j 3 (nI c0) (fun _ => okv_n hc0) (by omega)
    refine lv_aload_n hx hb (fh_d d_Ty_setLine 5 rfl) rfl (lv_at hl 1 rfl) ?_
    refine lv_iconst (v := 0) hx hb (fh_d d_Ty_setLine 6 rfl) (by decide) ?_
    refine lv_iconst (v := 0) hx hb (fh_d d_Ty_setLine 7 rfl) (by decide) ?_
    refine lv_iconst (v := 0) hx hb (fh_d d_Ty_setLine 8 rfl) (by decide) ?_
    refine fh_callU (cc' := c_Bo_measure) (nL' := 4) (rest := []) (a := x + 65 + j) (As := [.int 0, .int 0, .int 0]) (Ck := "FormulaSetter$Line") (owner := "FormulaSetter$Box") (x' := ⟨"FormulaSetter$Line", "measure", "(III)V"⟩) X hR (m_Bo_measureLi l D ct b RO (r - 1) n x kA aA g (nI c0) F W0 H0 D0 rows cols nc lc tx len at_ C R (sT CL j 3 (nI c0)) RL j (hj) 0 0 0) w655 w650 w651 rfl w654 w653 w3 ⟨by decide, by decide, by show _ = some 3; decide +kernel⟩ (by omega) (by decide) (fh_recv hK hP (mkR_li (hj)) rfl) hP hS hl.1 rfl (by exact Nat.le_of_ble_eq_true rfl) (fh_d d_Ty_setLine 9 rfl) ⟨Nat.le_refl _, Nat.le_refl _⟩ (fun v9 h9 n9 H locs hq hP hS => ?_)
    obtain ⟨rfl, q33a, q33b⟩ := hq
    rw [q33a, q33b] at hP
    refine W.eq (g2 := F0 m 18 ls []) rfl ?_
    have f34 : (sT (sT (sT (sT CL j 3 (nI c0)) j 0 0) j 1 0) j 2 0) j 3 = nI c0 := (sT_ne (by omega)).trans ((sT_ne (by omega)).trans ((sT_ne (by omega)).trans f31))
    have f35 : (sT (sT (sT (sT CL j 3 (nI c0)) j 0 0) j 1 0) j 2 0) j 0 = 0 := (sT_ne (by omega)).trans ((sT_ne (by omega)).trans sT_same)
    have f36 : (sT (sT (sT (sT CL j 3 (nI c0)) j 0 0) j 1 0) j 2 0) j 1 = 0 := (sT_ne (by omega)).trans sT_same
    have f37 : (sT (sT (sT (sT CL j 3 (nI c0)) j 0 0) j 1 0) j 2 0) j 2 = 0 := sT_same
    have y38 : okB C (sT (sT (sT (sT CL j 3 (nI c0)) j 0 0) j 1 0) j 2 0) := okB_mL y32 j 0 0 0
    refine lv_null hx hb (fh_d d_Ty_setLine 10 rfl) ?_
    refine lv_astoreN (lv' := [(4, .null), (0, .ref (x + 226)), (1, .ref (x + 65 + j)), (2, .ref (yA si)), (3, .int (nI cr))]) hx hb (fh_d d_Ty_setLine 11 rfl) hl (by decide) rfl (fun ls hl => ?_)
    refine lv_aload_n hx hb (fh_d d_Ty_setLine 12 rfl) rfl (lv_at hl 2 rfl) ?_
    refine fh_get (own := "FormulaSetter$Typesetter") (ref := "FormulaSetter$Line") (C := "FormulaSetter$Line") (T := T_Li) (N := 9) (v := .ref (x + 4 + i0)) hx hb hT i_Li hown hK hP (mkR_li (hj)) rfl 5 (by decide) (hT _ w154) (fun _ h9 => h9) (by show some (va_rf ((RL j 5).map (fun z => x + 4 + z))) = _; rw [h50]; rfl) (fh_d d_Ty_setLine 13 rfl) ?_
    refine lv_astore (lv' := [(5, .ref (x + 4 + i0)), (4, .null), (0, .ref (x + 226)), (1, .ref (x + 65 + j)), (2, .ref (yA si)), (3, .int (nI cr))]) hx hb (fh_d d_Ty_setLine 14 rfl) hl (by decide) rfl (fun ls hl => ?_)
    exact loop its none _ _ _ _ _ _ _ _ _ ⟨hc0, y38⟩ hnx hit (fun q hq => by cases hq) rfl H _ _ hP hS (by rw [hih]; exact lv_sub hl [1, 0, 2, 3, 4, 5] rfl)
