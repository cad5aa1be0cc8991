/-! Typesetter: setItem, setLine. Printed by wip/whole/gen/p91.py -/
theorem sLim_ok {R : Nat → Nat → Option Nat} {i si : Nat} {t : TS} (h : okT t) : okT (sLim R i si t) := by
  obtain ⟨c, F, W, H, D, ro, co, C, CL⟩ := t
  exact ⟨h.1, okB_m h.2 _ _ _ _⟩
theorem sScr_ok {R : Nat → Nat → Option Nat} {i si cr : Nat} {t : TS} (h : okT t) : okT (sScr R i si cr t) := by
  obtain ⟨c, F, W, H, D, ro, co, C, CL⟩ := t
  exact ⟨h.1, okB_m h.2 _ _ _ _⟩
theorem okT_e {t : TS} (h : okT t) (i : Nat) : okT (t.1, t.2.1, t.2.2.1, t.2.2.2.1, t.2.2.2.2.1, t.2.2.2.2.2.1, t.2.2.2.2.2.2.1, sT t.2.2.2.2.2.2.2.1 i 4 (nI t.1), t.2.2.2.2.2.2.2.2) := ⟨h.1, okB_C h.2 i 4 _ (fun _ => okv_n h.1)⟩
theorem sItem_ok {R : Nat → Nat → Option Nat} {okN : Nat → Prop} {N1 : FN} (hB : bSN 60 okN N1) {t : TS} (h : okT t) {i : Nat} (hi : i < 60) (hoi : okN i) (h12 : ∀ u, R i 12 = some u → u < 60 ∧ okN u) (h13 : ∀ u, R i 13 = some u → u < 60 ∧ okN u) (si cr : Nat) : okT (sItem R N1 t i si cr) := by
  have o1 := hB t i si cr h hi hoi
  unfold sItem
  dsimp only
  split
  · exact o1
  · have o2 : okT ((R i 12).elim (N1 t i si cr) (fun u => N1 (N1 t i si cr) u (ySc si) cr)) := by
      cases g : R i 12 with
      | none => exact o1
      | some u => exact hB _ _ _ _ o1 (h12 u g).1 (h12 u g).2
    have o3 : okT ((R i 13).elim ((R i 12).elim (N1 t i si cr) (fun u => N1 (N1 t i si cr) u (ySc si) cr)) (fun l => N1 ((R i 12).elim (N1 t i si cr) (fun u => N1 (N1 t i si cr) u (ySc si) cr)) l (ySc si) 1)) := by
      cases g : R i 13 with
      | none => exact o2
      | some u => exact hB _ _ _ _ o2 (h13 u g).1 (h13 u g).2
    refine okT_e ?_ i
    split
    · exact sLim_ok o3
    · exact sScr_ok o3
theorem sIts_ok {R : Nat → Nat → Option Nat} {okN : Nat → Prop} {N1 : FN} (hB : bSN 60 okN N1) {j : Nat} (si cr : Nat) : ∀ (its : List Nat) (bf : Option Nat) (t : TS), okT t → (∀ i ∈ its, i < 60 ∧ okN i ∧ (∀ u, R i 12 = some u → u < 60 ∧ okN u) ∧ (∀ u, R i 13 = some u → u < 60 ∧ okN u)) → okT (sIts R N1 j si cr bf its t) := by
  intro its
  induction its with
  | nil => intro bf t h _; exact h
  | cons i is ih =>
    intro bf t h hi
    have h9 := hi i List.mem_cons_self
    have o1 := sItem_ok hB h h9.1 h9.2.1 h9.2.2.1 h9.2.2.2 si cr
    refine ih _ _ ?_ (fun q hq => hi q (List.mem_cons_of_mem _ hq))
    unfold sIt
    generalize sItem R N1 t i si cr = z at o1
    obtain ⟨c, F, W, H, D, ro, co, C, CL⟩ := z
    exact ⟨o1.1, okB_mL o1.2 _ _ _ _⟩
theorem sLi_ok {R : Nat → Nat → Option Nat} {okN : Nat → Prop} {N1 : FN} (hB : bSN 60 okN N1) {t : TS} (h : okT t) (j si cr : Nat) (its : List Nat) (hi : ∀ i ∈ its, i < 60 ∧ okN i ∧ (∀ u, R i 12 = some u → u < 60 ∧ okN u) ∧ (∀ u, R i 13 = some u → u < 60 ∧ okN u)) : okT (sLi R N1 its t j si cr) := by
  have o := sIts_ok hB (j := j) si cr its none (t.1, t.2.1, t.2.2.1, t.2.2.2.1, t.2.2.2.2.1, t.2.2.2.2.2.1, t.2.2.2.2.2.2.1, t.2.2.2.2.2.2.2.1, meas (sT t.2.2.2.2.2.2.2.2 j 3 (nI t.1)) j 0 0 0) ⟨h.1, okB_mL (okB_L h.2 j 3 _ (fun _ => okv_n h.1) (by omega)) j 0 0 0⟩ hi
  exact ⟨o.1, okB_L o.2 j 4 _ (fun _ => okv_n o.1) (by omega)⟩
set_option maxHeartbeats 4000000 in
set_option maxRecDepth 100000 in
theorem m_Ty_setItem (l : Launch) (D : va_G) (ct : Nat → ClassId) (b : Nat) (RO : State → Prop) (hR : fh_R b RO) (sA sV : Nat → Nat) (hSt : ∀ U, RO U → ro_S b sA sV U) (kA aA yA : Nat → Nat) (tK tS tM : Nat) (hEn : ∀ U, RO U → ro_E b sA kA aA yA tK tS tM U) (hAd : ad_ok kA aA yA)  (n x : Nat) (g : fh_H) (c0 : Nat) (hc0 : c0 ≤ 120) (F W0 H0 D0 : Nat → Int32) (rows cols : Int32) (nc lc : Int32) (tx : Value) (len at_ : Int32) (C : Nat → Nat → Int32) (R : Nat → Nat → Option Nat) (CL : Nat → Nat → Int32) (RL : Nat → Nat → Option Nat) (hokB : okB C CL) (N1 : FN) (okN : Nat → Prop) (r0 : Nat) (hN1 : cSN l D ct b RO kA aA yA n x g nc lc tx len at_ R RL okN r0 N1) (hB1 : bSN 60 okN N1) (r : Nat) (hr : r0 + 1 ≤ r) (hr4 : 4 ≤ r) (i si cr : Nat) (hi : i < 60) (hsi : si < 4) (hcr : cr ≤ 1) (k0 : Nat) (hk0 : k0 < 11) (h5 : R i 5 = some k0) (hoi : okN i) (hu12 : ∀ u, R i 12 = some u → u < 60 ∧ okN u) (hu13 : ∀ u, R i 13 = some u → u < 60 ∧ okN u) : fh_C l D fh_cl (fh_tys ct) b RO y_Ty_setItem (Cond.code y_Ty_setItem c_Ty_setItem 4 (Option.none : Option FieldType) :: fh_T) (fh_rm r 0 0) [.ref (x + 226), .ref (x + 4 + i), .ref (yA si), .int (nI cr)] (mkR x kA aA (mkG ct x g (nI c0) F W0 H0 D0 rows cols) nc lc tx len at_ C R CL RL) n (fun v h' n' => v = none ∧ h' = hz ct x kA aA g nc lc tx len at_ R RL (sItem R N1 (c0, F, W0, H0, D0, rows, cols, C, CL) i si cr) ∧ n' = n) 0 0 := by
  refine fh_enter (by decide) (Nat.le_of_ble_eq_true rfl) [(0, .ref (x + 226)), (1, .ref (x + 4 + i)), (2, .ref (yA si)), (3, .int (nI cr))] rfl ?_
  intro p e s m args below meth c H ls X hP hS hl
  have hx := X.1
  have hb := X.2.1
  have hml := X.2.2.1
  have hown : s.vm.findClass "FormulaSetter$Typesetter" = some m.cls := X.2.2.2.1
  have hT := X.2.2.2.2.1
  have hK := X.2.2.2.2.2.1
  have hRO := X.2.2.2.2.2.2.1
  have hnm : meth.name = "setItem" := X.2.2.2.2.2.2.2.2.2.2
  by_cases hs0 : si = 0
  · subst hs0
    obtain ⟨o12, h12⟩ : ∃ z, R i 12 = z := ⟨_, rfl⟩
    obtain ⟨o13, h13⟩ : ∃ z, R i 13 = z := ⟨_, rfl⟩
    rcases o12 with _ | u
    · have hu : True := trivial
      rcases o13 with _ | v2
      · have hv2 : True := trivial
        have hou : True := trivial
        have hov : True := trivial
        refine lv_aload_n hx hb (fh_d d_Ty_setItem 0 rfl) rfl (lv_at hl 0 rfl) ?_
        refine lv_aload_n hx hb (fh_d d_Ty_setItem 1 rfl) rfl (lv_at hl 1 rfl) ?_
        refine lv_aload_n hx hb (fh_d d_Ty_setItem 2 rfl) rfl (lv_at hl 2 rfl) ?_
        refine lv_iload_n hx hb (fh_d d_Ty_setItem 3 rfl) rfl (lv_at hl 3 rfl) ?_
        refine fh_callV (cc' := c_Ty_setNucleus) (nL' := 4) (rest := []) (a := x + 226) (As := [.ref (x + 4 + i), .ref (yA 0), .int (nI cr)]) X hR (hN1 (r - 1) (by omega) (c0, F, W0, H0, D0, rows, cols, C, CL) ⟨hc0, hokB⟩ i 0 cr (hi) hoi (by decide) hcr) w663 w660 w662 v19 w6 ⟨by decide, by decide, by show _ = some 3; decide +kernel⟩ (by omega) (by decide) (fh_recv hK hP ((mkR_g (by omega) (by omega) (by omega)).trans mkG_ts) rfl) hP hS hl.1 rfl (by exact Nat.le_of_ble_eq_true rfl) (fh_d d_Ty_setItem 4 rfl) ⟨Nat.le_refl _, Nat.le_refl _⟩ (fun v9 h9 n9 H locs hq hP hS => ?_)
        obtain ⟨⟨c_1, F_1, W_1, H_1, D_1, ro_1, co_1, C_1, CL_1⟩, e_1⟩ : ∃ z, z = N1 (c0, F, W0, H0, D0, rows, cols, C, CL) i 0 cr := ⟨_, rfl⟩
        obtain ⟨rfl, q_1a, q_1b⟩ := hq
        rw [← e_1] at q_1a
        rw [q_1a, q_1b] at hP
        have o_1 : okT (c_1, F_1, W_1, H_1, D_1, ro_1, co_1, C_1, CL_1) := by rw [e_1]; exact hB1 _ _ _ _ ⟨hc0, hokB⟩ (hi) hoi
        have hc_1 : c_1 ≤ 120 := o_1.1
        have ob_1 : okB C_1 CL_1 := o_1.2
        replace hP : fh_P D fh_cl b (mkR x kA aA (mkG ct x g (nI c_1) F_1 W_1 H_1 D_1 ro_1 co_1) nc lc tx len at_ C_1 R CL_1 RL) n H := hP
        refine W.eq (g2 := F0 m 7 ls []) rfl ?_
        refine lv_aload_n hx hb (fh_d d_Ty_setItem 5 rfl) rfl (lv_at hl 1 rfl) ?_
        refine fh_get (own := "FormulaSetter$Typesetter") (ref := "FormulaSetter$Nucleus") (C := "FormulaSetter$Nucleus") (T := T_Nu) (N := 15) (v := .null) hx hb hT i_Nu hown hK hP (mkR_nu (hi)) rfl 12 (by decide) (hT _ w74) (fun _ h9 => h9) (by show some (va_rf ((R i 12).map (fun z => x + 4 + z))) = _; rw [h12]; rfl) (fh_d d_Ty_setItem 6 rfl) ?_
        refine lv_ifnonnullN hx hb (fh_d d_Ty_setItem 7 rfl) ?_
        refine lv_aload_n hx hb (fh_d d_Ty_setItem 8 rfl) rfl (lv_at hl 1 rfl) ?_
        refine fh_get (own := "FormulaSetter$Typesetter") (ref := "FormulaSetter$Nucleus") (C := "FormulaSetter$Nucleus") (T := T_Nu) (N := 15) (v := .null) hx hb hT i_Nu hown hK hP (mkR_nu (hi)) rfl 13 (by decide) (hT _ w77) (fun _ h9 => h9) (by show some (va_rf ((R i 13).map (fun z => x + 4 + z))) = _; rw [h13]; rfl) (fh_d d_Ty_setItem 9 rfl) ?_
        refine lv_ifnonnullN hx hb (fh_d d_Ty_setItem 10 rfl) ?_
        refine fh_vret X hP hS (fh_d d_Ty_setItem 11 rfl) ⟨rfl, ?_, rfl⟩
        · unfold sItem; dsimp only; rw [if_pos ⟨h12, h13⟩, ← e_1]; rfl
      · have hv2 := (hu13 v2 h13).1
        have hou : True := trivial
        have hov := (hu13 v2 h13).2
        refine lv_aload_n hx hb (fh_d d_Ty_setItem 0 rfl) rfl (lv_at hl 0 rfl) ?_
        refine lv_aload_n hx hb (fh_d d_Ty_setItem 1 rfl) rfl (lv_at hl 1 rfl) ?_
        refine lv_aload_n hx hb (fh_d d_Ty_setItem 2 rfl) rfl (lv_at hl 2 rfl) ?_
        refine lv_iload_n hx hb (fh_d d_Ty_setItem 3 rfl) rfl (lv_at hl 3 rfl) ?_
        refine fh_callV (cc' := c_Ty_setNucleus) (nL' := 4) (rest := []) (a := x + 226) (As := [.ref (x + 4 + i), .ref (yA 0), .int (nI cr)]) X hR (hN1 (r - 1) (by omega) (c0, F, W0, H0, D0, rows, cols, C, CL) ⟨hc0, hokB⟩ i 0 cr (hi) hoi (by decide) hcr) w663 w660 w662 v19 w6 ⟨by decide, by decide, by show _ = some 3; decide +kernel⟩ (by omega) (by decide) (fh_recv hK hP ((mkR_g (by omega) (by omega) (by omega)).trans mkG_ts) rfl) hP hS hl.1 rfl (by exact Nat.le_of_ble_eq_true rfl) (fh_d d_Ty_setItem 4 rfl) ⟨Nat.le_refl _, Nat.le_refl _⟩ (fun v9 h9 n9 H locs hq hP hS => ?_)
        obtain ⟨⟨c_4, F_4, W_4, H_4, D_4, ro_4, co_4, C_4, CL_4⟩, e_4⟩ : ∃ z, z = N1 (c0, F, W0, H0, D0, rows, cols, C, CL) i 0 cr := ⟨_, rfl⟩
        obtain ⟨rfl, q_4a, q_4b⟩ := hq
        rw [← e_4] at q_4a
        rw [q_4a, q_4b] at hP
        have o_4 : okT (c_4, F_4, W_4, H_4, D_4, ro_4, co_4, C_4, CL_4) := by rw [e_4]; exact hB1 _ _ _ _ ⟨hc0, hokB⟩ (hi) hoi
        have hc_4 : c_4 ≤ 120 := o_4.1
        have ob_4 : okB C_4 CL_4 := o_4.2
        replace hP : fh_P D fh_cl b (mkR x kA aA (mkG ct x g (nI c_4) F_4 W_4 H_4 D_4 ro_4 co_4) nc lc tx len at_ C_4 R CL_4 RL) n H := hP
        refine W.eq (g2 := F0 m 7 ls []) rfl ?_
        refine lv_aload_n hx hb (fh_d d_Ty_setItem 5 rfl) rfl (lv_at hl 1 rfl) ?_
        refine fh_get (own := "FormulaSetter$Typesetter") (ref := "FormulaSetter$Nucleus") (C := "FormulaSetter$Nucleus") (T := T_Nu) (N := 15) (v := .null) hx hb hT i_Nu hown hK hP (mkR_nu (hi)) rfl 12 (by decide) (hT _ w74) (fun _ h9 => h9) (by show some (va_rf ((R i 12).map (fun z => x + 4 + z))) = _; rw [h12]; rfl) (fh_d d_Ty_setItem 6 rfl) ?_
        refine lv_ifnonnullN hx hb (fh_d d_Ty_setItem 7 rfl) ?_
        refine lv_aload_n hx hb (fh_d d_Ty_setItem 8 rfl) rfl (lv_at hl 1 rfl) ?_
        refine fh_get (own := "FormulaSetter$Typesetter") (ref := "FormulaSetter$Nucleus") (C := "FormulaSetter$Nucleus") (T := T_Nu) (N := 15) (v := .ref (x + 4 + v2)) hx hb hT i_Nu hown hK hP (mkR_nu (hi)) rfl 13 (by decide) (hT _ w77) (fun _ h9 => h9) (by show some (va_rf ((R i 13).map (fun z => x + 4 + z))) = _; rw [h13]; rfl) (fh_d d_Ty_setItem 9 rfl) ?_
        refine lv_ifnonnull (tgt := 22) hx hb (fh_d d_Ty_setItem 10 rfl) rfl ?_
        refine lv_aload_n hx hb (fh_d d_Ty_setItem 12 rfl) rfl (lv_at hl 1 rfl) ?_
        refine fh_get (own := "FormulaSetter$Typesetter") (ref := "FormulaSetter$Nucleus") (C := "FormulaSetter$Nucleus") (T := T_Nu) (N := 15) (v := .null) hx hb hT i_Nu hown hK hP (mkR_nu (hi)) rfl 12 (by decide) (hT _ w74) (fun _ h9 => h9) (by show some (va_rf ((R i 12).map (fun z => x + 4 + z))) = _; rw [h12]; rfl) (fh_d d_Ty_setItem 13 rfl) ?_
        refine lv_ifnullN (tgt := 42) hx hb (fh_d d_Ty_setItem 14 rfl) rfl ?_
        refine lv_aload_n hx hb (fh_d d_Ty_setItem 22 rfl) rfl (lv_at hl 1 rfl) ?_
        refine fh_get (own := "FormulaSetter$Typesetter") (ref := "FormulaSetter$Nucleus") (C := "FormulaSetter$Nucleus") (T := T_Nu) (N := 15) (v := .ref (x + 4 + v2)) hx hb hT i_Nu hown hK hP (mkR_nu (hi)) rfl 13 (by decide) (hT _ w77) (fun _ h9 => h9) (by show some (va_rf ((R i 13).map (fun z => x + 4 + z))) = _; rw [h13]; rfl) (fh_d d_Ty_setItem 23 rfl) ?_
        refine lv_ifnull hx hb (fh_d d_Ty_setItem 24 rfl) ?_
        refine lv_aload_n hx hb (fh_d d_Ty_setItem 25 rfl) rfl (lv_at hl 0 rfl) ?_
        refine lv_aload_n hx hb (fh_d d_Ty_setItem 26 rfl) rfl (lv_at hl 1 rfl) ?_
        refine fh_get (own := "FormulaSetter$Typesetter") (ref := "FormulaSetter$Nucleus") (C := "FormulaSetter$Nucleus") (T := T_Nu) (N := 15) (v := .ref (x + 4 + v2)) hx hb hT i_Nu hown hK hP (mkR_nu (hi)) rfl 13 (by decide) (hT _ w77) (fun _ h9 => h9) (by show some (va_rf ((R i 13).map (fun z => x + 4 + z))) = _; rw [h13]; rfl) (fh_d d_Ty_setItem 27 rfl) ?_
        refine lv_aload_n hx hb (fh_d d_Ty_setItem 28 rfl) rfl (lv_at hl 2 rfl) ?_
        refine fh_callV (cc' := c_Sy_forScripts) (nL' := 1) (rest := [.ref (x + 4 + v2), .ref (x + 226)]) (a := yA 0) (As := []) X hR (m_Sy_forScripts l D ct b RO hR sA sV hSt kA aA yA tK tS tM hEn hAd (r - 1) n 0 (by decide) (by omega) (mkR x kA aA (mkG ct x g (nI c_4) F_4 W_4 H_4 D_4 ro_4 co_4) nc lc tx len at_ C_4 R CL_4 RL)) w796 w793 w794 w795 w24 ⟨by decide, by decide, by show _ = some 0; decide +kernel⟩ (by omega) (by decide) (fs_recv ((hEn _ hRO).2.2.1 0 (by decide)).2.1 hS) hP hS hl.1 rfl (by exact Nat.le_of_ble_eq_true rfl) (fh_d d_Ty_setItem 29 rfl) ⟨Nat.le_refl _, Nat.le_refl _⟩ (fun v9 h9 n9 H locs hq hP hS => ?_)
        obtain ⟨rfl, q9a, q9b⟩ := hq
        rw [q9a, q9b] at hP
        refine W.eq (g2 := F0 m 58 ls [.ref (yA (ySc 0)), .ref (x + 4 + v2), .ref (x + 226)]) rfl ?_
        refine lv_iconst (v := 1) hx hb (fh_d d_Ty_setItem 30 rfl) (by decide) ?_
        refine W.eq (g2 := F0 m 59 ls [.int (nI 1), .ref (yA (ySc 0)), .ref (x + 4 + v2), .ref (x + 226)]) rfl ?_
        refine fh_callV (cc' := c_Ty_setNucleus) (nL' := 4) (rest := []) (a := x + 226) (As := [.ref (x + 4 + v2), .ref (yA (ySc 0)), .int (nI 1)]) X hR (hN1 (r - 1) (by omega) (c_4, F_4, W_4, H_4, D_4, ro_4, co_4, C_4, CL_4) ⟨hc_4, ob_4⟩ v2 (ySc 0) 1 (hv2) hov ySc_lt (by omega)) w663 w660 w662 v19 w6 ⟨by decide, by decide, by show _ = some 3; decide +kernel⟩ (by omega) (by decide) (fh_recv hK hP ((mkR_g (by omega) (by omega) (by omega)).trans mkG_ts) rfl) hP hS hl.1 rfl (by exact Nat.le_of_ble_eq_true rfl) (fh_d d_Ty_setItem 31 rfl) ⟨Nat.le_refl _, Nat.le_refl _⟩ (fun v9 h9 n9 H locs hq hP hS => ?_)
        obtain ⟨⟨c_10, F_10, W_10, H_10, D_10, ro_10, co_10, C_10, CL_10⟩, e_10⟩ : ∃ z, z = N1 (c_4, F_4, W_4, H_4, D_4, ro_4, co_4, C_4, CL_4) v2 (ySc 0) 1 := ⟨_, rfl⟩
        obtain ⟨rfl, q_10a, q_10b⟩ := hq
        rw [← e_10] at q_10a
        rw [q_10a, q_10b] at hP
        have o_10 : okT (c_10, F_10, W_10, H_10, D_10, ro_10, co_10, C_10, CL_10) := by rw [e_10]; exact hB1 _ _ _ _ ⟨hc_4, ob_4⟩ (hv2) hov
        have hc_10 : c_10 ≤ 120 := o_10.1
        have ob_10 : okB C_10 CL_10 := o_10.2
        replace hP : fh_P D fh_cl b (mkR x kA aA (mkG ct x g (nI c_10) F_10 W_10 H_10 D_10 ro_10 co_10) nc lc tx len at_ C_10 R CL_10 RL) n H := hP
        refine W.eq (g2 := F0 m 62 ls []) rfl ?_
        refine lv_aload_n hx hb (fh_d d_Ty_setItem 32 rfl) rfl (lv_at hl 2 rfl) ?_
        refine va_gets (own := "FormulaSetter$Typesetter") (ref := "FormulaSetter$Style") (n := "DISPLAY") hx hb ((hEn _ hRO).2.2.1 0 (by decide)).1 hS hown (hT _ w702) (fun _ h9 => h9) (fh_d d_Ty_setItem 33 rfl) ?_
        refine lv_acmp_ne (rx := some (yA 0)) (ry := some (yA 0)) (tgt := 88) hx hb (fh_d d_Ty_setItem 34 rfl) rfl (fun c11 => absurd c11 (Classical.not_not.mpr rfl)) (fun c11 => ?_)
        refine lv_aload_n hx hb (fh_d d_Ty_setItem 35 rfl) rfl (lv_at hl 1 rfl) ?_
        refine fh_get (own := "FormulaSetter$Typesetter") (ref := "FormulaSetter$Nucleus") (C := "FormulaSetter$Nucleus") (T := T_Nu) (N := 15) (v := .ref (kA k0)) hx hb hT i_Nu hown hK hP (mkR_nu (hi)) rfl 5 (by decide) (hT _ w52) (fun _ h9 => h9) (by show some (va_rf ((R i 5).map kA)) = _; rw [h5]; rfl) (fh_d d_Ty_setItem 36 rfl) ?_
        refine fh_callV (cc' := c_Ki_takesLimits) (nL' := 1) (rest := []) (a := kA k0) (As := []) X hR (m_Ki_takesLimits l D ct b RO sA sV hSt kA aA yA tK tS tM hEn hAd (r - 1) n k0 hk0 (mkR x kA aA (mkG ct x g (nI c_10) F_10 W_10 H_10 D_10 ro_10 co_10) nc lc tx len at_ C_10 R CL_10 RL)) w804 w801 w802 w803 w21 ⟨by decide, by decide, by show _ = some 0; decide +kernel⟩ (by omega) (by decide) (fs_recv ((hEn _ hRO).1 k0 hk0).2.1 hS) hP hS hl.1 rfl (by exact Nat.le_of_ble_eq_true rfl) (fh_d d_Ty_setItem 37 rfl) ⟨Nat.le_refl _, Nat.le_refl _⟩ (fun v9 h9 n9 H locs hq hP hS => ?_)
        obtain ⟨rfl, q12a, q12b⟩ := hq
        rw [q12a, q12b] at hP
        refine W.eq (g2 := F0 m 76 ls [.int (if k0 = 2 ∨ k0 = 3 then 1 else 0)]) rfl ?_
        by_cases hk23 : k0 = 2 ∨ k0 = 3
        · rw [if_pos hk23]
          refine lv_if_eq (tgt := 88) hx hb (fh_d d_Ty_setItem 38 rfl) rfl (fun c13 => absurd c13 (by decide)) (fun c13 => ?_)
          refine lv_aload_n hx hb (fh_d d_Ty_setItem 39 rfl) rfl (lv_at hl 0 rfl) ?_
          refine lv_aload_n hx hb (fh_d d_Ty_setItem 40 rfl) rfl (lv_at hl 1 rfl) ?_
          refine lv_aload_n hx hb (fh_d d_Ty_setItem 41 rfl) rfl (lv_at hl 2 rfl) ?_
          refine fh_callV (cc' := c_Ty_placeLimits) (nL' := 10) (rest := []) (a := x + 226) (As := [.ref (x + 4 + i), .ref (yA 0)]) X hR (m_Ty_placeLimits l D ct b RO hR sA sV hSt kA aA yA tK tS tM hEn hAd n x g c_10 hc_10 F_10 W_10 H_10 D_10 ro_10 co_10 nc lc tx len at_ C_10 R CL_10 RL ob_10 (r - 1) (by omega) i 0 hi (by decide) (fun z hz9 => (hu12 z hz9).1) (fun z hz9 => (hu13 z hz9).1)) w812 w809 w811 v30 w6 ⟨by decide, by decide, by show _ = some 2; decide +kernel⟩ (by omega) (by decide) (fh_recv hK hP ((mkR_g (by omega) (by omega) (by omega)).trans mkG_ts) rfl) hP hS hl.1 rfl (by exact Nat.le_of_ble_eq_true rfl) (fh_d d_Ty_setItem 42 rfl) ⟨Nat.le_refl _, Nat.le_refl _⟩ (fun v9 h9 n9 H locs hq hP hS => ?_)
          obtain ⟨⟨c_14, F_14, W_14, H_14, D_14, ro_14, co_14, C_14, CL_14⟩, e_14⟩ : ∃ z, z = sLim R i 0 (c_10, F_10, W_10, H_10, D_10, ro_10, co_10, C_10, CL_10) := ⟨_, rfl⟩
          obtain ⟨rfl, q_14a, q_14b⟩ := hq
          rw [← e_14] at q_14a
          rw [q_14a, q_14b] at hP
          have o_14 : okT (c_14, F_14, W_14, H_14, D_14, ro_14, co_14, C_14, CL_14) := by rw [e_14]; exact sLim_ok ⟨hc_10, ob_10⟩
          have hc_14 : c_14 ≤ 120 := o_14.1
          have ob_14 : okB C_14 CL_14 := o_14.2
          replace hP : fh_P D fh_cl b (mkR x kA aA (mkG ct x g (nI c_14) F_14 W_14 H_14 D_14 ro_14 co_14) nc lc tx len at_ C_14 R CL_14 RL) n H := hP
          refine W.eq (g2 := F0 m 85 ls []) rfl ?_
          refine lv_goto (tgt := 95) hx hb (fh_d d_Ty_setItem 43 rfl) rfl ?_
          refine lv_aload_n hx hb (fh_d d_Ty_setItem 49 rfl) rfl (lv_at hl 1 rfl) ?_
          refine lv_aload_n hx hb (fh_d d_Ty_setItem 50 rfl) rfl (lv_at hl 0 rfl) ?_
          refine fh_get (own := "FormulaSetter$Typesetter") (ref := "FormulaSetter$Typesetter") (C := "FormulaSetter$Typesetter") (T := T_Ty) (N := 2) (v := .ref (x + 227)) hx hb hT i_Ty hown hK hP ((mkR_g (by omega) (by omega) (by omega)).trans mkG_ts) rfl 0 (by decide) (hT _ w247) (fun _ h9 => h9) rfl (fh_d d_Ty_setItem 51 rfl) ?_
          refine fh_get (own := "FormulaSetter$Typesetter") (ref := "FormulaSetter$Sheet") (C := "FormulaSetter$Sheet") (T := T_Sh) (N := 2) (v := .int (nI c_14)) hx hb hT i_Sh hown hK hP ((mkR_g (by omega) (by omega) (by omega)).trans mkG_sh) rfl 1 (by decide) (hT _ w217) (fun _ h9 => h9) rfl (fh_d d_Ty_setItem 52 rfl) ?_
          refine fh_put (own := "FormulaSetter$Typesetter") (ref := "FormulaSetter$Nucleus") (C := "FormulaSetter$Nucleus") (T := T_Nu) (N := 15) (v := .int (nI c_14)) (ty := .int) hx hb hT i_Nu t_Nu k_Nu n_Nu hown hK hP hS (mkR_nu (hi)) rfl 4 (by decide) (hT _ w111) (fun x9 h9 => u_same (hT _ w112) x9 h9) rfl (by decide +kernel) rfl rfl (Nat.le_of_ble_eq_true rfl) (fh_d d_Ty_setItem 53 rfl) (fun H locs hP hS => ?_)
          replace hP := fh_P.eq (h' := mkR x kA aA (mkG ct x g (nI c_14) F_14 W_14 H_14 D_14 ro_14 co_14) nc lc tx len at_ (sT C_14 i 4 (nI c_14)) R CL_14 RL) hP (mkR_nu4 (v := nI c_14) (hi))
          have f15 : (sT C_14 i 4 (nI c_14)) i 4 = nI c_14 := sT_same
          have y16 : okB (sT C_14 i 4 (nI c_14)) CL_14 := okB_C ob_14 i 4 (nI c_14) (fun _ => okv_n hc_14)
          refine fh_vret X hP hS (fh_d d_Ty_setItem 54 rfl) ⟨rfl, ?_, rfl⟩
          · unfold sItem; dsimp only; rw [if_neg (fun z => by rw [h12, h13] at z; exact absurd z (by simp)), h12, h13]; dsimp only [Option.elim]; rw [← e_4]; rw [← e_10]; rw [if_pos ⟨rfl, by rw [h5]; exact hk23.elim (fun z => Or.inl (by rw [z])) (fun z => Or.inr (by rw [z]))⟩]; rw [← e_14]; rfl
        · rw [if_neg hk23]
          refine lv_if_eq (tgt := 88) hx hb (fh_d d_Ty_setItem 38 rfl) rfl (fun c17 => ?_) (fun c17 => absurd c17 (Classical.not_not.mpr (by decide)))
          refine lv_aload_n hx hb (fh_d d_Ty_setItem 44 rfl) rfl (lv_at hl 0 rfl) ?_
          refine lv_aload_n hx hb (fh_d d_Ty_setItem 45 rfl) rfl (lv_at hl 1 rfl) ?_
          refine lv_aload_n hx hb (fh_d d_Ty_setItem 46 rfl) rfl (lv_at hl 2 rfl) ?_
          refine lv_iload_n hx hb (fh_d d_Ty_setItem 47 rfl) rfl (lv_at hl 3 rfl) ?_
          refine fh_callV (cc' := c_Ty_placeScripts) (nL' := 12) (rest := []) (a := x + 226) (As := [.ref (x + 4 + i), .ref (yA 0), .int (nI cr)]) X hR (m_Ty_placeScripts l D ct b RO hR sA sV hSt kA aA yA tK tS tM hEn hAd n x g c_10 hc_10 F_10 W_10 H_10 D_10 ro_10 co_10 nc lc tx len at_ C_10 R CL_10 RL ob_10 (r - 1) (by omega) i 0 cr hi (by decide) hcr k0 hk0 h5 (fun z hz9 => (hu12 z hz9).1) (fun z hz9 => (hu13 z hz9).1)) w816 w813 w815 v31 w6 ⟨by decide, by decide, by show _ = some 3; decide +kernel⟩ (by omega) (by decide) (fh_recv hK hP ((mkR_g (by omega) (by omega) (by omega)).trans mkG_ts) rfl) hP hS hl.1 rfl (by exact Nat.le_of_ble_eq_true rfl) (fh_d d_Ty_setItem 48 rfl) ⟨Nat.le_refl _, Nat.le_refl _⟩ (fun v9 h9 n9 H locs hq hP hS => ?_)
          obtain ⟨⟨c_18, F_18, W_18, H_18, D_18, ro_18, co_18, C_18, CL_18⟩, e_18⟩ : ∃ z, z = sScr R i 0 cr (c_10, F_10, W_10, H_10, D_10, ro_10, co_10, C_10, CL_10) := ⟨_, rfl⟩
          obtain ⟨rfl, q_18a, q_18b⟩ := hq
          rw [← e_18] at q_18a
          rw [q_18a, q_18b] at hP
          have o_18 : okT (c_18, F_18, W_18, H_18, D_18, ro_18, co_18, C_18, CL_18) := by rw [e_18]; exact sScr_ok ⟨hc_10, ob_10⟩
          have hc_18 : c_18 ≤ 120 := o_18.1
          have ob_18 : okB C_18 CL_18 := o_18.2
          replace hP : fh_P D fh_cl b (mkR x kA aA (mkG ct x g (nI c_18) F_18 W_18 H_18 D_18 ro_18 co_18) nc lc tx len at_ C_18 R CL_18 RL) n H := hP
          refine W.eq (g2 := F0 m 95 ls []) rfl ?_
          refine lv_aload_n hx hb (fh_d d_Ty_setItem 49 rfl) rfl (lv_at hl 1 rfl) ?_
          refine lv_aload_n hx hb (fh_d d_Ty_setItem 50 rfl) rfl (lv_at hl 0 rfl) ?_
          refine fh_get (own := "FormulaSetter$Typesetter") (ref := "FormulaSetter$Typesetter") (C := "FormulaSetter$Typesetter") (T := T_Ty) (N := 2) (v := .ref (x + 227)) hx hb hT i_Ty hown hK hP ((mkR_g (by omega) (by omega) (by omega)).trans mkG_ts) rfl 0 (by decide) (hT _ w247) (fun _ h9 => h9) rfl (fh_d d_Ty_setItem 51 rfl) ?_
          refine fh_get (own := "FormulaSetter$Typesetter") (ref := "FormulaSetter$Sheet") (C := "FormulaSetter$Sheet") (T := T_Sh) (N := 2) (v := .int (nI c_18)) hx hb hT i_Sh hown hK hP ((mkR_g (by omega) (by omega) (by omega)).trans mkG_sh) rfl 1 (by decide) (hT _ w217) (fun _ h9 => h9) rfl (fh_d d_Ty_setItem 52 rfl) ?_
          refine fh_put (own := "FormulaSetter$Typesetter") (ref := "FormulaSetter$Nucleus") (C := "FormulaSetter$Nucleus") (T := T_Nu) (N := 15) (v := .int (nI c_18)) (ty := .int) hx hb hT i_Nu t_Nu k_Nu n_Nu hown hK hP hS (mkR_nu (hi)) rfl 4 (by decide) (hT _ w111) (fun x9 h9 => u_same (hT _ w112) x9 h9) rfl (by decide +kernel) rfl rfl (Nat.le_of_ble_eq_true rfl) (fh_d d_Ty_setItem 53 rfl) (fun H locs hP hS => ?_)
          replace hP := fh_P.eq (h' := mkR x kA aA (mkG ct x g (nI c_18) F_18 W_18 H_18 D_18 ro_18 co_18) nc lc tx len at_ (sT C_18 i 4 (nI c_18)) R CL_18 RL) hP (mkR_nu4 (v := nI c_18) (hi))
          have f19 : (sT C_18 i 4 (nI c_18)) i 4 = nI c_18 := sT_same
          have y20 : okB (sT C_18 i 4 (nI c_18)) CL_18 := okB_C ob_18 i 4 (nI c_18) (fun _ => okv_n hc_18)
          refine fh_vret X hP hS (fh_d d_Ty_setItem 54 rfl) ⟨rfl, ?_, rfl⟩
          · unfold sItem; dsimp only; rw [if_neg (fun z => by rw [h12, h13] at z; exact absurd z (by simp)), h12, h13]; dsimp only [Option.elim]; rw [← e_4]; rw [← e_10]; rw [if_neg (fun z => hk23 (by rw [h5] at z; exact z.2.elim (fun y => Or.inl (Option.some.inj y)) (fun y => Or.inr (Option.some.inj y))))]; rw [← e_18]; rfl
    · have hu := (hu12 u h12).1
      rcases o13 with _ | v2
      · have hv2 : True := trivial
        have hou := (hu12 u h12).2
        have hov : True := trivial
        refine lv_aload_n hx hb (fh_d d_Ty_setItem 0 rfl) rfl (lv_at hl 0 rfl) ?_
        refine lv_aload_n hx hb (fh_d d_Ty_setItem 1 rfl) rfl (lv_at hl 1 rfl) ?_
        refine lv_aload_n hx hb (fh_d d_Ty_setItem 2 rfl) rfl (lv_at hl 2 rfl) ?_
        refine lv_iload_n hx hb (fh_d d_Ty_setItem 3 rfl) rfl (lv_at hl 3 rfl) ?_
        refine fh_callV (cc' := c_Ty_setNucleus) (nL' := 4) (rest := []) (a := x + 226) (As := [.ref (x + 4 + i), .ref (yA 0), .int (nI cr)]) X hR (hN1 (r - 1) (by omega) (c0, F, W0, H0, D0, rows, cols, C, CL) ⟨hc0, hokB⟩ i 0 cr (hi) hoi (by decide) hcr) w663 w660 w662 v19 w6 ⟨by decide, by decide, by show _ = some 3; decide +kernel⟩ (by omega) (by decide) (fh_recv hK hP ((mkR_g (by omega) (by omega) (by omega)).trans mkG_ts) rfl) hP hS hl.1 rfl (by exact Nat.le_of_ble_eq_true rfl) (fh_d d_Ty_setItem 4 rfl) ⟨Nat.le_refl _, Nat.le_refl _⟩ (fun v9 h9 n9 H locs hq hP hS => ?_)
        obtain ⟨⟨c_21, F_21, W_21, H_21, D_21, ro_21, co_21, C_21, CL_21⟩, e_21⟩ : ∃ z, z = N1 (c0, F, W0, H0, D0, rows, cols, C, CL) i 0 cr := ⟨_, rfl⟩
        obtain ⟨rfl, q_21a, q_21b⟩ := hq
        rw [← e_21] at q_21a
        rw [q_21a, q_21b] at hP
        have o_21 : okT (c_21, F_21, W_21, H_21, D_21, ro_21, co_21, C_21, CL_21) := by rw [e_21]; exact hB1 _ _ _ _ ⟨hc0, hokB⟩ (hi) hoi
        have hc_21 : c_21 ≤ 120 := o_21.1
        have ob_21 : okB C_21 CL_21 := o_21.2
        replace hP : fh_P D fh_cl b (mkR x kA aA (mkG ct x g (nI c_21) F_21 W_21 H_21 D_21 ro_21 co_21) nc lc tx len at_ C_21 R CL_21 RL) n H := hP
        refine W.eq (g2 := F0 m 7 ls []) rfl ?_
        refine lv_aload_n hx hb (fh_d d_Ty_setItem 5 rfl) rfl (lv_at hl 1 rfl) ?_
        refine fh_get (own := "FormulaSetter$Typesetter") (ref := "FormulaSetter$Nucleus") (C := "FormulaSetter$Nucleus") (T := T_Nu) (N := 15) (v := .ref (x + 4 + u)) hx hb hT i_Nu hown hK hP (mkR_nu (hi)) rfl 12 (by decide) (hT _ w74) (fun _ h9 => h9) (by show some (va_rf ((R i 12).map (fun z => x + 4 + z))) = _; rw [h12]; rfl) (fh_d d_Ty_setItem 6 rfl) ?_
        refine lv_ifnonnull (tgt := 22) hx hb (fh_d d_Ty_setItem 7 rfl) rfl ?_
        refine lv_aload_n hx hb (fh_d d_Ty_setItem 12 rfl) rfl (lv_at hl 1 rfl) ?_
        refine fh_get (own := "FormulaSetter$Typesetter") (ref := "FormulaSetter$Nucleus") (C := "FormulaSetter$Nucleus") (T := T_Nu) (N := 15) (v := .ref (x + 4 + u)) hx hb hT i_Nu hown hK hP (mkR_nu (hi)) rfl 12 (by decide) (hT _ w74) (fun _ h9 => h9) (by show some (va_rf ((R i 12).map (fun z => x + 4 + z))) = _; rw [h12]; rfl) (fh_d d_Ty_setItem 13 rfl) ?_
        refine lv_ifnull hx hb (fh_d d_Ty_setItem 14 rfl) ?_
        refine lv_aload_n hx hb (fh_d d_Ty_setItem 15 rfl) rfl (lv_at hl 0 rfl) ?_
        refine lv_aload_n hx hb (fh_d d_Ty_setItem 16 rfl) rfl (lv_at hl 1 rfl) ?_
        refine fh_get (own := "FormulaSetter$Typesetter") (ref := "FormulaSetter$Nucleus") (C := "FormulaSetter$Nucleus") (T := T_Nu) (N := 15) (v := .ref (x + 4 + u)) hx hb hT i_Nu hown hK hP (mkR_nu (hi)) rfl 12 (by decide) (hT _ w74) (fun _ h9 => h9) (by show some (va_rf ((R i 12).map (fun z => x + 4 + z))) = _; rw [h12]; rfl) (fh_d d_Ty_setItem 17 rfl) ?_
        refine lv_aload_n hx hb (fh_d d_Ty_setItem 18 rfl) rfl (lv_at hl 2 rfl) ?_
        refine fh_callV (cc' := c_Sy_forScripts) (nL' := 1) (rest := [.ref (x + 4 + u), .ref (x + 226)]) (a := yA 0) (As := []) X hR (m_Sy_forScripts l D ct b RO hR sA sV hSt kA aA yA tK tS tM hEn hAd (r - 1) n 0 (by decide) (by omega) (mkR x kA aA (mkG ct x g (nI c_21) F_21 W_21 H_21 D_21 ro_21 co_21) nc lc tx len at_ C_21 R CL_21 RL)) w796 w793 w794 w795 w24 ⟨by decide, by decide, by show _ = some 0; decide +kernel⟩ (by omega) (by decide) (fs_recv ((hEn _ hRO).2.2.1 0 (by decide)).2.1 hS) hP hS hl.1 rfl (by exact Nat.le_of_ble_eq_true rfl) (fh_d d_Ty_setItem 19 rfl) ⟨Nat.le_refl _, Nat.le_refl _⟩ (fun v9 h9 n9 H locs hq hP hS => ?_)
        obtain ⟨rfl, q24a, q24b⟩ := hq
        rw [q24a, q24b] at hP
        refine W.eq (g2 := F0 m 38 ls [.ref (yA (ySc 0)), .ref (x + 4 + u), .ref (x + 226)]) rfl ?_
        refine lv_iload_n hx hb (fh_d d_Ty_setItem 20 rfl) rfl (lv_at hl 3 rfl) ?_
        refine fh_callV (cc' := c_Ty_setNucleus) (nL' := 4) (rest := []) (a := x + 226) (As := [.ref (x + 4 + u), .ref (yA (ySc 0)), .int (nI cr)]) X hR (hN1 (r - 1) (by omega) (c_21, F_21, W_21, H_21, D_21, ro_21, co_21, C_21, CL_21) ⟨hc_21, ob_21⟩ u (ySc 0) cr (hu) hou ySc_lt hcr) w663 w660 w662 v19 w6 ⟨by decide, by decide, by show _ = some 3; decide +kernel⟩ (by omega) (by decide) (fh_recv hK hP ((mkR_g (by omega) (by omega) (by omega)).trans mkG_ts) rfl) hP hS hl.1 rfl (by exact Nat.le_of_ble_eq_true rfl) (fh_d d_Ty_setItem 21 rfl) ⟨Nat.le_refl _, Nat.le_refl _⟩ (fun v9 h9 n9 H locs hq hP hS => ?_)
        obtain ⟨⟨c_25, F_25, W_25, H_25, D_25, ro_25, co_25, C_25, CL_25⟩, e_25⟩ : ∃ z, z = N1 (c_21, F_21, W_21, H_21, D_21, ro_21, co_21, C_21, CL_21) u (ySc 0) cr := ⟨_, rfl⟩
        obtain ⟨rfl, q_25a, q_25b⟩ := hq
        rw [← e_25] at q_25a
        rw [q_25a, q_25b] at hP
        have o_25 : okT (c_25, F_25, W_25, H_25, D_25, ro_25, co_25, C_25, CL_25) := by rw [e_25]; exact hB1 _ _ _ _ ⟨hc_21, ob_21⟩ (hu) hou
        have hc_25 : c_25 ≤ 120 := o_25.1
        have ob_25 : okB C_25 CL_25 := o_25.2
        replace hP : fh_P D fh_cl b (mkR x kA aA (mkG ct x g (nI c_25) F_25 W_25 H_25 D_25 ro_25 co_25) nc lc tx len at_ C_25 R CL_25 RL) n H := hP
        refine W.eq (g2 := F0 m 42 ls []) rfl ?_
        refine lv_aload_n hx hb (fh_d d_Ty_setItem 22 rfl) rfl (lv_at hl 1 rfl) ?_
        refine fh_get (own := "FormulaSetter$Typesetter") (ref := "FormulaSetter$Nucleus") (C := "FormulaSetter$Nucleus") (T := T_Nu) (N := 15) (v := .null) hx hb hT i_Nu hown hK hP (mkR_nu (hi)) rfl 13 (by decide) (hT _ w77) (fun _ h9 => h9) (by show some (va_rf ((R i 13).map (fun z => x + 4 + z))) = _; rw [h13]; rfl) (fh_d d_Ty_setItem 23 rfl) ?_
        refine lv_ifnullN (tgt := 62) hx hb (fh_d d_Ty_setItem 24 rfl) rfl ?_
        refine lv_aload_n hx hb (fh_d d_Ty_setItem 32 rfl) rfl (lv_at hl 2 rfl) ?_
        refine va_gets (own := "FormulaSetter$Typesetter") (ref := "FormulaSetter$Style") (n := "DISPLAY") hx hb ((hEn _ hRO).2.2.1 0 (by decide)).1 hS hown (hT _ w702) (fun _ h9 => h9) (fh_d d_Ty_setItem 33 rfl) ?_
        refine lv_acmp_ne (rx := some (yA 0)) (ry := some (yA 0)) (tgt := 88) hx hb (fh_d d_Ty_setItem 34 rfl) rfl (fun c27 => absurd c27 (Classical.not_not.mpr rfl)) (fun c27 => ?_)
        refine lv_aload_n hx hb (fh_d d_Ty_setItem 35 rfl) rfl (lv_at hl 1 rfl) ?_
        refine fh_get (own := "FormulaSetter$Typesetter") (ref := "FormulaSetter$Nucleus") (C := "FormulaSetter$Nucleus") (T := T_Nu) (N := 15) (v := .ref (kA k0)) hx hb hT i_Nu hown hK hP (mkR_nu (hi)) rfl 5 (by decide) (hT _ w52) (fun _ h9 => h9) (by show some (va_rf ((R i 5).map kA)) = _; rw [h5]; rfl) (fh_d d_Ty_setItem 36 rfl) ?_
        refine fh_callV (cc' := c_Ki_takesLimits) (nL' := 1) (rest := []) (a := kA k0) (As := []) X hR (m_Ki_takesLimits l D ct b RO sA sV hSt kA aA yA tK tS tM hEn hAd (r - 1) n k0 hk0 (mkR x kA aA (mkG ct x g (nI c_25) F_25 W_25 H_25 D_25 ro_25 co_25) nc lc tx len at_ C_25 R CL_25 RL)) w804 w801 w802 w803 w21 ⟨by decide, by decide, by show _ = some 0; decide +kernel⟩ (by omega) (by decide) (fs_recv ((hEn _ hRO).1 k0 hk0).2.1 hS) hP hS hl.1 rfl (by exact Nat.le_of_ble_eq_true rfl) (fh_d d_Ty_setItem 37 rfl) ⟨Nat.le_refl _, Nat.le_refl _⟩ (fun v9 h9 n9 H locs hq hP hS => ?_)
        obtain ⟨rfl, q28a, q28b⟩ := hq
        rw [q28a, q28b] at hP
        refine W.eq (g2 := F0 m 76 ls [.int (if k0 = 2 ∨ k0 = 3 then 1 else 0)]) rfl ?_
        by_cases hk23 : k0 = 2 ∨ k0 = 3
        · rw [if_pos hk23]
          refine lv_if_eq (tgt := 88) hx hb (fh_d d_Ty_setItem 38 rfl) rfl (fun c29 => absurd c29 (by decide)) (fun c29 => ?_)
          refine lv_aload_n hx hb (fh_d d_Ty_setItem 39 rfl) rfl (lv_at hl 0 rfl) ?_
          refine lv_aload_n hx hb (fh_d d_Ty_setItem 40 rfl) rfl (lv_at hl 1 rfl) ?_
          refine lv_aload_n hx hb (fh_d d_Ty_setItem 41 rfl) rfl (lv_at hl 2 rfl) ?_
          refine fh_callV (cc' := c_Ty_placeLimits) (nL' := 10) (rest := []) (a := x + 226) (As := [.ref (x + 4 + i), .ref (yA 0)]) X hR (m_Ty_placeLimits l D ct b RO hR sA sV hSt kA aA yA tK tS tM hEn hAd n x g c_25 hc_25 F_25 W_25 H_25 D_25 ro_25 co_25 nc lc tx len at_ C_25 R CL_25 RL ob_25 (r - 1) (by omega) i 0 hi (by decide) (fun z hz9 => (hu12 z hz9).1) (fun z hz9 => (hu13 z hz9).1)) w812 w809 w811 v30 w6 ⟨by decide, by decide, by show _ = some 2; decide +kernel⟩ (by omega) (by decide) (fh_recv hK hP ((mkR_g (by omega) (by omega) (by omega)).trans mkG_ts) rfl) hP hS hl.1 rfl (by exact Nat.le_of_ble_eq_true rfl) (fh_d d_Ty_setItem 42 rfl) ⟨Nat.le_refl _, Nat.le_refl _⟩ (fun v9 h9 n9 H locs hq hP hS => ?_)
          obtain ⟨⟨c_30, F_30, W_30, H_30, D_30, ro_30, co_30, C_30, CL_30⟩, e_30⟩ : ∃ z, z = sLim R i 0 (c_25, F_25, W_25, H_25, D_25, ro_25, co_25, C_25, CL_25) := ⟨_, rfl⟩
          obtain ⟨rfl, q_30a, q_30b⟩ := hq
          rw [← e_30] at q_30a
          rw [q_30a, q_30b] at hP
          have o_30 : okT (c_30, F_30, W_30, H_30, D_30, ro_30, co_30, C_30, CL_30) := by rw [e_30]; exact sLim_ok ⟨hc_25, ob_25⟩
          have hc_30 : c_30 ≤ 120 := o_30.1
          have ob_30 : okB C_30 CL_30 := o_30.2
          replace hP : fh_P D fh_cl b (mkR x kA aA (mkG ct x g (nI c_30) F_30 W_30 H_30 D_30 ro_30 co_30) nc lc tx len at_ C_30 R CL_30 RL) n H := hP
          refine W.eq (g2 := F0 m 85 ls []) rfl ?_
          refine lv_goto (tgt := 95) hx hb (fh_d d_Ty_setItem 43 rfl) rfl ?_
          refine lv_aload_n hx hb (fh_d d_Ty_setItem 49 rfl) rfl (lv_at hl 1 rfl) ?_
          refine lv_aload_n hx hb (fh_d d_Ty_setItem 50 rfl) rfl (lv_at hl 0 rfl) ?_
          refine fh_get (own := "FormulaSetter$Typesetter") (ref := "FormulaSetter$Typesetter") (C := "FormulaSetter$Typesetter") (T := T_Ty) (N := 2) (v := .ref (x + 227)) hx hb hT i_Ty hown hK hP ((mkR_g (by omega) (by omega) (by omega)).trans mkG_ts) rfl 0 (by decide) (hT _ w247) (fun _ h9 => h9) rfl (fh_d d_Ty_setItem 51 rfl) ?_
          refine fh_get (own := "FormulaSetter$Typesetter") (ref := "FormulaSetter$Sheet") (C := "FormulaSetter$Sheet") (T := T_Sh) (N := 2) (v := .int (nI c_30)) hx hb hT i_Sh hown hK hP ((mkR_g (by omega) (by omega) (by omega)).trans mkG_sh) rfl 1 (by decide) (hT _ w217) (fun _ h9 => h9) rfl (fh_d d_Ty_setItem 52 rfl) ?_
          refine fh_put (own := "FormulaSetter$Typesetter") (ref := "FormulaSetter$Nucleus") (C := "FormulaSetter$Nucleus") (T := T_Nu) (N := 15) (v := .int (nI c_30)) (ty := .int) hx hb hT i_Nu t_Nu k_Nu n_Nu hown hK hP hS (mkR_nu (hi)) rfl 4 (by decide) (hT _ w111) (fun x9 h9 => u_same (hT _ w112) x9 h9) rfl (by decide +kernel) rfl rfl (Nat.le_of_ble_eq_true rfl) (fh_d d_Ty_setItem 53 rfl) (fun H locs hP hS => ?_)
          replace hP := fh_P.eq (h' := mkR x kA aA (mkG ct x g (nI c_30) F_30 W_30 H_30 D_30 ro_30 co_30) nc lc tx len at_ (sT C_30 i 4 (nI c_30)) R CL_30 RL) hP (mkR_nu4 (v := nI c_30) (hi))
          have f31 : (sT C_30 i 4 (nI c_30)) i 4 = nI c_30 := sT_same
          have y32 : okB (sT C_30 i 4 (nI c_30)) CL_30 := okB_C ob_30 i 4 (nI c_30) (fun _ => okv_n hc_30)
          refine fh_vret X hP hS (fh_d d_Ty_setItem 54 rfl) ⟨rfl, ?_, rfl⟩
          · unfold sItem; dsimp only; rw [if_neg (fun z => by rw [h12, h13] at z; exact absurd z (by simp)), h12, h13]; dsimp only [Option.elim]; rw [← e_21]; rw [← e_25]; rw [if_pos ⟨rfl, by rw [h5]; exact hk23.elim (fun z => Or.inl (by rw [z])) (fun z => Or.inr (by rw [z]))⟩]; rw [← e_30]; rfl
        · rw [if_neg hk23]
          refine lv_if_eq (tgt := 88) hx hb (fh_d d_Ty_setItem 38 rfl) rfl (fun c33 => ?_) (fun c33 => absurd c33 (Classical.not_not.mpr (by decide)))
          refine lv_aload_n hx hb (fh_d d_Ty_setItem 44 rfl) rfl (lv_at hl 0 rfl) ?_
          refine lv_aload_n hx hb (fh_d d_Ty_setItem 45 rfl) rfl (lv_at hl 1 rfl) ?_
          refine lv_aload_n hx hb (fh_d d_Ty_setItem 46 rfl) rfl (lv_at hl 2 rfl) ?_
          refine lv_iload_n hx hb (fh_d d_Ty_setItem 47 rfl) rfl (lv_at hl 3 rfl) ?_
          refine fh_callV (cc' := c_Ty_placeScripts) (nL' := 12) (rest := []) (a := x + 226) (As := [.ref (x + 4 + i), .ref (yA 0), .int (nI cr)]) X hR (m_Ty_placeScripts l D ct b RO hR sA sV hSt kA aA yA tK tS tM hEn hAd n x g c_25 hc_25 F_25 W_25 H_25 D_25 ro_25 co_25 nc lc tx len at_ C_25 R CL_25 RL ob_25 (r - 1) (by omega) i 0 cr hi (by decide) hcr k0 hk0 h5 (fun z hz9 => (hu12 z hz9).1) (fun z hz9 => (hu13 z hz9).1)) w816 w813 w815 v31 w6 ⟨by decide, by decide, by show _ = some 3; decide +kernel⟩ (by omega) (by decide) (fh_recv hK hP ((mkR_g (by omega) (by omega) (by omega)).trans mkG_ts) rfl) hP hS hl.1 rfl (by exact Nat.le_of_ble_eq_true rfl) (fh_d d_Ty_setItem 48 rfl) ⟨Nat.le_refl _, Nat.le_refl _⟩ (fun v9 h9 n9 H locs hq hP hS => ?_)
          obtain ⟨⟨c_34, F_34, W_34, H_34, D_34, ro_34, co_34, C_34, CL_34⟩, e_34⟩ : ∃ z, z = sScr R i 0 cr (c_25, F_25, W_25, H_25, D_25, ro_25, co_25, C_25, CL_25) := ⟨_, rfl⟩
          obtain ⟨rfl, q_34a, q_34b⟩ := hq
          rw [← e_34] at q_34a
          rw [q_34a, q_34b] at hP
          have o_34 : okT (c_34, F_34, W_34, H_34, D_34, ro_34, co_34, C_34, CL_34) := by rw [e_34]; exact sScr_ok ⟨hc_25, ob_25⟩
          have hc_34 : c_34 ≤ 120 := o_34.1
          have ob_34 : okB C_34 CL_34 := o_34.2
          replace hP : fh_P D fh_cl b (mkR x kA aA (mkG ct x g (nI c_34) F_34 W_34 H_34 D_34 ro_34 co_34) nc lc tx len at_ C_34 R CL_34 RL) n H := hP
          refine W.eq (g2 := F0 m 95 ls []) rfl ?_
          refine lv_aload_n hx hb (fh_d d_Ty_setItem 49 rfl) rfl (lv_at hl 1 rfl) ?_
          refine lv_aload_n hx hb (fh_d d_Ty_setItem 50 rfl) rfl (lv_at hl 0 rfl) ?_
          refine fh_get (own := "FormulaSetter$Typesetter") (ref := "FormulaSetter$Typesetter") (C := "FormulaSetter$Typesetter") (T := T_Ty) (N := 2) (v := .ref (x + 227)) hx hb hT i_Ty hown hK hP ((mkR_g (by omega) (by omega) (by omega)).trans mkG_ts) rfl 0 (by decide) (hT _ w247) (fun _ h9 => h9) rfl (fh_d d_Ty_setItem 51 rfl) ?_
          refine fh_get (own := "FormulaSetter$Typesetter") (ref := "FormulaSetter$Sheet") (C := "FormulaSetter$Sheet") (T := T_Sh) (N := 2) (v := .int (nI c_34)) hx hb hT i_Sh hown hK hP ((mkR_g (by omega) (by omega) (by omega)).trans mkG_sh) rfl 1 (by decide) (hT _ w217) (fun _ h9 => h9) rfl (fh_d d_Ty_setItem 52 rfl) ?_
          refine fh_put (own := "FormulaSetter$Typesetter") (ref := "FormulaSetter$Nucleus") (C := "FormulaSetter$Nucleus") (T := T_Nu) (N := 15) (v := .int (nI c_34)) (ty := .int) hx hb hT i_Nu t_Nu k_Nu n_Nu hown hK hP hS (mkR_nu (hi)) rfl 4 (by decide) (hT _ w111) (fun x9 h9 => u_same (hT _ w112) x9 h9) rfl (by decide +kernel) rfl rfl (Nat.le_of_ble_eq_true rfl) (fh_d d_Ty_setItem 53 rfl) (fun H locs hP hS => ?_)
          replace hP := fh_P.eq (h' := mkR x kA aA (mkG ct x g (nI c_34) F_34 W_34 H_34 D_34 ro_34 co_34) nc lc tx len at_ (sT C_34 i 4 (nI c_34)) R CL_34 RL) hP (mkR_nu4 (v := nI c_34) (hi))
          have f35 : (sT C_34 i 4 (nI c_34)) i 4 = nI c_34 := sT_same
          have y36 : okB (sT C_34 i 4 (nI c_34)) CL_34 := okB_C ob_34 i 4 (nI c_34) (fun _ => okv_n hc_34)
          refine fh_vret X hP hS (fh_d d_Ty_setItem 54 rfl) ⟨rfl, ?_, rfl⟩
          · unfold sItem; dsimp only; rw [if_neg (fun z => by rw [h12, h13] at z; exact absurd z (by simp)), h12, h13]; dsimp only [Option.elim]; rw [← e_21]; rw [← e_25]; rw [if_neg (fun z => hk23 (by rw [h5] at z; exact z.2.elim (fun y => Or.inl (Option.some.inj y)) (fun y => Or.inr (Option.some.inj y))))]; rw [← e_34]; rfl
      · have hv2 := (hu13 v2 h13).1
        have hou := (hu12 u h12).2
        have hov := (hu13 v2 h13).2
        refine lv_aload_n hx hb (fh_d d_Ty_setItem 0 rfl) rfl (lv_at hl 0 rfl) ?_
        refine lv_aload_n hx hb (fh_d d_Ty_setItem 1 rfl) rfl (lv_at hl 1 rfl) ?_
        refine lv_aload_n hx hb (fh_d d_Ty_setItem 2 rfl) rfl (lv_at hl 2 rfl) ?_
        refine lv_iload_n hx hb (fh_d d_Ty_setItem 3 rfl) rfl (lv_at hl 3 rfl) ?_
        refine fh_callV (cc' := c_Ty_setNucleus) (nL' := 4) (rest := []) (a := x + 226) (As := [.ref (x + 4 + i), .ref (yA 0), .int (nI cr)]) X hR (hN1 (r - 1) (by omega) (c0, F, W0, H0, D0, rows, cols, C, CL) ⟨hc0, hokB⟩ i 0 cr (hi) hoi (by decide) hcr) w663 w660 w662 v19 w6 ⟨by decide, by decide, by show _ = some 3; decide +kernel⟩ (by omega) (by decide) (fh_recv hK hP ((mkR_g (by omega) (by omega) (by omega)).trans mkG_ts) rfl) hP hS hl.1 rfl (by exact Nat.le_of_ble_eq_true rfl) (fh_d d_Ty_setItem 4 rfl) ⟨Nat.le_refl _, Nat.le_refl _⟩ (fun v9 h9 n9 H locs hq hP hS => ?_)
        obtain ⟨⟨c_37, F_37, W_37, H_37, D_37, ro_37, co_37, C_37, CL_37⟩, e_37⟩ : ∃ z, z = N1 (c0, F, W0, H0, D0, rows, cols, C, CL) i 0 cr := ⟨_, rfl⟩
        obtain ⟨rfl, q_37a, q_37b⟩ := hq
        rw [← e_37] at q_37a
        rw [q_37a, q_37b] at hP
        have o_37 : okT (c_37, F_37, W_37, H_37, D_37, ro_37, co_37, C_37, CL_37) := by rw [e_37]; exact hB1 _ _ _ _ ⟨hc0, hokB⟩ (hi) hoi
        have hc_37 : c_37 ≤ 120 := o_37.1
        have ob_37 : okB C_37 CL_37 := o_37.2
        replace hP : fh_P D fh_cl b (mkR x kA aA (mkG ct x g (nI c_37) F_37 W_37 H_37 D_37 ro_37 co_37) nc lc tx len at_ C_37 R CL_37 RL) n H := hP
        refine W.eq (g2 := F0 m 7 ls []) rfl ?_
        refine lv_aload_n hx hb (fh_d d_Ty_setItem 5 rfl) rfl (lv_at hl 1 rfl) ?_
        refine fh_get (own := "FormulaSetter$Typesetter") (ref := "FormulaSetter$Nucleus") (C := "FormulaSetter$Nucleus") (T := T_Nu) (N := 15) (v := .ref (x + 4 + u)) hx hb hT i_Nu hown hK hP (mkR_nu (hi)) rfl 12 (by decide) (hT _ w74) (fun _ h9 => h9) (by show some (va_rf ((R i 12).map (fun z => x + 4 + z))) = _; rw [h12]; rfl) (fh_d d_Ty_setItem 6 rfl) ?_
        refine lv_ifnonnull (tgt := 22) hx hb (fh_d d_Ty_setItem 7 rfl) rfl ?_
        refine lv_aload_n hx hb (fh_d d_Ty_setItem 12 rfl) rfl (lv_at hl 1 rfl) ?_
        refine fh_get (own := "FormulaSetter$Typesetter") (ref := "FormulaSetter$Nucleus") (C := "FormulaSetter$Nucleus") (T := T_Nu) (N := 15) (v := .ref (x + 4 + u)) hx hb hT i_Nu hown hK hP (mkR_nu (hi)) rfl 12 (by decide) (hT _ w74) (fun _ h9 => h9) (by show some (va_rf ((R i 12).map (fun z => x + 4 + z))) = _; rw [h12]; rfl) (fh_d d_Ty_setItem 13 rfl) ?_
        refine lv_ifnull hx hb (fh_d d_Ty_setItem 14 rfl) ?_
        refine lv_aload_n hx hb (fh_d d_Ty_setItem 15 rfl) rfl (lv_at hl 0 rfl) ?_
        refine lv_aload_n hx hb (fh_d d_Ty_setItem 16 rfl) rfl (lv_at hl 1 rfl) ?_
        refine fh_get (own := "FormulaSetter$Typesetter") (ref := "FormulaSetter$Nucleus") (C := "FormulaSetter$Nucleus") (T := T_Nu) (N := 15) (v := .ref (x + 4 + u)) hx hb hT i_Nu hown hK hP (mkR_nu (hi)) rfl 12 (by decide) (hT _ w74) (fun _ h9 => h9) (by show some (va_rf ((R i 12).map (fun z => x + 4 + z))) = _; rw [h12]; rfl) (fh_d d_Ty_setItem 17 rfl) ?_
        refine lv_aload_n hx hb (fh_d d_Ty_setItem 18 rfl) rfl (lv_at hl 2 rfl) ?_
        refine fh_callV (cc' := c_Sy_forScripts) (nL' := 1) (rest := [.ref (x + 4 + u), .ref (x + 226)]) (a := yA 0) (As := []) X hR (m_Sy_forScripts l D ct b RO hR sA sV hSt kA aA yA tK tS tM hEn hAd (r - 1) n 0 (by decide) (by omega) (mkR x kA aA (mkG ct x g (nI c_37) F_37 W_37 H_37 D_37 ro_37 co_37) nc lc tx len at_ C_37 R CL_37 RL)) w796 w793 w794 w795 w24 ⟨by decide, by decide, by show _ = some 0; decide +kernel⟩ (by omega) (by decide) (fs_recv ((hEn _ hRO).2.2.1 0 (by decide)).2.1 hS) hP hS hl.1 rfl (by exact Nat.le_of_ble_eq_true rfl) (fh_d d_Ty_setItem 19 rfl) ⟨Nat.le_refl _, Nat.le_refl _⟩ (fun v9 h9 n9 H locs hq hP hS => ?_)
        obtain ⟨rfl, q40a, q40b⟩ := hq
        rw [q40a, q40b] at hP
        refine W.eq (g2 := F0 m 38 ls [.ref (yA (ySc 0)), .ref (x + 4 + u), .ref (x + 226)]) rfl ?_
        refine lv_iload_n hx hb (fh_d d_Ty_setItem 20 rfl) rfl (lv_at hl 3 rfl) ?_
        refine fh_callV (cc' := c_Ty_setNucleus) (nL' := 4) (rest := []) (a := x + 226) (As := [.ref (x + 4 + u), .ref (yA (ySc 0)), .int (nI cr)]) X hR (hN1 (r - 1) (by omega) (c_37, F_37, W_37, H_37, D_37, ro_37, co_37, C_37, CL_37) ⟨hc_37, ob_37⟩ u (ySc 0) cr (hu) hou ySc_lt hcr) w663 w660 w662 v19 w6 ⟨by decide, by decide, by show _ = some 3; decide +kernel⟩ (by omega) (by decide) (fh_recv hK hP ((mkR_g (by omega) (by omega) (by omega)).trans mkG_ts) rfl) hP hS hl.1 rfl (by exact Nat.le_of_ble_eq_true rfl) (fh_d d_Ty_setItem 21 rfl) ⟨Nat.le_refl _, Nat.le_refl _⟩ (fun v9 h9 n9 H locs hq hP hS => ?_)
        obtain ⟨⟨c_41, F_41, W_41, H_41, D_41, ro_41, co_41, C_41, CL_41⟩, e_41⟩ : ∃ z, z = N1 (c_37, F_37, W_37, H_37, D_37, ro_37, co_37, C_37, CL_37) u (ySc 0) cr := ⟨_, rfl⟩
        obtain ⟨rfl, q_41a, q_41b⟩ := hq
        rw [← e_41] at q_41a
        rw [q_41a, q_41b] at hP
        have o_41 : okT (c_41, F_41, W_41, H_41, D_41, ro_41, co_41, C_41, CL_41) := by rw [e_41]; exact hB1 _ _ _ _ ⟨hc_37, ob_37⟩ (hu) hou
        have hc_41 : c_41 ≤ 120 := o_41.1
        have ob_41 : okB C_41 CL_41 := o_41.2
        replace hP : fh_P D fh_cl b (mkR x kA aA (mkG ct x g (nI c_41) F_41 W_41 H_41 D_41 ro_41 co_41) nc lc tx len at_ C_41 R CL_41 RL) n H := hP
        refine W.eq (g2 := F0 m 42 ls []) rfl ?_
        refine lv_aload_n hx hb (fh_d d_Ty_setItem 22 rfl) rfl (lv_at hl 1 rfl) ?_
        refine fh_get (own := "FormulaSetter$Typesetter") (ref := "FormulaSetter$Nucleus") (C := "FormulaSetter$Nucleus") (T := T_Nu) (N := 15) (v := .ref (x + 4 + v2)) hx hb hT i_Nu hown hK hP (mkR_nu (hi)) rfl 13 (by decide) (hT _ w77) (fun _ h9 => h9) (by show some (va_rf ((R i 13).map (fun z => x + 4 + z))) = _; rw [h13]; rfl) (fh_d d_Ty_setItem 23 rfl) ?_
        refine lv_ifnull hx hb (fh_d d_Ty_setItem 24 rfl) ?_
        refine lv_aload_n hx hb (fh_d d_Ty_setItem 25 rfl) rfl (lv_at hl 0 rfl) ?_
        refine lv_aload_n hx hb (fh_d d_Ty_setItem 26 rfl) rfl (lv_at hl 1 rfl) ?_
        refine fh_get (own := "FormulaSetter$Typesetter") (ref := "FormulaSetter$Nucleus") (C := "FormulaSetter$Nucleus") (T := T_Nu) (N := 15) (v := .ref (x + 4 + v2)) hx hb hT i_Nu hown hK hP (mkR_nu (hi)) rfl 13 (by decide) (hT _ w77) (fun _ h9 => h9) (by show some (va_rf ((R i 13).map (fun z => x + 4 + z))) = _; rw [h13]; rfl) (fh_d d_Ty_setItem 27 rfl) ?_
        refine lv_aload_n hx hb (fh_d d_Ty_setItem 28 rfl) rfl (lv_at hl 2 rfl) ?_
        refine fh_callV (cc' := c_Sy_forScripts) (nL' := 1) (rest := [.ref (x + 4 + v2), .ref (x + 226)]) (a := yA 0) (As := []) X hR (m_Sy_forScripts l D ct b RO hR sA sV hSt kA aA yA tK tS tM hEn hAd (r - 1) n 0 (by decide) (by omega) (mkR x kA aA (mkG ct x g (nI c_41) F_41 W_41 H_41 D_41 ro_41 co_41) nc lc tx len at_ C_41 R CL_41 RL)) w796 w793 w794 w795 w24 ⟨by decide, by decide, by show _ = some 0; decide +kernel⟩ (by omega) (by decide) (fs_recv ((hEn _ hRO).2.2.1 0 (by decide)).2.1 hS) hP hS hl.1 rfl (by exact Nat.le_of_ble_eq_true rfl) (fh_d d_Ty_setItem 29 rfl) ⟨Nat.le_refl _, Nat.le_refl _⟩ (fun v9 h9 n9 H locs hq hP hS => ?_)
        obtain ⟨rfl, q43a, q43b⟩ := hq
        rw [q43a, q43b] at hP
        refine W.eq (g2 := F0 m 58 ls [.ref (yA (ySc 0)), .ref (x + 4 + v2), .ref (x + 226)]) rfl ?_
        refine lv_iconst (v := 1) hx hb (fh_d d_Ty_setItem 30 rfl) (by decide) ?_
        refine W.eq (g2 := F0 m 59 ls [.int (nI 1), .ref (yA (ySc 0)), .ref (x + 4 + v2), .ref (x + 226)]) rfl ?_
        refine fh_callV (cc' := c_Ty_setNucleus) (nL' := 4) (rest := []) (a := x + 226) (As := [.ref (x + 4 + v2), .ref (yA (ySc 0)), .int (nI 1)]) X hR (hN1 (r - 1) (by omega) (c_41, F_41, W_41, H_41, D_41, ro_41, co_41, C_41, CL_41) ⟨hc_41, ob_41⟩ v2 (ySc 0) 1 (hv2) hov ySc_lt (by omega)) w663 w660 w662 v19 w6 ⟨by decide, by decide, by show _ = some 3; decide +kernel⟩ (by omega) (by decide) (fh_recv hK hP ((mkR_g (by omega) (by omega) (by omega)).trans mkG_ts) rfl) hP hS hl.1 rfl (by exact Nat.le_of_ble_eq_true rfl) (fh_d d_Ty_setItem 31 rfl) ⟨Nat.le_refl _, Nat.le_refl _⟩ (fun v9 h9 n9 H locs hq hP hS => ?_)
        obtain ⟨⟨c_44, F_44, W_44, H_44, D_44, ro_44, co_44, C_44, CL_44⟩, e_44⟩ : ∃ z, z = N1 (c_41, F_41, W_41, H_41, D_41, ro_41, co_41, C_41, CL_41) v2 (ySc 0) 1 := ⟨_, rfl⟩
        obtain ⟨rfl, q_44a, q_44b⟩ := hq
        rw [← e_44] at q_44a
        rw [q_44a, q_44b] at hP
        have o_44 : okT (c_44, F_44, W_44, H_44, D_44, ro_44, co_44, C_44, CL_44) := by rw [e_44]; exact hB1 _ _ _ _ ⟨hc_41, ob_41⟩ (hv2) hov
        have hc_44 : c_44 ≤ 120 := o_44.1
        have ob_44 : okB C_44 CL_44 := o_44.2
        replace hP : fh_P D fh_cl b (mkR x kA aA (mkG ct x g (nI c_44) F_44 W_44 H_44 D_44 ro_44 co_44) nc lc tx len at_ C_44 R CL_44 RL) n H := hP
        refine W.eq (g2 := F0 m 62 ls []) rfl ?_
        refine lv_aload_n hx hb (fh_d d_Ty_setItem 32 rfl) rfl (lv_at hl 2 rfl) ?_
        refine va_gets (own := "FormulaSetter$Typesetter") (ref := "FormulaSetter$Style") (n := "DISPLAY") hx hb ((hEn _ hRO).2.2.1 0 (by decide)).1 hS hown (hT _ w702) (fun _ h9 => h9) (fh_d d_Ty_setItem 33 rfl) ?_
        refine lv_acmp_ne (rx := some (yA 0)) (ry := some (yA 0)) (tgt := 88) hx hb (fh_d d_Ty_setItem 34 rfl) rfl (fun c45 => absurd c45 (Classical.not_not.mpr rfl)) (fun c45 => ?_)
        refine lv_aload_n hx hb (fh_d d_Ty_setItem 35 rfl) rfl (lv_at hl 1 rfl) ?_
        refine fh_get (own := "FormulaSetter$Typesetter") (ref := "FormulaSetter$Nucleus") (C := "FormulaSetter$Nucleus") (T := T_Nu) (N := 15) (v := .ref (kA k0)) hx hb hT i_Nu hown hK hP (mkR_nu (hi)) rfl 5 (by decide) (hT _ w52) (fun _ h9 => h9) (by show some (va_rf ((R i 5).map kA)) = _; rw [h5]; rfl) (fh_d d_Ty_setItem 36 rfl) ?_
        refine fh_callV (cc' := c_Ki_takesLimits) (nL' := 1) (rest := []) (a := kA k0) (As := []) X hR (m_Ki_takesLimits l D ct b RO sA sV hSt kA aA yA tK tS tM hEn hAd (r - 1) n k0 hk0 (mkR x kA aA (mkG ct x g (nI c_44) F_44 W_44 H_44 D_44 ro_44 co_44) nc lc tx len at_ C_44 R CL_44 RL)) w804 w801 w802 w803 w21 ⟨by decide, by decide, by show _ = some 0; decide +kernel⟩ (by omega) (by decide) (fs_recv ((hEn _ hRO).1 k0 hk0).2.1 hS) hP hS hl.1 rfl (by exact Nat.le_of_ble_eq_true rfl) (fh_d d_Ty_setItem 37 rfl) ⟨Nat.le_refl _, Nat.le_refl _⟩ (fun v9 h9 n9 H locs hq hP hS => ?_)
        obtain ⟨rfl, q46a, q46b⟩ := hq
        rw [q46a, q46b] at hP
        refine W.eq (g2 := F0 m 76 ls [.int (if k0 = 2 ∨ k0 = 3 then 1 else 0)]) rfl ?_
        by_cases hk23 : k0 = 2 ∨ k0 = 3
        · rw [if_pos hk23]
          refine lv_if_eq (tgt := 88) hx hb (fh_d d_Ty_setItem 38 rfl) rfl (fun c47 => absurd c47 (by decide)) (fun c47 => ?_)
          refine lv_aload_n hx hb (fh_d d_Ty_setItem 39 rfl) rfl (lv_at hl 0 rfl) ?_
          refine lv_aload_n hx hb (fh_d d_Ty_setItem 40 rfl) rfl (lv_at hl 1 rfl) ?_
          refine lv_aload_n hx hb (fh_d d_Ty_setItem 41 rfl) rfl (lv_at hl 2 rfl) ?_
          refine fh_callV (cc' := c_Ty_placeLimits) (nL' := 10) (rest := []) (a := x + 226) (As := [.ref (x + 4 + i), .ref (yA 0)]) X hR (m_Ty_placeLimits l D ct b RO hR sA sV hSt kA aA yA tK tS tM hEn hAd n x g c_44 hc_44 F_44 W_44 H_44 D_44 ro_44 co_44 nc lc tx len at_ C_44 R CL_44 RL ob_44 (r - 1) (by omega) i 0 hi (by decide) (fun z hz9 => (hu12 z hz9).1) (fun z hz9 => (hu13 z hz9).1)) w812 w809 w811 v30 w6 ⟨by decide, by decide, by show _ = some 2; decide +kernel⟩ (by omega) (by decide) (fh_recv hK hP ((mkR_g (by omega) (by omega) (by omega)).trans mkG_ts) rfl) hP hS hl.1 rfl (by exact Nat.le_of_ble_eq_true rfl) (fh_d d_Ty_setItem 42 rfl) ⟨Nat.le_refl _, Nat.le_refl _⟩ (fun v9 h9 n9 H locs hq hP hS => ?_)
          obtain ⟨⟨c_48, F_48, W_48, H_48, D_48, ro_48, co_48, C_48, CL_48⟩, e_48⟩ : ∃ z, z = sLim R i 0 (c_44, F_44, W_44, H_44, D_44, ro_44, co_44, C_44, CL_44) := ⟨_, rfl⟩
          obtain ⟨rfl, q_48a, q_48b⟩ := hq
          rw [← e_48] at q_48a
          rw [q_48a, q_48b] at hP
          have o_48 : okT (c_48, F_48, W_48, H_48, D_48, ro_48, co_48, C_48, CL_48) := by rw [e_48]; exact sLim_ok ⟨hc_44, ob_44⟩
          have hc_48 : c_48 ≤ 120 := o_48.1
          have ob_48 : okB C_48 CL_48 := o_48.2
          replace hP : fh_P D fh_cl b (mkR x kA aA (mkG ct x g (nI c_48) F_48 W_48 H_48 D_48 ro_48 co_48) nc lc tx len at_ C_48 R CL_48 RL) n H := hP
          refine W.eq (g2 := F0 m 85 ls []) rfl ?_
          refine lv_goto (tgt := 95) hx hb (fh_d d_Ty_setItem 43 rfl) rfl ?_
          refine lv_aload_n hx hb (fh_d d_Ty_setItem 49 rfl) rfl (lv_at hl 1 rfl) ?_
          refine lv_aload_n hx hb (fh_d d_Ty_setItem 50 rfl) rfl (lv_at hl 0 rfl) ?_
          refine fh_get (own := "FormulaSetter$Typesetter") (ref := "FormulaSetter$Typesetter") (C := "FormulaSetter$Typesetter") (T := T_Ty) (N := 2) (v := .ref (x + 227)) hx hb hT i_Ty hown hK hP ((mkR_g (by omega) (by omega) (by omega)).trans mkG_ts) rfl 0 (by decide) (hT _ w247) (fun _ h9 => h9) rfl (fh_d d_Ty_setItem 51 rfl) ?_
          refine fh_get (own := "FormulaSetter$Typesetter") (ref := "FormulaSetter$Sheet") (C := "FormulaSetter$Sheet") (T := T_Sh) (N := 2) (v := .int (nI c_48)) hx hb hT i_Sh hown hK hP ((mkR_g (by omega) (by omega) (by omega)).trans mkG_sh) rfl 1 (by decide) (hT _ w217) (fun _ h9 => h9) rfl (fh_d d_Ty_setItem 52 rfl) ?_
          refine fh_put (own := "FormulaSetter$Typesetter") (ref := "FormulaSetter$Nucleus") (C := "FormulaSetter$Nucleus") (T := T_Nu) (N := 15) (v := .int (nI c_48)) (ty := .int) hx hb hT i_Nu t_Nu k_Nu n_Nu hown hK hP hS (mkR_nu (hi)) rfl 4 (by decide) (hT _ w111) (fun x9 h9 => u_same (hT _ w112) x9 h9) rfl (by decide +kernel) rfl rfl (Nat.le_of_ble_eq_true rfl) (fh_d d_Ty_setItem 53 rfl) (fun H locs hP hS => ?_)
          replace hP := fh_P.eq (h' := mkR x kA aA (mkG ct x g (nI c_48) F_48 W_48 H_48 D_48 ro_48 co_48) nc lc tx len at_ (sT C_48 i 4 (nI c_48)) R CL_48 RL) hP (mkR_nu4 (v := nI c_48) (hi))
          have f49 : (sT C_48 i 4 (nI c_48)) i 4 = nI c_48 := sT_same
          have y50 : okB (sT C_48 i 4 (nI c_48)) CL_48 := okB_C ob_48 i 4 (nI c_48) (fun _ => okv_n hc_48)
          refine fh_vret X hP hS (fh_d d_Ty_setItem 54 rfl) ⟨rfl, ?_, rfl⟩
          · unfold sItem; dsimp only; rw [if_neg (fun z => by rw [h12, h13] at z; exact absurd z (by simp)), h12, h13]; dsimp only [Option.elim]; rw [← e_37]; rw [← e_41]; rw [← e_44]; rw [if_pos ⟨rfl, by rw [h5]; exact hk23.elim (fun z => Or.inl (by rw [z])) (fun z => Or.inr (by rw [z]))⟩]; rw [← e_48]; rfl
        · rw [if_neg hk23]
          refine lv_if_eq (tgt := 88) hx hb (fh_d d_Ty_setItem 38 rfl) rfl (fun c51 => ?_) (fun c51 => absurd c51 (Classical.not_not.mpr (by decide)))
          refine lv_aload_n hx hb (fh_d d_Ty_setItem 44 rfl) rfl (lv_at hl 0 rfl) ?_
          refine lv_aload_n hx hb (fh_d d_Ty_setItem 45 rfl) rfl (lv_at hl 1 rfl) ?_
          refine lv_aload_n hx hb (fh_d d_Ty_setItem 46 rfl) rfl (lv_at hl 2 rfl) ?_
          refine lv_iload_n hx hb (fh_d d_Ty_setItem 47 rfl) rfl (lv_at hl 3 rfl) ?_
          refine fh_callV (cc' := c_Ty_placeScripts) (nL' := 12) (rest := []) (a := x + 226) (As := [.ref (x + 4 + i), .ref (yA 0), .int (nI cr)]) X hR (m_Ty_placeScripts l D ct b RO hR sA sV hSt kA aA yA tK tS tM hEn hAd n x g c_44 hc_44 F_44 W_44 H_44 D_44 ro_44 co_44 nc lc tx len at_ C_44 R CL_44 RL ob_44 (r - 1) (by omega) i 0 cr hi (by decide) hcr k0 hk0 h5 (fun z hz9 => (hu12 z hz9).1) (fun z hz9 => (hu13 z hz9).1)) w816 w813 w815 v31 w6 ⟨by decide, by decide, by show _ = some 3; decide +kernel⟩ (by omega) (by decide) (fh_recv hK hP ((mkR_g (by omega) (by omega) (by omega)).trans mkG_ts) rfl) hP hS hl.1 rfl (by exact Nat.le_of_ble_eq_true rfl) (fh_d d_Ty_setItem 48 rfl) ⟨Nat.le_refl _, Nat.le_refl _⟩ (fun v9 h9 n9 H locs hq hP hS => ?_)
          obtain ⟨⟨c_52, F_52, W_52, H_52, D_52, ro_52, co_52, C_52, CL_52⟩, e_52⟩ : ∃ z, z = sScr R i 0 cr (c_44, F_44, W_44, H_44, D_44, ro_44, co_44, C_44, CL_44) := ⟨_, rfl⟩
          obtain ⟨rfl, q_52a, q_52b⟩ := hq
          rw [← e_52] at q_52a
          rw [q_52a, q_52b] at hP
          have o_52 : okT (c_52, F_52, W_52, H_52, D_52, ro_52, co_52, C_52, CL_52) := by rw [e_52]; exact sScr_ok ⟨hc_44, ob_44⟩
          have hc_52 : c_52 ≤ 120 := o_52.1
          have ob_52 : okB C_52 CL_52 := o_52.2
          replace hP : fh_P D fh_cl b (mkR x kA aA (mkG ct x g (nI c_52) F_52 W_52 H_52 D_52 ro_52 co_52) nc lc tx len at_ C_52 R CL_52 RL) n H := hP
          refine W.eq (g2 := F0 m 95 ls []) rfl ?_
          refine lv_aload_n hx hb (fh_d d_Ty_setItem 49 rfl) rfl (lv_at hl 1 rfl) ?_
          refine lv_aload_n hx hb (fh_d d_Ty_setItem 50 rfl) rfl (lv_at hl 0 rfl) ?_
          refine fh_get (own := "FormulaSetter$Typesetter") (ref := "FormulaSetter$Typesetter") (C := "FormulaSetter$Typesetter") (T := T_Ty) (N := 2) (v := .ref (x + 227)) hx hb hT i_Ty hown hK hP ((mkR_g (by omega) (by omega) (by omega)).trans mkG_ts) rfl 0 (by decide) (hT _ w247) (fun _ h9 => h9) rfl (fh_d d_Ty_setItem 51 rfl) ?_
          refine fh_get (own := "FormulaSetter$Typesetter") (ref := "FormulaSetter$Sheet") (C := "FormulaSetter$Sheet") (T := T_Sh) (N := 2) (v := .int (nI c_52)) hx hb hT i_Sh hown hK hP ((mkR_g (by omega) (by omega) (by omega)).trans mkG_sh) rfl 1 (by decide) (hT _ w217) (fun _ h9 => h9) rfl (fh_d d_Ty_setItem 52 rfl) ?_
          refine fh_put (own := "FormulaSetter$Typesetter") (ref := "FormulaSetter$Nucleus") (C := "FormulaSetter$Nucleus") (T := T_Nu) (N := 15) (v := .int (nI c_52)) (ty := .int) hx hb hT i_Nu t_Nu k_Nu n_Nu hown hK hP hS (mkR_nu (hi)) rfl 4 (by decide) (hT _ w111) (fun x9 h9 => u_same (hT _ w112) x9 h9) rfl (by decide +kernel) rfl rfl (Nat.le_of_ble_eq_true rfl) (fh_d d_Ty_setItem 53 rfl) (fun H locs hP hS => ?_)
          replace hP := fh_P.eq (h' := mkR x kA aA (mkG ct x g (nI c_52) F_52 W_52 H_52 D_52 ro_52 co_52) nc lc tx len at_ (sT C_52 i 4 (nI c_52)) R CL_52 RL) hP (mkR_nu4 (v := nI c_52) (hi))
          have f53 : (sT C_52 i 4 (nI c_52)) i 4 = nI c_52 := sT_same
          have y54 : okB (sT C_52 i 4 (nI c_52)) CL_52 := okB_C ob_52 i 4 (nI c_52) (fun _ => okv_n hc_52)
          refine fh_vret X hP hS (fh_d d_Ty_setItem 54 rfl) ⟨rfl, ?_, rfl⟩
          · unfold sItem; dsimp only; rw [if_neg (fun z => by rw [h12, h13] at z; exact absurd z (by simp)), h12, h13]; dsimp only [Option.elim]; rw [← e_37]; rw [← e_41]; rw [← e_44]; rw [if_neg (fun z => hk23 (by rw [h5] at z; exact z.2.elim (fun y => Or.inl (Option.some.inj y)) (fun y => Or.inr (Option.some.inj y))))]; rw [← e_52]; rfl
  · skip
    obtain ⟨o12, h12⟩ : ∃ z, R i 12 = z := ⟨_, rfl⟩
    obtain ⟨o13, h13⟩ : ∃ z, R i 13 = z := ⟨_, rfl⟩
    rcases o12 with _ | u
    · have hu : True := trivial
      rcases o13 with _ | v2
      · have hv2 : True := trivial
        have hou : True := trivial
        have hov : True := trivial
        refine lv_aload_n hx hb (fh_d d_Ty_setItem 0 rfl) rfl (lv_at hl 0 rfl) ?_
        refine lv_aload_n hx hb (fh_d d_Ty_setItem 1 rfl) rfl (lv_at hl 1 rfl) ?_
        refine lv_aload_n hx hb (fh_d d_Ty_setItem 2 rfl) rfl (lv_at hl 2 rfl) ?_
        refine lv_iload_n hx hb (fh_d d_Ty_setItem 3 rfl) rfl (lv_at hl 3 rfl) ?_
        refine fh_callV (cc' := c_Ty_setNucleus) (nL' := 4) (rest := []) (a := x + 226) (As := [.ref (x + 4 + i), .ref (yA si), .int (nI cr)]) X hR (hN1 (r - 1) (by omega) (c0, F, W0, H0, D0, rows, cols, C, CL) ⟨hc0, hokB⟩ i si cr (hi) hoi hsi hcr) w663 w660 w662 v19 w6 ⟨by decide, by decide, by show _ = some 3; decide +kernel⟩ (by omega) (by decide) (fh_recv hK hP ((mkR_g (by omega) (by omega) (by omega)).trans mkG_ts) rfl) hP hS hl.1 rfl (by exact Nat.le_of_ble_eq_true rfl) (fh_d d_Ty_setItem 4 rfl) ⟨Nat.le_refl _, Nat.le_refl _⟩ (fun v9 h9 n9 H locs hq hP hS => ?_)
        obtain ⟨⟨c_55, F_55, W_55, H_55, D_55, ro_55, co_55, C_55, CL_55⟩, e_55⟩ : ∃ z, z = N1 (c0, F, W0, H0, D0, rows, cols, C, CL) i si cr := ⟨_, rfl⟩
        obtain ⟨rfl, q_55a, q_55b⟩ := hq
        rw [← e_55] at q_55a
        rw [q_55a, q_55b] at hP
        have o_55 : okT (c_55, F_55, W_55, H_55, D_55, ro_55, co_55, C_55, CL_55) := by rw [e_55]; exact hB1 _ _ _ _ ⟨hc0, hokB⟩ (hi) hoi
        have hc_55 : c_55 ≤ 120 := o_55.1
        have ob_55 : okB C_55 CL_55 := o_55.2
        replace hP : fh_P D fh_cl b (mkR x kA aA (mkG ct x g (nI c_55) F_55 W_55 H_55 D_55 ro_55 co_55) nc lc tx len at_ C_55 R CL_55 RL) n H := hP
        refine W.eq (g2 := F0 m 7 ls []) rfl ?_
        refine lv_aload_n hx hb (fh_d d_Ty_setItem 5 rfl) rfl (lv_at hl 1 rfl) ?_
        refine fh_get (own := "FormulaSetter$Typesetter") (ref := "FormulaSetter$Nucleus") (C := "FormulaSetter$Nucleus") (T := T_Nu) (N := 15) (v := .null) hx hb hT i_Nu hown hK hP (mkR_nu (hi)) rfl 12 (by decide) (hT _ w74) (fun _ h9 => h9) (by show some (va_rf ((R i 12).map (fun z => x + 4 + z))) = _; rw [h12]; rfl) (fh_d d_Ty_setItem 6 rfl) ?_
        refine lv_ifnonnullN hx hb (fh_d d_Ty_setItem 7 rfl) ?_
        refine lv_aload_n hx hb (fh_d d_Ty_setItem 8 rfl) rfl (lv_at hl 1 rfl) ?_
        refine fh_get (own := "FormulaSetter$Typesetter") (ref := "FormulaSetter$Nucleus") (C := "FormulaSetter$Nucleus") (T := T_Nu) (N := 15) (v := .null) hx hb hT i_Nu hown hK hP (mkR_nu (hi)) rfl 13 (by decide) (hT _ w77) (fun _ h9 => h9) (by show some (va_rf ((R i 13).map (fun z => x + 4 + z))) = _; rw [h13]; rfl) (fh_d d_Ty_setItem 9 rfl) ?_
        refine lv_ifnonnullN hx hb (fh_d d_Ty_setItem 10 rfl) ?_
        refine fh_vret X hP hS (fh_d d_Ty_setItem 11 rfl) ⟨rfl, ?_, rfl⟩
        · unfold sItem; dsimp only; rw [if_pos ⟨h12, h13⟩, ← e_55]; rfl
      · have hv2 := (hu13 v2 h13).1
        have hou : True := trivial
        have hov := (hu13 v2 h13).2
        refine lv_aload_n hx hb (fh_d d_Ty_setItem 0 rfl) rfl (lv_at hl 0 rfl) ?_
        refine lv_aload_n hx hb (fh_d d_Ty_setItem 1 rfl) rfl (lv_at hl 1 rfl) ?_
        refine lv_aload_n hx hb (fh_d d_Ty_setItem 2 rfl) rfl (lv_at hl 2 rfl) ?_
        refine lv_iload_n hx hb (fh_d d_Ty_setItem 3 rfl) rfl (lv_at hl 3 rfl) ?_
        refine fh_callV (cc' := c_Ty_setNucleus) (nL' := 4) (rest := []) (a := x + 226) (As := [.ref (x + 4 + i), .ref (yA si), .int (nI cr)]) X hR (hN1 (r - 1) (by omega) (c0, F, W0, H0, D0, rows, cols, C, CL) ⟨hc0, hokB⟩ i si cr (hi) hoi hsi hcr) w663 w660 w662 v19 w6 ⟨by decide, by decide, by show _ = some 3; decide +kernel⟩ (by omega) (by decide) (fh_recv hK hP ((mkR_g (by omega) (by omega) (by omega)).trans mkG_ts) rfl) hP hS hl.1 rfl (by exact Nat.le_of_ble_eq_true rfl) (fh_d d_Ty_setItem 4 rfl) ⟨Nat.le_refl _, Nat.le_refl _⟩ (fun v9 h9 n9 H locs hq hP hS => ?_)
        obtain ⟨⟨c_58, F_58, W_58, H_58, D_58, ro_58, co_58, C_58, CL_58⟩, e_58⟩ : ∃ z, z = N1 (c0, F, W0, H0, D0, rows, cols, C, CL) i si cr := ⟨_, rfl⟩
        obtain ⟨rfl, q_58a, q_58b⟩ := hq
        rw [← e_58] at q_58a
        rw [q_58a, q_58b] at hP
        have o_58 : okT (c_58, F_58, W_58, H_58, D_58, ro_58, co_58, C_58, CL_58) := by rw [e_58]; exact hB1 _ _ _ _ ⟨hc0, hokB⟩ (hi) hoi
        have hc_58 : c_58 ≤ 120 := o_58.1
        have ob_58 : okB C_58 CL_58 := o_58.2
        replace hP : fh_P D fh_cl b (mkR x kA aA (mkG ct x g (nI c_58) F_58 W_58 H_58 D_58 ro_58 co_58) nc lc tx len at_ C_58 R CL_58 RL) n H := hP
        refine W.eq (g2 := F0 m 7 ls []) rfl ?_
        refine lv_aload_n hx hb (fh_d d_Ty_setItem 5 rfl) rfl (lv_at hl 1 rfl) ?_
        refine fh_get (own := "FormulaSetter$Typesetter") (ref := "FormulaSetter$Nucleus") (C := "FormulaSetter$Nucleus") (T := T_Nu) (N := 15) (v := .null) hx hb hT i_Nu hown hK hP (mkR_nu (hi)) rfl 12 (by decide) (hT _ w74) (fun _ h9 => h9) (by show some (va_rf ((R i 12).map (fun z => x + 4 + z))) = _; rw [h12]; rfl) (fh_d d_Ty_setItem 6 rfl) ?_
        refine lv_ifnonnullN hx hb (fh_d d_Ty_setItem 7 rfl) ?_
        refine lv_aload_n hx hb (fh_d d_Ty_setItem 8 rfl) rfl (lv_at hl 1 rfl) ?_
        refine fh_get (own := "FormulaSetter$Typesetter") (ref := "FormulaSetter$Nucleus") (C := "FormulaSetter$Nucleus") (T := T_Nu) (N := 15) (v := .ref (x + 4 + v2)) hx hb hT i_Nu hown hK hP (mkR_nu (hi)) rfl 13 (by decide) (hT _ w77) (fun _ h9 => h9) (by show some (va_rf ((R i 13).map (fun z => x + 4 + z))) = _; rw [h13]; rfl) (fh_d d_Ty_setItem 9 rfl) ?_
        refine lv_ifnonnull (tgt := 22) hx hb (fh_d d_Ty_setItem 10 rfl) rfl ?_
        refine lv_aload_n hx hb (fh_d d_Ty_setItem 12 rfl) rfl (lv_at hl 1 rfl) ?_
        refine fh_get (own := "FormulaSetter$Typesetter") (ref := "FormulaSetter$Nucleus") (C := "FormulaSetter$Nucleus") (T := T_Nu) (N := 15) (v := .null) hx hb hT i_Nu hown hK hP (mkR_nu (hi)) rfl 12 (by decide) (hT _ w74) (fun _ h9 => h9) (by show some (va_rf ((R i 12).map (fun z => x + 4 + z))) = _; rw [h12]; rfl) (fh_d d_Ty_setItem 13 rfl) ?_
        refine lv_ifnullN (tgt := 42) hx hb (fh_d d_Ty_setItem 14 rfl) rfl ?_
        refine lv_aload_n hx hb (fh_d d_Ty_setItem 22 rfl) rfl (lv_at hl 1 rfl) ?_
        refine fh_get (own := "FormulaSetter$Typesetter") (ref := "FormulaSetter$Nucleus") (C := "FormulaSetter$Nucleus") (T := T_Nu) (N := 15) (v := .ref (x + 4 + v2)) hx hb hT i_Nu hown hK hP (mkR_nu (hi)) rfl 13 (by decide) (hT _ w77) (fun _ h9 => h9) (by show some (va_rf ((R i 13).map (fun z => x + 4 + z))) = _; rw [h13]; rfl) (fh_d d_Ty_setItem 23 rfl) ?_
        refine lv_ifnull hx hb (fh_d d_Ty_setItem 24 rfl) ?_
        refine lv_aload_n hx hb (fh_d d_Ty_setItem 25 rfl) rfl (lv_at hl 0 rfl) ?_
        refine lv_aload_n hx hb (fh_d d_Ty_setItem 26 rfl) rfl (lv_at hl 1 rfl) ?_
        refine fh_get (own := "FormulaSetter$Typesetter") (ref := "FormulaSetter$Nucleus") (C := "FormulaSetter$Nucleus") (T := T_Nu) (N := 15) (v := .ref (x + 4 + v2)) hx hb hT i_Nu hown hK hP (mkR_nu (hi)) rfl 13 (by decide) (hT _ w77) (fun _ h9 => h9) (by show some (va_rf ((R i 13).map (fun z => x + 4 + z))) = _; rw [h13]; rfl) (fh_d d_Ty_setItem 27 rfl) ?_
        refine lv_aload_n hx hb (fh_d d_Ty_setItem 28 rfl) rfl (lv_at hl 2 rfl) ?_
        refine fh_callV (cc' := c_Sy_forScripts) (nL' := 1) (rest := [.ref (x + 4 + v2), .ref (x + 226)]) (a := yA si) (As := []) X hR (m_Sy_forScripts l D ct b RO hR sA sV hSt kA aA yA tK tS tM hEn hAd (r - 1) n si hsi (by omega) (mkR x kA aA (mkG ct x g (nI c_58) F_58 W_58 H_58 D_58 ro_58 co_58) nc lc tx len at_ C_58 R CL_58 RL)) w796 w793 w794 w795 w24 ⟨by decide, by decide, by show _ = some 0; decide +kernel⟩ (by omega) (by decide) (fs_recv ((hEn _ hRO).2.2.1 si hsi).2.1 hS) hP hS hl.1 rfl (by exact Nat.le_of_ble_eq_true rfl) (fh_d d_Ty_setItem 29 rfl) ⟨Nat.le_refl _, Nat.le_refl _⟩ (fun v9 h9 n9 H locs hq hP hS => ?_)
        obtain ⟨rfl, q63a, q63b⟩ := hq
        rw [q63a, q63b] at hP
        refine W.eq (g2 := F0 m 58 ls [.ref (yA (ySc si)), .ref (x + 4 + v2), .ref (x + 226)]) rfl ?_
        refine lv_iconst (v := 1) hx hb (fh_d d_Ty_setItem 30 rfl) (by decide) ?_
        refine W.eq (g2 := F0 m 59 ls [.int (nI 1), .ref (yA (ySc si)), .ref (x + 4 + v2), .ref (x + 226)]) rfl ?_
        refine fh_callV (cc' := c_Ty_setNucleus) (nL' := 4) (rest := []) (a := x + 226) (As := [.ref (x + 4 + v2), .ref (yA (ySc si)), .int (nI 1)]) X hR (hN1 (r - 1) (by omega) (c_58, F_58, W_58, H_58, D_58, ro_58, co_58, C_58, CL_58) ⟨hc_58, ob_58⟩ v2 (ySc si) 1 (hv2) hov ySc_lt (by omega)) w663 w660 w662 v19 w6 ⟨by decide, by decide, by show _ = some 3; decide +kernel⟩ (by omega) (by decide) (fh_recv hK hP ((mkR_g (by omega) (by omega) (by omega)).trans mkG_ts) rfl) hP hS hl.1 rfl (by exact Nat.le_of_ble_eq_true rfl) (fh_d d_Ty_setItem 31 rfl) ⟨Nat.le_refl _, Nat.le_refl _⟩ (fun v9 h9 n9 H locs hq hP hS => ?_)
        obtain ⟨⟨c_64, F_64, W_64, H_64, D_64, ro_64, co_64, C_64, CL_64⟩, e_64⟩ : ∃ z, z = N1 (c_58, F_58, W_58, H_58, D_58, ro_58, co_58, C_58, CL_58) v2 (ySc si) 1 := ⟨_, rfl⟩
        obtain ⟨rfl, q_64a, q_64b⟩ := hq
        rw [← e_64] at q_64a
        rw [q_64a, q_64b] at hP
        have o_64 : okT (c_64, F_64, W_64, H_64, D_64, ro_64, co_64, C_64, CL_64) := by rw [e_64]; exact hB1 _ _ _ _ ⟨hc_58, ob_58⟩ (hv2) hov
        have hc_64 : c_64 ≤ 120 := o_64.1
        have ob_64 : okB C_64 CL_64 := o_64.2
        replace hP : fh_P D fh_cl b (mkR x kA aA (mkG ct x g (nI c_64) F_64 W_64 H_64 D_64 ro_64 co_64) nc lc tx len at_ C_64 R CL_64 RL) n H := hP
        refine W.eq (g2 := F0 m 62 ls []) rfl ?_
        refine lv_aload_n hx hb (fh_d d_Ty_setItem 32 rfl) rfl (lv_at hl 2 rfl) ?_
        refine va_gets (own := "FormulaSetter$Typesetter") (ref := "FormulaSetter$Style") (n := "DISPLAY") hx hb ((hEn _ hRO).2.2.1 0 (by decide)).1 hS hown (hT _ w702) (fun _ h9 => h9) (fh_d d_Ty_setItem 33 rfl) ?_
        refine lv_acmp_ne (rx := some (yA si)) (ry := some (yA 0)) (tgt := 88) hx hb (fh_d d_Ty_setItem 34 rfl) rfl (fun c65 => ?_) (fun c65 => absurd c65 (fun z => hs0 (hAd.2.2 _ _ hsi (by decide) (Option.some.inj z))))
        refine lv_aload_n hx hb (fh_d d_Ty_setItem 44 rfl) rfl (lv_at hl 0 rfl) ?_
        refine lv_aload_n hx hb (fh_d d_Ty_setItem 45 rfl) rfl (lv_at hl 1 rfl) ?_
        refine lv_aload_n hx hb (fh_d d_Ty_setItem 46 rfl) rfl (lv_at hl 2 rfl) ?_
        refine lv_iload_n hx hb (fh_d d_Ty_setItem 47 rfl) rfl (lv_at hl 3 rfl) ?_
        refine fh_callV (cc' := c_Ty_placeScripts) (nL' := 12) (rest := []) (a := x + 226) (As := [.ref (x + 4 + i), .ref (yA si), .int (nI cr)]) X hR (m_Ty_placeScripts l D ct b RO hR sA sV hSt kA aA yA tK tS tM hEn hAd n x g c_64 hc_64 F_64 W_64 H_64 D_64 ro_64 co_64 nc lc tx len at_ C_64 R CL_64 RL ob_64 (r - 1) (by omega) i si cr hi hsi hcr k0 hk0 h5 (fun z hz9 => (hu12 z hz9).1) (fun z hz9 => (hu13 z hz9).1)) w816 w813 w815 v31 w6 ⟨by decide, by decide, by show _ = some 3; decide +kernel⟩ (by omega) (by decide) (fh_recv hK hP ((mkR_g (by omega) (by omega) (by omega)).trans mkG_ts) rfl) hP hS hl.1 rfl (by exact Nat.le_of_ble_eq_true rfl) (fh_d d_Ty_setItem 48 rfl) ⟨Nat.le_refl _, Nat.le_refl _⟩ (fun v9 h9 n9 H locs hq hP hS => ?_)
        obtain ⟨⟨c_66, F_66, W_66, H_66, D_66, ro_66, co_66, C_66, CL_66⟩, e_66⟩ : ∃ z, z = sScr R i si cr (c_64, F_64, W_64, H_64, D_64, ro_64, co_64, C_64, CL_64) := ⟨_, rfl⟩
        obtain ⟨rfl, q_66a, q_66b⟩ := hq
        rw [← e_66] at q_66a
        rw [q_66a, q_66b] at hP
        have o_66 : okT (c_66, F_66, W_66, H_66, D_66, ro_66, co_66, C_66, CL_66) := by rw [e_66]; exact sScr_ok ⟨hc_64, ob_64⟩
        have hc_66 : c_66 ≤ 120 := o_66.1
        have ob_66 : okB C_66 CL_66 := o_66.2
        replace hP : fh_P D fh_cl b (mkR x kA aA (mkG ct x g (nI c_66) F_66 W_66 H_66 D_66 ro_66 co_66) nc lc tx len at_ C_66 R CL_66 RL) n H := hP
        refine W.eq (g2 := F0 m 95 ls []) rfl ?_
        refine lv_aload_n hx hb (fh_d d_Ty_setItem 49 rfl) rfl (lv_at hl 1 rfl) ?_
        refine lv_aload_n hx hb (fh_d d_Ty_setItem 50 rfl) rfl (lv_at hl 0 rfl) ?_
        refine fh_get (own := "FormulaSetter$Typesetter") (ref := "FormulaSetter$Typesetter") (C := "FormulaSetter$Typesetter") (T := T_Ty) (N := 2) (v := .ref (x + 227)) hx hb hT i_Ty hown hK hP ((mkR_g (by omega) (by omega) (by omega)).trans mkG_ts) rfl 0 (by decide) (hT _ w247) (fun _ h9 => h9) rfl (fh_d d_Ty_setItem 51 rfl) ?_
        refine fh_get (own := "FormulaSetter$Typesetter") (ref := "FormulaSetter$Sheet") (C := "FormulaSetter$Sheet") (T := T_Sh) (N := 2) (v := .int (nI c_66)) hx hb hT i_Sh hown hK hP ((mkR_g (by omega) (by omega) (by omega)).trans mkG_sh) rfl 1 (by decide) (hT _ w217) (fun _ h9 => h9) rfl (fh_d d_Ty_setItem 52 rfl) ?_
        refine fh_put (own := "FormulaSetter$Typesetter") (ref := "FormulaSetter$Nucleus") (C := "FormulaSetter$Nucleus") (T := T_Nu) (N := 15) (v := .int (nI c_66)) (ty := .int) hx hb hT i_Nu t_Nu k_Nu n_Nu hown hK hP hS (mkR_nu (hi)) rfl 4 (by decide) (hT _ w111) (fun x9 h9 => u_same (hT _ w112) x9 h9) rfl (by decide +kernel) rfl rfl (Nat.le_of_ble_eq_true rfl) (fh_d d_Ty_setItem 53 rfl) (fun H locs hP hS => ?_)
        replace hP := fh_P.eq (h' := mkR x kA aA (mkG ct x g (nI c_66) F_66 W_66 H_66 D_66 ro_66 co_66) nc lc tx len at_ (sT C_66 i 4 (nI c_66)) R CL_66 RL) hP (mkR_nu4 (v := nI c_66) (hi))
        have f67 : (sT C_66 i 4 (nI c_66)) i 4 = nI c_66 := sT_same
        have y68 : okB (sT C_66 i 4 (nI c_66)) CL_66 := okB_C ob_66 i 4 (nI c_66) (fun _ => okv_n hc_66)
        refine fh_vret X hP hS (fh_d d_Ty_setItem 54 rfl) ⟨rfl, ?_, rfl⟩
        · unfold sItem; dsimp only; rw [if_neg (fun z => by rw [h12, h13] at z; exact absurd z (by simp)), h12, h13]; dsimp only [Option.elim]; rw [← e_58]; rw [← e_64]; rw [if_neg (fun z => hs0 z.1)]; rw [← e_66]; rfl
    · have hu := (hu12 u h12).1
      rcases o13 with _ | v2
      · have hv2 : True := trivial
        have hou := (hu12 u h12).2
        have hov : True := trivial
        refine lv_aload_n hx hb (fh_d d_Ty_setItem 0 rfl) rfl (lv_at hl 0 rfl) ?_
        refine lv_aload_n hx hb (fh_d d_Ty_setItem 1 rfl) rfl (lv_at hl 1 rfl) ?_
        refine lv_aload_n hx hb (fh_d d_Ty_setItem 2 rfl) rfl (lv_at hl 2 rfl) ?_
        refine lv_iload_n hx hb (fh_d d_Ty_setItem 3 rfl) rfl (lv_at hl 3 rfl) ?_
        refine fh_callV (cc' := c_Ty_setNucleus) (nL' := 4) (rest := []) (a := x + 226) (As := [.ref (x + 4 + i), .ref (yA si), .int (nI cr)]) X hR (hN1 (r - 1) (by omega) (c0, F, W0, H0, D0, rows, cols, C, CL) ⟨hc0, hokB⟩ i si cr (hi) hoi hsi hcr) w663 w660 w662 v19 w6 ⟨by decide, by decide, by show _ = some 3; decide +kernel⟩ (by omega) (by decide) (fh_recv hK hP ((mkR_g (by omega) (by omega) (by omega)).trans mkG_ts) rfl) hP hS hl.1 rfl (by exact Nat.le_of_ble_eq_true rfl) (fh_d d_Ty_setItem 4 rfl) ⟨Nat.le_refl _, Nat.le_refl _⟩ (fun v9 h9 n9 H locs hq hP hS => ?_)
        obtain ⟨⟨c_69, F_69, W_69, H_69, D_69, ro_69, co_69, C_69, CL_69⟩, e_69⟩ : ∃ z, z = N1 (c0, F, W0, H0, D0, rows, cols, C, CL) i si cr := ⟨_, rfl⟩
        obtain ⟨rfl, q_69a, q_69b⟩ := hq
        rw [← e_69] at q_69a
        rw [q_69a, q_69b] at hP
        have o_69 : okT (c_69, F_69, W_69, H_69, D_69, ro_69, co_69, C_69, CL_69) := by rw [e_69]; exact hB1 _ _ _ _ ⟨hc0, hokB⟩ (hi) hoi
        have hc_69 : c_69 ≤ 120 := o_69.1
        have ob_69 : okB C_69 CL_69 := o_69.2
        replace hP : fh_P D fh_cl b (mkR x kA aA (mkG ct x g (nI c_69) F_69 W_69 H_69 D_69 ro_69 co_69) nc lc tx len at_ C_69 R CL_69 RL) n H := hP
        refine W.eq (g2 := F0 m 7 ls []) rfl ?_
        refine lv_aload_n hx hb (fh_d d_Ty_setItem 5 rfl) rfl (lv_at hl 1 rfl) ?_
        refine fh_get (own := "FormulaSetter$Typesetter") (ref := "FormulaSetter$Nucleus") (C := "FormulaSetter$Nucleus") (T := T_Nu) (N := 15) (v := .ref (x + 4 + u)) hx hb hT i_Nu hown hK hP (mkR_nu (hi)) rfl 12 (by decide) (hT _ w74) (fun _ h9 => h9) (by show some (va_rf ((R i 12).map (fun z => x + 4 + z))) = _; rw [h12]; rfl) (fh_d d_Ty_setItem 6 rfl) ?_
        refine lv_ifnonnull (tgt := 22) hx hb (fh_d d_Ty_setItem 7 rfl) rfl ?_
        refine lv_aload_n hx hb (fh_d d_Ty_setItem 12 rfl) rfl (lv_at hl 1 rfl) ?_
        refine fh_get (own := "FormulaSetter$Typesetter") (ref := "FormulaSetter$Nucleus") (C := "FormulaSetter$Nucleus") (T := T_Nu) (N := 15) (v := .ref (x + 4 + u)) hx hb hT i_Nu hown hK hP (mkR_nu (hi)) rfl 12 (by decide) (hT _ w74) (fun _ h9 => h9) (by show some (va_rf ((R i 12).map (fun z => x + 4 + z))) = _; rw [h12]; rfl) (fh_d d_Ty_setItem 13 rfl) ?_
        refine lv_ifnull hx hb (fh_d d_Ty_setItem 14 rfl) ?_
        refine lv_aload_n hx hb (fh_d d_Ty_setItem 15 rfl) rfl (lv_at hl 0 rfl) ?_
        refine lv_aload_n hx hb (fh_d d_Ty_setItem 16 rfl) rfl (lv_at hl 1 rfl) ?_
        refine fh_get (own := "FormulaSetter$Typesetter") (ref := "FormulaSetter$Nucleus") (C := "FormulaSetter$Nucleus") (T := T_Nu) (N := 15) (v := .ref (x + 4 + u)) hx hb hT i_Nu hown hK hP (mkR_nu (hi)) rfl 12 (by decide) (hT _ w74) (fun _ h9 => h9) (by show some (va_rf ((R i 12).map (fun z => x + 4 + z))) = _; rw [h12]; rfl) (fh_d d_Ty_setItem 17 rfl) ?_
        refine lv_aload_n hx hb (fh_d d_Ty_setItem 18 rfl) rfl (lv_at hl 2 rfl) ?_
        refine fh_callV (cc' := c_Sy_forScripts) (nL' := 1) (rest := [.ref (x + 4 + u), .ref (x + 226)]) (a := yA si) (As := []) X hR (m_Sy_forScripts l D ct b RO hR sA sV hSt kA aA yA tK tS tM hEn hAd (r - 1) n si hsi (by omega) (mkR x kA aA (mkG ct x g (nI c_69) F_69 W_69 H_69 D_69 ro_69 co_69) nc lc tx len at_ C_69 R CL_69 RL)) w796 w793 w794 w795 w24 ⟨by decide, by decide, by show _ = some 0; decide +kernel⟩ (by omega) (by decide) (fs_recv ((hEn _ hRO).2.2.1 si hsi).2.1 hS) hP hS hl.1 rfl (by exact Nat.le_of_ble_eq_true rfl) (fh_d d_Ty_setItem 19 rfl) ⟨Nat.le_refl _, Nat.le_refl _⟩ (fun v9 h9 n9 H locs hq hP hS => ?_)
        obtain ⟨rfl, q72a, q72b⟩ := hq
        rw [q72a, q72b] at hP
        refine W.eq (g2 := F0 m 38 ls [.ref (yA (ySc si)), .ref (x + 4 + u), .ref (x + 226)]) rfl ?_
        refine lv_iload_n hx hb (fh_d d_Ty_setItem 20 rfl) rfl (lv_at hl 3 rfl) ?_
        refine fh_callV (cc' := c_Ty_setNucleus) (nL' := 4) (rest := []) (a := x + 226) (As := [.ref (x + 4 + u), .ref (yA (ySc si)), .int (nI cr)]) X hR (hN1 (r - 1) (by omega) (c_69, F_69, W_69, H_69, D_69, ro_69, co_69, C_69, CL_69) ⟨hc_69, ob_69⟩ u (ySc si) cr (hu) hou ySc_lt hcr) w663 w660 w662 v19 w6 ⟨by decide, by decide, by show _ = some 3; decide +kernel⟩ (by omega) (by decide) (fh_recv hK hP ((mkR_g (by omega) (by omega) (by omega)).trans mkG_ts) rfl) hP hS hl.1 rfl (by exact Nat.le_of_ble_eq_true rfl) (fh_d d_Ty_setItem 21 rfl) ⟨Nat.le_refl _, Nat.le_refl _⟩ (fun v9 h9 n9 H locs hq hP hS => ?_)
        obtain ⟨⟨c_73, F_73, W_73, H_73, D_73, ro_73, co_73, C_73, CL_73⟩, e_73⟩ : ∃ z, z = N1 (c_69, F_69, W_69, H_69, D_69, ro_69, co_69, C_69, CL_69) u (ySc si) cr := ⟨_, rfl⟩
        obtain ⟨rfl, q_73a, q_73b⟩ := hq
        rw [← e_73] at q_73a
        rw [q_73a, q_73b] at hP
        have o_73 : okT (c_73, F_73, W_73, H_73, D_73, ro_73, co_73, C_73, CL_73) := by rw [e_73]; exact hB1 _ _ _ _ ⟨hc_69, ob_69⟩ (hu) hou
        have hc_73 : c_73 ≤ 120 := o_73.1
        have ob_73 : okB C_73 CL_73 := o_73.2
        replace hP : fh_P D fh_cl b (mkR x kA aA (mkG ct x g (nI c_73) F_73 W_73 H_73 D_73 ro_73 co_73) nc lc tx len at_ C_73 R CL_73 RL) n H := hP
        refine W.eq (g2 := F0 m 42 ls []) rfl ?_
        refine lv_aload_n hx hb (fh_d d_Ty_setItem 22 rfl) rfl (lv_at hl 1 rfl) ?_
        refine fh_get (own := "FormulaSetter$Typesetter") (ref := "FormulaSetter$Nucleus") (C := "FormulaSetter$Nucleus") (T := T_Nu) (N := 15) (v := .null) hx hb hT i_Nu hown hK hP (mkR_nu (hi)) rfl 13 (by decide) (hT _ w77) (fun _ h9 => h9) (by show some (va_rf ((R i 13).map (fun z => x + 4 + z))) = _; rw [h13]; rfl) (fh_d d_Ty_setItem 23 rfl) ?_
        refine lv_ifnullN (tgt := 62) hx hb (fh_d d_Ty_setItem 24 rfl) rfl ?_
        refine lv_aload_n hx hb (fh_d d_Ty_setItem 32 rfl) rfl (lv_at hl 2 rfl) ?_
        refine va_gets (own := "FormulaSetter$Typesetter") (ref := "FormulaSetter$Style") (n := "DISPLAY") hx hb ((hEn _ hRO).2.2.1 0 (by decide)).1 hS hown (hT _ w702) (fun _ h9 => h9) (fh_d d_Ty_setItem 33 rfl) ?_
        refine lv_acmp_ne (rx := some (yA si)) (ry := some (yA 0)) (tgt := 88) hx hb (fh_d d_Ty_setItem 34 rfl) rfl (fun c75 => ?_) (fun c75 => absurd c75 (fun z => hs0 (hAd.2.2 _ _ hsi (by decide) (Option.some.inj z))))
        refine lv_aload_n hx hb (fh_d d_Ty_setItem 44 rfl) rfl (lv_at hl 0 rfl) ?_
        refine lv_aload_n hx hb (fh_d d_Ty_setItem 45 rfl) rfl (lv_at hl 1 rfl) ?_
        refine lv_aload_n hx hb (fh_d d_Ty_setItem 46 rfl) rfl (lv_at hl 2 rfl) ?_
        refine lv_iload_n hx hb (fh_d d_Ty_setItem 47 rfl) rfl (lv_at hl 3 rfl) ?_
        refine fh_callV (cc' := c_Ty_placeScripts) (nL' := 12) (rest := []) (a := x + 226) (As := [.ref (x + 4 + i), .ref (yA si), .int (nI cr)]) X hR (m_Ty_placeScripts l D ct b RO hR sA sV hSt kA aA yA tK tS tM hEn hAd n x g c_73 hc_73 F_73 W_73 H_73 D_73 ro_73 co_73 nc lc tx len at_ C_73 R CL_73 RL ob_73 (r - 1) (by omega) i si cr hi hsi hcr k0 hk0 h5 (fun z hz9 => (hu12 z hz9).1) (fun z hz9 => (hu13 z hz9).1)) w816 w813 w815 v31 w6 ⟨by decide, by decide, by show _ = some 3; decide +kernel⟩ (by omega) (by decide) (fh_recv hK hP ((mkR_g (by omega) (by omega) (by omega)).trans mkG_ts) rfl) hP hS hl.1 rfl (by exact Nat.le_of_ble_eq_true rfl) (fh_d d_Ty_setItem 48 rfl) ⟨Nat.le_refl _, Nat.le_refl _⟩ (fun v9 h9 n9 H locs hq hP hS => ?_)
        obtain ⟨⟨c_76, F_76, W_76, H_76, D_76, ro_76, co_76, C_76, CL_76⟩, e_76⟩ : ∃ z, z = sScr R i si cr (c_73, F_73, W_73, H_73, D_73, ro_73, co_73, C_73, CL_73) := ⟨_, rfl⟩
        obtain ⟨rfl, q_76a, q_76b⟩ := hq
        rw [← e_76] at q_76a
        rw [q_76a, q_76b] at hP
        have o_76 : okT (c_76, F_76, W_76, H_76, D_76, ro_76, co_76, C_76, CL_76) := by rw [e_76]; exact sScr_ok ⟨hc_73, ob_73⟩
        have hc_76 : c_76 ≤ 120 := o_76.1
        have ob_76 : okB C_76 CL_76 := o_76.2
        replace hP : fh_P D fh_cl b (mkR x kA aA (mkG ct x g (nI c_76) F_76 W_76 H_76 D_76 ro_76 co_76) nc lc tx len at_ C_76 R CL_76 RL) n H := hP
        refine W.eq (g2 := F0 m 95 ls []) rfl ?_
        refine lv_aload_n hx hb (fh_d d_Ty_setItem 49 rfl) rfl (lv_at hl 1 rfl) ?_
        refine lv_aload_n hx hb (fh_d d_Ty_setItem 50 rfl) rfl (lv_at hl 0 rfl) ?_
        refine fh_get (own := "FormulaSetter$Typesetter") (ref := "FormulaSetter$Typesetter") (C := "FormulaSetter$Typesetter") (T := T_Ty) (N := 2) (v := .ref (x + 227)) hx hb hT i_Ty hown hK hP ((mkR_g (by omega) (by omega) (by omega)).trans mkG_ts) rfl 0 (by decide) (hT _ w247) (fun _ h9 => h9) rfl (fh_d d_Ty_setItem 51 rfl) ?_
        refine fh_get (own := "FormulaSetter$Typesetter") (ref := "FormulaSetter$Sheet") (C := "FormulaSetter$Sheet") (T := T_Sh) (N := 2) (v := .int (nI c_76)) hx hb hT i_Sh hown hK hP ((mkR_g (by omega) (by omega) (by omega)).trans mkG_sh) rfl 1 (by decide) (hT _ w217) (fun _ h9 => h9) rfl (fh_d d_Ty_setItem 52 rfl) ?_
        refine fh_put (own := "FormulaSetter$Typesetter") (ref := "FormulaSetter$Nucleus") (C := "FormulaSetter$Nucleus") (T := T_Nu) (N := 15) (v := .int (nI c_76)) (ty := .int) hx hb hT i_Nu t_Nu k_Nu n_Nu hown hK hP hS (mkR_nu (hi)) rfl 4 (by decide) (hT _ w111) (fun x9 h9 => u_same (hT _ w112) x9 h9) rfl (by decide +kernel) rfl rfl (Nat.le_of_ble_eq_true rfl) (fh_d d_Ty_setItem 53 rfl) (fun H locs hP hS => ?_)
        replace hP := fh_P.eq (h' := mkR x kA aA (mkG ct x g (nI c_76) F_76 W_76 H_76 D_76 ro_76 co_76) nc lc tx len at_ (sT C_76 i 4 (nI c_76)) R CL_76 RL) hP (mkR_nu4 (v := nI c_76) (hi))
        have f77 : (sT C_76 i 4 (nI c_76)) i 4 = nI c_76 := sT_same
        have y78 : okB (sT C_76 i 4 (nI c_76)) CL_76 := okB_C ob_76 i 4 (nI c_76) (fun _ => okv_n hc_76)
        refine fh_vret X hP hS (fh_d d_Ty_setItem 54 rfl) ⟨rfl, ?_, rfl⟩
        · unfold sItem; dsimp only; rw [if_neg (fun z => by rw [h12, h13] at z; exact absurd z (by simp)), h12, h13]; dsimp only [Option.elim]; rw [← e_69]; rw [← e_73]; rw [if_neg (fun z => hs0 z.1)]; rw [← e_76]; rfl
      · have hv2 := (hu13 v2 h13).1
        have hou := (hu12 u h12).2
        have hov := (hu13 v2 h13).2
        refine lv_aload_n hx hb (fh_d d_Ty_setItem 0 rfl) rfl (lv_at hl 0 rfl) ?_
        refine lv_aload_n hx hb (fh_d d_Ty_setItem 1 rfl) rfl (lv_at hl 1 rfl) ?_
        refine lv_aload_n hx hb (fh_d d_Ty_setItem 2 rfl) rfl (lv_at hl 2 rfl) ?_
        refine lv_iload_n hx hb (fh_d d_Ty_setItem 3 rfl) rfl (lv_at hl 3 rfl) ?_
        refine fh_callV (cc' := c_Ty_setNucleus) (nL' := 4) (rest := []) (a := x + 226) (As := [.ref (x + 4 + i), .ref (yA si), .int (nI cr)]) X hR (hN1 (r - 1) (by omega) (c0, F, W0, H0, D0, rows, cols, C, CL) ⟨hc0, hokB⟩ i si cr (hi) hoi hsi hcr) w663 w660 w662 v19 w6 ⟨by decide, by decide, by show _ = some 3; decide +kernel⟩ (by omega) (by decide) (fh_recv hK hP ((mkR_g (by omega) (by omega) (by omega)).trans mkG_ts) rfl) hP hS hl.1 rfl (by exact Nat.le_of_ble_eq_true rfl) (fh_d d_Ty_setItem 4 rfl) ⟨Nat.le_refl _, Nat.le_refl _⟩ (fun v9 h9 n9 H locs hq hP hS => ?_)
        obtain ⟨⟨c_79, F_79, W_79, H_79, D_79, ro_79, co_79, C_79, CL_79⟩, e_79⟩ : ∃ z, z = N1 (c0, F, W0, H0, D0, rows, cols, C, CL) i si cr := ⟨_, rfl⟩
        obtain ⟨rfl, q_79a, q_79b⟩ := hq
        rw [← e_79] at q_79a
        rw [q_79a, q_79b] at hP
        have o_79 : okT (c_79, F_79, W_79, H_79, D_79, ro_79, co_79, C_79, CL_79) := by rw [e_79]; exact hB1 _ _ _ _ ⟨hc0, hokB⟩ (hi) hoi
        have hc_79 : c_79 ≤ 120 := o_79.1
        have ob_79 : okB C_79 CL_79 := o_79.2
        replace hP : fh_P D fh_cl b (mkR x kA aA (mkG ct x g (nI c_79) F_79 W_79 H_79 D_79 ro_79 co_79) nc lc tx len at_ C_79 R CL_79 RL) n H := hP
        refine W.eq (g2 := F0 m 7 ls []) rfl ?_
        refine lv_aload_n hx hb (fh_d d_Ty_setItem 5 rfl) rfl (lv_at hl 1 rfl) ?_
        refine fh_get (own := "FormulaSetter$Typesetter") (ref := "FormulaSetter$Nucleus") (C := "FormulaSetter$Nucleus") (T := T_Nu) (N := 15) (v := .ref (x + 4 + u)) hx hb hT i_Nu hown hK hP (mkR_nu (hi)) rfl 12 (by decide) (hT _ w74) (fun _ h9 => h9) (by show some (va_rf ((R i 12).map (fun z => x + 4 + z))) = _; rw [h12]; rfl) (fh_d d_Ty_setItem 6 rfl) ?_
        refine lv_ifnonnull (tgt := 22) hx hb (fh_d d_Ty_setItem 7 rfl) rfl ?_
        refine lv_aload_n hx hb (fh_d d_Ty_setItem 12 rfl) rfl (lv_at hl 1 rfl) ?_
        refine fh_get (own := "FormulaSetter$Typesetter") (ref := "FormulaSetter$Nucleus") (C := "FormulaSetter$Nucleus") (T := T_Nu) (N := 15) (v := .ref (x + 4 + u)) hx hb hT i_Nu hown hK hP (mkR_nu (hi)) rfl 12 (by decide) (hT _ w74) (fun _ h9 => h9) (by show some (va_rf ((R i 12).map (fun z => x + 4 + z))) = _; rw [h12]; rfl) (fh_d d_Ty_setItem 13 rfl) ?_
        refine lv_ifnull hx hb (fh_d d_Ty_setItem 14 rfl) ?_
        refine lv_aload_n hx hb (fh_d d_Ty_setItem 15 rfl) rfl (lv_at hl 0 rfl) ?_
        refine lv_aload_n hx hb (fh_d d_Ty_setItem 16 rfl) rfl (lv_at hl 1 rfl) ?_
        refine fh_get (own := "FormulaSetter$Typesetter") (ref := "FormulaSetter$Nucleus") (C := "FormulaSetter$Nucleus") (T := T_Nu) (N := 15) (v := .ref (x + 4 + u)) hx hb hT i_Nu hown hK hP (mkR_nu (hi)) rfl 12 (by decide) (hT _ w74) (fun _ h9 => h9) (by show some (va_rf ((R i 12).map (fun z => x + 4 + z))) = _; rw [h12]; rfl) (fh_d d_Ty_setItem 17 rfl) ?_
        refine lv_aload_n hx hb (fh_d d_Ty_setItem 18 rfl) rfl (lv_at hl 2 rfl) ?_
        refine fh_callV (cc' := c_Sy_forScripts) (nL' := 1) (rest := [.ref (x + 4 + u), .ref (x + 226)]) (a := yA si) (As := []) X hR (m_Sy_forScripts l D ct b RO hR sA sV hSt kA aA yA tK tS tM hEn hAd (r - 1) n si hsi (by omega) (mkR x kA aA (mkG ct x g (nI c_79) F_79 W_79 H_79 D_79 ro_79 co_79) nc lc tx len at_ C_79 R CL_79 RL)) w796 w793 w794 w795 w24 ⟨by decide, by decide, by show _ = some 0; decide +kernel⟩ (by omega) (by decide) (fs_recv ((hEn _ hRO).2.2.1 si hsi).2.1 hS) hP hS hl.1 rfl (by exact Nat.le_of_ble_eq_true rfl) (fh_d d_Ty_setItem 19 rfl) ⟨Nat.le_refl _, Nat.le_refl _⟩ (fun v9 h9 n9 H locs hq hP hS => ?_)
        obtain ⟨rfl, q82a, q82b⟩ := hq
        rw [q82a, q82b] at hP
        refine W.eq (g2 := F0 m 38 ls [.ref (yA (ySc si)), .ref (x + 4 + u), .ref (x + 226)]) rfl ?_
        refine lv_iload_n hx hb (fh_d d_Ty_setItem 20 rfl) rfl (lv_at hl 3 rfl) ?_
        refine fh_callV (cc' := c_Ty_setNucleus) (nL' := 4) (rest := []) (a := x + 226) (As := [.ref (x + 4 + u), .ref (yA (ySc si)), .int (nI cr)]) X hR (hN1 (r - 1) (by omega) (c_79, F_79, W_79, H_79, D_79, ro_79, co_79, C_79, CL_79) ⟨hc_79, ob_79⟩ u (ySc si) cr (hu) hou ySc_lt hcr) w663 w660 w662 v19 w6 ⟨by decide, by decide, by show _ = some 3; decide +kernel⟩ (by omega) (by decide) (fh_recv hK hP ((mkR_g (by omega) (by omega) (by omega)).trans mkG_ts) rfl) hP hS hl.1 rfl (by exact Nat.le_of_ble_eq_true rfl) (fh_d d_Ty_setItem 21 rfl) ⟨Nat.le_refl _, Nat.le_refl _⟩ (fun v9 h9 n9 H locs hq hP hS => ?_)
        obtain ⟨⟨c_83, F_83, W_83, H_83, D_83, ro_83, co_83, C_83, CL_83⟩, e_83⟩ : ∃ z, z = N1 (c_79, F_79, W_79, H_79, D_79, ro_79, co_79, C_79, CL_79) u (ySc si) cr := ⟨_, rfl⟩
        obtain ⟨rfl, q_83a, q_83b⟩ := hq
        rw [← e_83] at q_83a
        rw [q_83a, q_83b] at hP
        have o_83 : okT (c_83, F_83, W_83, H_83, D_83, ro_83, co_83, C_83, CL_83) := by rw [e_83]; exact hB1 _ _ _ _ ⟨hc_79, ob_79⟩ (hu) hou
        have hc_83 : c_83 ≤ 120 := o_83.1
        have ob_83 : okB C_83 CL_83 := o_83.2
        replace hP : fh_P D fh_cl b (mkR x kA aA (mkG ct x g (nI c_83) F_83 W_83 H_83 D_83 ro_83 co_83) nc lc tx len at_ C_83 R CL_83 RL) n H := hP
        refine W.eq (g2 := F0 m 42 ls []) rfl ?_
        refine lv_aload_n hx hb (fh_d d_Ty_setItem 22 rfl) rfl (lv_at hl 1 rfl) ?_
        refine fh_get (own := "FormulaSetter$Typesetter") (ref := "FormulaSetter$Nucleus") (C := "FormulaSetter$Nucleus") (T := T_Nu) (N := 15) (v := .ref (x + 4 + v2)) hx hb hT i_Nu hown hK hP (mkR_nu (hi)) rfl 13 (by decide) (hT _ w77) (fun _ h9 => h9) (by show some (va_rf ((R i 13).map (fun z => x + 4 + z))) = _; rw [h13]; rfl) (fh_d d_Ty_setItem 23 rfl) ?_
        refine lv_ifnull hx hb (fh_d d_Ty_setItem 24 rfl) ?_
        refine lv_aload_n hx hb (fh_d d_Ty_setItem 25 rfl) rfl (lv_at hl 0 rfl) ?_
        refine lv_aload_n hx hb (fh_d d_Ty_setItem 26 rfl) rfl (lv_at hl 1 rfl) ?_
        refine fh_get (own := "FormulaSetter$Typesetter") (ref := "FormulaSetter$Nucleus") (C := "FormulaSetter$Nucleus") (T := T_Nu) (N := 15) (v := .ref (x + 4 + v2)) hx hb hT i_Nu hown hK hP (mkR_nu (hi)) rfl 13 (by decide) (hT _ w77) (fun _ h9 => h9) (by show some (va_rf ((R i 13).map (fun z => x + 4 + z))) = _; rw [h13]; rfl) (fh_d d_Ty_setItem 27 rfl) ?_
        refine lv_aload_n hx hb (fh_d d_Ty_setItem 28 rfl) rfl (lv_at hl 2 rfl) ?_
        refine fh_callV (cc' := c_Sy_forScripts) (nL' := 1) (rest := [.ref (x + 4 + v2), .ref (x + 226)]) (a := yA si) (As := []) X hR (m_Sy_forScripts l D ct b RO hR sA sV hSt kA aA yA tK tS tM hEn hAd (r - 1) n si hsi (by omega) (mkR x kA aA (mkG ct x g (nI c_83) F_83 W_83 H_83 D_83 ro_83 co_83) nc lc tx len at_ C_83 R CL_83 RL)) w796 w793 w794 w795 w24 ⟨by decide, by decide, by show _ = some 0; decide +kernel⟩ (by omega) (by decide) (fs_recv ((hEn _ hRO).2.2.1 si hsi).2.1 hS) hP hS hl.1 rfl (by exact Nat.le_of_ble_eq_true rfl) (fh_d d_Ty_setItem 29 rfl) ⟨Nat.le_refl _, Nat.le_refl _⟩ (fun v9 h9 n9 H locs hq hP hS => ?_)
        obtain ⟨rfl, q85a, q85b⟩ := hq
        rw [q85a, q85b] at hP
        refine W.eq (g2 := F0 m 58 ls [.ref (yA (ySc si)), .ref (x + 4 + v2), .ref (x + 226)]) rfl ?_
        refine lv_iconst (v := 1) hx hb (fh_d d_Ty_setItem 30 rfl) (by decide) ?_
        refine W.eq (g2 := F0 m 59 ls [.int (nI 1), .ref (yA (ySc si)), .ref (x + 4 + v2), .ref (x + 226)]) rfl ?_
        refine fh_callV (cc' := c_Ty_setNucleus) (nL' := 4) (rest := []) (a := x + 226) (As := [.ref (x + 4 + v2), .ref (yA (ySc si)), .int (nI 1)]) X hR (hN1 (r - 1) (by omega) (c_83, F_83, W_83, H_83, D_83, ro_83, co_83, C_83, CL_83) ⟨hc_83, ob_83⟩ v2 (ySc si) 1 (hv2) hov ySc_lt (by omega)) w663 w660 w662 v19 w6 ⟨by decide, by decide, by show _ = some 3; decide +kernel⟩ (by omega) (by decide) (fh_recv hK hP ((mkR_g (by omega) (by omega) (by omega)).trans mkG_ts) rfl) hP hS hl.1 rfl (by exact Nat.le_of_ble_eq_true rfl) (fh_d d_Ty_setItem 31 rfl) ⟨Nat.le_refl _, Nat.le_refl _⟩ (fun v9 h9 n9 H locs hq hP hS => ?_)
        obtain ⟨⟨c_86, F_86, W_86, H_86, D_86, ro_86, co_86, C_86, CL_86⟩, e_86⟩ : ∃ z, z = N1 (c_83, F_83, W_83, H_83, D_83, ro_83, co_83, C_83, CL_83) v2 (ySc si) 1 := ⟨_, rfl⟩
        obtain ⟨rfl, q_86a, q_86b⟩ := hq
        rw [← e_86] at q_86a
        rw [q_86a, q_86b] at hP
        have o_86 : okT (c_86, F_86, W_86, H_86, D_86, ro_86, co_86, C_86, CL_86) := by rw [e_86]; exact hB1 _ _ _ _ ⟨hc_83, ob_83⟩ (hv2) hov
        have hc_86 : c_86 ≤ 120 := o_86.1
        have ob_86 : okB C_86 CL_86 := o_86.2
        replace hP : fh_P D fh_cl b (mkR x kA aA (mkG ct x g (nI c_86) F_86 W_86 H_86 D_86 ro_86 co_86) nc lc tx len at_ C_86 R CL_86 RL) n H := hP
        refine W.eq (g2 := F0 m 62 ls []) rfl ?_
        refine lv_aload_n hx hb (fh_d d_Ty_setItem 32 rfl) rfl (lv_at hl 2 rfl) ?_
        refine va_gets (own := "FormulaSetter$Typesetter") (ref := "FormulaSetter$Style") (n := "DISPLAY") hx hb ((hEn _ hRO).2.2.1 0 (by decide)).1 hS hown (hT _ w702) (fun _ h9 => h9) (fh_d d_Ty_setItem 33 rfl) ?_
        refine lv_acmp_ne (rx := some (yA si)) (ry := some (yA 0)) (tgt := 88) hx hb (fh_d d_Ty_setItem 34 rfl) rfl (fun c87 => ?_) (fun c87 => absurd c87 (fun z => hs0 (hAd.2.2 _ _ hsi (by decide) (Option.some.inj z))))
        refine lv_aload_n hx hb (fh_d d_Ty_setItem 44 rfl) rfl (lv_at hl 0 rfl) ?_
        refine lv_aload_n hx hb (fh_d d_Ty_setItem 45 rfl) rfl (lv_at hl 1 rfl) ?_
        refine lv_aload_n hx hb (fh_d d_Ty_setItem 46 rfl) rfl (lv_at hl 2 rfl) ?_
        refine lv_iload_n hx hb (fh_d d_Ty_setItem 47 rfl) rfl (lv_at hl 3 rfl) ?_
        refine fh_callV (cc' := c_Ty_placeScripts) (nL' := 12) (rest := []) (a := x + 226) (As := [.ref (x + 4 + i), .ref (yA si), .int (nI cr)]) X hR (m_Ty_placeScripts l D ct b RO hR sA sV hSt kA aA yA tK tS tM hEn hAd n x g c_86 hc_86 F_86 W_86 H_86 D_86 ro_86 co_86 nc lc tx len at_ C_86 R CL_86 RL ob_86 (r - 1) (by omega) i si cr hi hsi hcr k0 hk0 h5 (fun z hz9 => (hu12 z hz9).1) (fun z hz9 => (hu13 z hz9).1)) w816 w813 w815 v31 w6 ⟨by decide, by decide, by show _ = some 3; decide +kernel⟩ (by omega) (by decide) (fh_recv hK hP ((mkR_g (by omega) (by omega) (by omega)).trans mkG_ts) rfl) hP hS hl.1 rfl (by exact Nat.le_of_ble_eq_true rfl) (fh_d d_Ty_setItem 48 rfl) ⟨Nat.le_refl _, Nat.le_refl _⟩ (fun v9 h9 n9 H locs hq hP hS => ?_)
        obtain ⟨⟨c_88, F_88, W_88, H_88, D_88, ro_88, co_88, C_88, CL_88⟩, e_88⟩ : ∃ z, z = sScr R i si cr (c_86, F_86, W_86, H_86, D_86, ro_86, co_86, C_86, CL_86) := ⟨_, rfl⟩
        obtain ⟨rfl, q_88a, q_88b⟩ := hq
        rw [← e_88] at q_88a
        rw [q_88a, q_88b] at hP
        have o_88 : okT (c_88, F_88, W_88, H_88, D_88, ro_88, co_88, C_88, CL_88) := by rw [e_88]; exact sScr_ok ⟨hc_86, ob_86⟩
        have hc_88 : c_88 ≤ 120 := o_88.1
        have ob_88 : okB C_88 CL_88 := o_88.2
        replace hP : fh_P D fh_cl b (mkR x kA aA (mkG ct x g (nI c_88) F_88 W_88 H_88 D_88 ro_88 co_88) nc lc tx len at_ C_88 R CL_88 RL) n H := hP
        refine W.eq (g2 := F0 m 95 ls []) rfl ?_
        refine lv_aload_n hx hb (fh_d d_Ty_setItem 49 rfl) rfl (lv_at hl 1 rfl) ?_
        refine lv_aload_n hx hb (fh_d d_Ty_setItem 50 rfl) rfl (lv_at hl 0 rfl) ?_
        refine fh_get (own := "FormulaSetter$Typesetter") (ref := "FormulaSetter$Typesetter") (C := "FormulaSetter$Typesetter") (T := T_Ty) (N := 2) (v := .ref (x + 227)) hx hb hT i_Ty hown hK hP ((mkR_g (by omega) (by omega) (by omega)).trans mkG_ts) rfl 0 (by decide) (hT _ w247) (fun _ h9 => h9) rfl (fh_d d_Ty_setItem 51 rfl) ?_
        refine fh_get (own := "FormulaSetter$Typesetter") (ref := "FormulaSetter$Sheet") (C := "FormulaSetter$Sheet") (T := T_Sh) (N := 2) (v := .int (nI c_88)) hx hb hT i_Sh hown hK hP ((mkR_g (by omega) (by omega) (by omega)).trans mkG_sh) rfl 1 (by decide) (hT _ w217) (fun _ h9 => h9) rfl (fh_d d_Ty_setItem 52 rfl) ?_
        refine fh_put (own := "FormulaSetter$Typesetter") (ref := "FormulaSetter$Nucleus") (C := "FormulaSetter$Nucleus") (T := T_Nu) (N := 15) (v := .int (nI c_88)) (ty := .int) hx hb hT i_Nu t_Nu k_Nu n_Nu hown hK hP hS (mkR_nu (hi)) rfl 4 (by decide) (hT _ w111) (fun x9 h9 => u_same (hT _ w112) x9 h9) rfl (by decide +kernel) rfl rfl (Nat.le_of_ble_eq_true rfl) (fh_d d_Ty_setItem 53 rfl) (fun H locs hP hS => ?_)
        replace hP := fh_P.eq (h' := mkR x kA aA (mkG ct x g (nI c_88) F_88 W_88 H_88 D_88 ro_88 co_88) nc lc tx len at_ (sT C_88 i 4 (nI c_88)) R CL_88 RL) hP (mkR_nu4 (v := nI c_88) (hi))
        have f89 : (sT C_88 i 4 (nI c_88)) i 4 = nI c_88 := sT_same
        have y90 : okB (sT C_88 i 4 (nI c_88)) CL_88 := okB_C ob_88 i 4 (nI c_88) (fun _ => okv_n hc_88)
        refine fh_vret X hP hS (fh_d d_Ty_setItem 54 rfl) ⟨rfl, ?_, rfl⟩
        · unfold sItem; dsimp only; rw [if_neg (fun z => by rw [h12, h13] at z; exact absurd z (by simp)), h12, h13]; dsimp only [Option.elim]; rw [← e_79]; rw [← e_83]; rw [← e_86]; rw [if_neg (fun z => hs0 z.1)]; rw [← e_88]; rfl
