/-! Grid.measure. Printed by wip/whole/gen/p85.py -/
/-- a chain by a column -/
def nxC (T : Nat → Nat → Option Nat) (q : Nat) : List Nat → Prop
  | [] => True
  | i :: t => T i q = t.head? ∧ nxC T q t
theorem mx_nI {a b : Nat} (ha : a < 1000) (hb : b < 1000) : mx (nI a) (nI b) = nI (Nat.max a b) := by
  show (if nI a < nI b then nI b else nI a) = _
  by_cases h : a < b
  · rw [if_pos ((nI_ltI (by omega) (by omega)).mpr h), show Nat.max a b = b from Nat.max_eq_right (by omega)]
  · rw [if_neg (fun z => h ((nI_ltI (by omega) (by omega)).mp z)), show Nat.max a b = a from Nat.max_eq_left (by omega)]
/-- a cell's place -/
abbrev okc (CL : Nat → Nat → Int32) (l : Nat) : Prop := l < 161 ∧ (CL l 6 = nI (ixI (CL l 6)) ∧ ixI (CL l 6) < 8) ∧ CL l 7 = nI (ixI (CL l 7)) ∧ ixI (CL l 7) < 8
set_option maxHeartbeats 4000000 in
set_option maxRecDepth 100000 in
theorem m_Gr_measure (l : Launch) (D : va_G) (ct : Nat → ClassId) (b : Nat) (RO : State → Prop) (hR : fh_R b RO) (r : Nat) (hr : 3 ≤ r) (n x : Nat) (kA aA : Nat → Nat) (g : fh_H) (cnt : Int32) (F W0 H0 D0 : Nat → Int32) (rows cols : Int32) (nc lc : Int32) (tx : Value) (len at_ : Int32) (C : Nat → Nat → Int32) (R : Nat → Nat → Option Nat) (CL : Nat → Nat → Int32) (RL : Nat → Nat → Option Nat) (l0 : Nat) (t0 cs : List Nat) (hcs : cs = l0 :: t0) (hnx : nxC RL 8 cs) (hok : ∀ l ∈ cs, okc CL l) (sz : Int32) : fh_C l D fh_cl (fh_tys ct) b RO y_Gr_measure (Cond.code y_Gr_measure c_Gr_measure 6 (Option.none : Option FieldType) :: fh_T) (fh_rm r 0 0) [.ref (x + 229), .ref (x + 65 + l0), .int sz] (mkR x kA aA (mkG ct x g cnt F W0 H0 D0 rows cols) nc lc tx len at_ C R CL RL) n (fun v h' n' => v = none ∧ h' = mkR x kA aA (mkG ct x g cnt F (gmM CL W0 H0 D0 sz cs).1 (gmM CL W0 H0 D0 sz cs).2.1 (gmM CL W0 H0 D0 sz cs).2.2.1 (nI (gmM CL W0 H0 D0 sz cs).2.2.2.1) (nI (gmM CL W0 H0 D0 sz cs).2.2.2.2)) nc lc tx len at_ C R CL RL ∧ n' = n) 0 0 := by
  refine fh_enter (by decide) (Nat.le_of_ble_eq_true rfl) [(0, .ref (x + 229)), (1, .ref (x + 65 + l0)), (2, .int sz)] rfl ?_
  intro p e s m args below meth c H ls X hP hS hl
  have hx := X.1
  have hb := X.2.1
  have hml := X.2.2.1
  have hown : s.vm.findClass "FormulaSetter$Grid" = some m.cls := X.2.2.2.1
  have hT := X.2.2.2.2.1
  have hK := X.2.2.2.2.2.1
  have hRO := X.2.2.2.2.2.2.1
  have hnm : meth.name = "measure" := X.2.2.2.2.2.2.2.2.2.2
  have loop : ∀ (t : List Nat) (V1 H1 D1 : Nat → Int32) (ro co : Nat), ro ≤ 8 → co ≤ 8 → nxC RL 8 t → (∀ l ∈ t, okc CL l) → t.foldl (gmS CL) (V1, H1, D1, ro, co) = gmM CL W0 H0 D0 sz cs → ∀ (H : Heap) (locs : List Loc) (ls : Array Slot), fh_P D fh_cl b (mkR x kA aA (mkG ct x g cnt F V1 H1 D1 (nI ro) (nI co)) nc lc tx len at_ C R CL RL) n H → va_S (fh_A b) s.heap H locs → lv_has ls 6 [(3, va_rf ((t.head?).map (fun z => x + 65 + z))), (0, .ref (x + 229)), (2, .int sz)] → W p l e (fh_rm r 0 0) s m args below meth c H locs 0 0 (MQ below (fh_Post D fh_cl b (fun v h' n' => v = none ∧ h' = mkR x kA aA (mkG ct x g cnt F (gmM CL W0 H0 D0 sz cs).1 (gmM CL W0 H0 D0 sz cs).2.1 (gmM CL W0 H0 D0 sz cs).2.2.1 (nI (gmM CL W0 H0 D0 sz cs).2.2.2.1) (nI (gmM CL W0 H0 D0 sz cs).2.2.2.2)) nc lc tx len at_ C R CL RL ∧ n' = n)) args s 0 0 (fh_A b)) (F0 m 40 ls []) := by
    intro t
    induction t with
    | nil =>
      intro V1 H1 D1 ro co hro hco hnt hot hfo H locs ls hP hS hl
      have hl : lv_has ls 6 [(3, .null), (0, .ref (x + 229)), (2, .int sz)] := hl
      refine lv_aload_nN hx hb (fh_d d_Gr_measure 24 rfl) rfl (lv_at hl 0 rfl) ?_
      refine lv_ifnullN (tgt := 157) hx hb (fh_d d_Gr_measure 25 rfl) rfl ?_
      exact fh_vret X hP hS (fh_d d_Gr_measure 85 rfl) ⟨rfl, by rw [← hfo]; rfl, rfl⟩
    | cons i t ih =>
      intro V1 H1 D1 ro co hro hco hnt hot hfo H locs ls hP hS hl
      obtain ⟨hi, ⟨hr6, hr8⟩, hc7, hc8⟩ := hot i List.mem_cons_self
      have hl : lv_has ls 6 [(3, .ref (x + 65 + i)), (0, .ref (x + 229)), (2, .int sz)] := hl
      obtain ⟨rw0, erw⟩ : ∃ z, z = ixI (CL i 6) := ⟨_, rfl⟩
      obtain ⟨cw0, ecw⟩ : ∃ z, z = ixI (CL i 7) := ⟨_, rfl⟩
      rw [← erw] at hr6 hr8
      rw [← ecw] at hc7 hc8
      refine lv_aload_n hx hb (fh_d d_Gr_measure 24 rfl) rfl (lv_at hl 0 rfl) ?_
      refine lv_ifnull hx hb (fh_d d_Gr_measure 25 rfl) ?_
      refine lv_aload_n hx hb (fh_d d_Gr_measure 26 rfl) rfl (lv_at hl 0 rfl) ?_
      refine fh_callS (cc' := c_Gr_rowOf) (nL' := 1) (rest := []) (av := [.ref (x + 65 + i)]) X hR (m_Gr_rowOf l D ct b RO (r - 1) (by omega) n x kA aA g cnt F V1 H1 D1 (nI ro) (nI co) nc lc tx len at_ C R CL RL i hi rw0 hr8 hr6) w763 w761 w762 w8 ⟨by decide, by decide, by show _ = some 1; decide +kernel⟩ (by omega) (by decide) hP hS hl.1 rfl (by exact Nat.le_of_ble_eq_true rfl) (fh_d d_Gr_measure 27 rfl) ⟨Nat.le_refl _, Nat.le_refl _⟩ (fun v9 h9 n9 H locs hq hP hS => ?_)
      obtain ⟨rfl, q3a, q3b⟩ := hq
      rw [q3a, q3b] at hP
      refine W.eq (g2 := F0 m 48 ls [.int (nI rw0)]) rfl ?_
      refine lv_istore (lv' := [(4, .int (nI rw0)), (3, .ref (x + 65 + i)), (0, .ref (x + 229)), (2, .int sz)]) hx hb (fh_d d_Gr_measure 28 rfl) hl (by decide) rfl (fun ls hl => ?_)
      refine lv_aload_n hx hb (fh_d d_Gr_measure 29 rfl) rfl (lv_at hl 1 rfl) ?_
      refine fh_callS (cc' := c_Gr_columnOf) (nL' := 1) (rest := []) (av := [.ref (x + 65 + i)]) X hR (m_Gr_columnOf l D ct b RO (r - 1) (by omega) n x kA aA g cnt F V1 H1 D1 (nI ro) (nI co) nc lc tx len at_ C R CL RL i hi cw0 hc8 hc7) w768 w766 w767 w8 ⟨by decide, by decide, by show _ = some 1; decide +kernel⟩ (by omega) (by decide) hP hS hl.1 rfl (by exact Nat.le_of_ble_eq_true rfl) (fh_d d_Gr_measure 30 rfl) ⟨Nat.le_refl _, Nat.le_refl _⟩ (fun v9 h9 n9 H locs hq hP hS => ?_)
      obtain ⟨rfl, q4a, q4b⟩ := hq
      rw [q4a, q4b] at hP
      refine W.eq (g2 := F0 m 54 ls [.int (nI cw0)]) rfl ?_
      refine lv_istore (lv' := [(5, .int (nI cw0)), (4, .int (nI rw0)), (3, .ref (x + 65 + i)), (0, .ref (x + 229)), (2, .int sz)]) hx hb (fh_d d_Gr_measure 31 rfl) hl (by decide) rfl (fun ls hl => ?_)
      refine lv_aload_n hx hb (fh_d d_Gr_measure 32 rfl) rfl (lv_at hl 3 rfl) ?_
      refine fh_get (own := "FormulaSetter$Grid") (ref := "FormulaSetter$Grid") (C := "FormulaSetter$Grid") (T := T_Gr) (N := 5) (v := .ref (x + 230)) hx hb hT i_Gr hown hK hP ((mkR_g (by omega) (by omega) (by omega)).trans mkG_gr) rfl 0 (by decide) (hT _ w231) (fun _ h9 => h9) rfl (fh_d d_Gr_measure 33 rfl) ?_
      refine lv_iload hx hb (fh_d d_Gr_measure 34 rfl) (lv_at hl 0 rfl) ?_
      refine lv_aload_n hx hb (fh_d d_Gr_measure 35 rfl) rfl (lv_at hl 3 rfl) ?_
      refine fh_get (own := "FormulaSetter$Grid") (ref := "FormulaSetter$Grid") (C := "FormulaSetter$Grid") (T := T_Gr) (N := 5) (v := .ref (x + 230)) hx hb hT i_Gr hown hK hP ((mkR_g (by omega) (by omega) (by omega)).trans mkG_gr) rfl 0 (by decide) (hT _ w231) (fun _ h9 => h9) rfl (fh_d d_Gr_measure 36 rfl) ?_
      refine lv_iload hx hb (fh_d d_Gr_measure 37 rfl) (lv_at hl 0 rfl) ?_
      refine fn_iald (f := V1) (k := cw0) hx hb hK hP 0 ((mkR_g (by omega) (by omega) (by omega)).trans mkG_gw) rfl (rfl) (by omega) (by decide) (fh_d d_Gr_measure 38 rfl) ?_
      refine lv_aload_n hx hb (fh_d d_Gr_measure 39 rfl) rfl (lv_at hl 2 rfl) ?_
      refine fh_get (own := "FormulaSetter$Grid") (ref := "FormulaSetter$Line") (C := "FormulaSetter$Line") (T := T_Li) (N := 9) (v := .int ((CL i) 0)) hx hb hT i_Li hown hK hP (mkR_li (hi)) rfl 0 (by decide) (hT _ w84) (fun x9 h9 => u_same (hT _ w85) x9 h9) (rfl) (fh_d d_Gr_measure 40 rfl) ?_
      refine va_mmax hx hb (hml.trans hl.1.symm) hown (hT _ w765) (hT _ w431) (hT _ w14) (hT _ w432) (by show 1 ≤ r; omega) (by show _ ≤ 60 * r; simp [Value.category]; omega) (Nat.le_refl _) (Nat.le_refl _) (fh_d d_Gr_measure 41 rfl) ?_
      refine fn_iast (f := V1) (k := cw0) hx hb hK hP hS 0 ((mkR_g (by omega) (by omega) (by omega)).trans mkG_gw) rfl (rfl) (by omega) (by decide) (fh_d d_Gr_measure 42 rfl) (fun H locs hP hS => ?_)
      replace hP := fh_P.eq (h' := mkR x kA aA (mkG ct x g cnt F (upd V1 cw0 (if (V1 cw0) < ((CL i) 0) then ((CL i) 0) else (V1 cw0))) H1 D1 (nI ro) (nI co)) nc lc tx len at_ C R CL RL) hP ((mkR_up (by omega) (by omega) (by omega)).trans (congrArg (fun z => mkR x kA aA z nc lc tx len at_ C R CL RL) mkG_ugw))
      refine lv_aload_n hx hb (fh_d d_Gr_measure 43 rfl) rfl (lv_at hl 3 rfl) ?_
      refine fh_get (own := "FormulaSetter$Grid") (ref := "FormulaSetter$Grid") (C := "FormulaSetter$Grid") (T := T_Gr) (N := 5) (v := .ref (x + 231)) hx hb hT i_Gr hown hK hP ((mkR_g (by omega) (by omega) (by omega)).trans mkG_gr) rfl 1 (by decide) (hT _ w232) (fun _ h9 => h9) rfl (fh_d d_Gr_measure 44 rfl) ?_
      refine lv_iload hx hb (fh_d d_Gr_measure 45 rfl) (lv_at hl 1 rfl) ?_
      refine lv_aload_n hx hb (fh_d d_Gr_measure 46 rfl) rfl (lv_at hl 3 rfl) ?_
      refine fh_get (own := "FormulaSetter$Grid") (ref := "FormulaSetter$Grid") (C := "FormulaSetter$Grid") (T := T_Gr) (N := 5) (v := .ref (x + 231)) hx hb hT i_Gr hown hK hP ((mkR_g (by omega) (by omega) (by omega)).trans mkG_gr) rfl 1 (by decide) (hT _ w232) (fun _ h9 => h9) rfl (fh_d d_Gr_measure 47 rfl) ?_
      refine lv_iload hx hb (fh_d d_Gr_measure 48 rfl) (lv_at hl 1 rfl) ?_
      refine fn_iald (f := H1) (k := rw0) hx hb hK hP 0 ((mkR_g (by omega) (by omega) (by omega)).trans mkG_gh) rfl (rfl) (by omega) (by decide) (fh_d d_Gr_measure 49 rfl) ?_
      refine lv_aload_n hx hb (fh_d d_Gr_measure 50 rfl) rfl (lv_at hl 2 rfl) ?_
      refine fh_get (own := "FormulaSetter$Grid") (ref := "FormulaSetter$Line") (C := "FormulaSetter$Line") (T := T_Li) (N := 9) (v := .int ((CL i) 1)) hx hb hT i_Li hown hK hP (mkR_li (hi)) rfl 1 (by decide) (hT _ w91) (fun x9 h9 => u_same (hT _ w92) x9 h9) (rfl) (fh_d d_Gr_measure 51 rfl) ?_
      refine va_mmax hx hb (hml.trans hl.1.symm) hown (hT _ w765) (hT _ w431) (hT _ w14) (hT _ w432) (by show 1 ≤ r; omega) (by show _ ≤ 60 * r; simp [Value.category]; omega) (Nat.le_refl _) (Nat.le_refl _) (fh_d d_Gr_measure 52 rfl) ?_
      refine fn_iast (f := H1) (k := rw0) hx hb hK hP hS 0 ((mkR_g (by omega) (by omega) (by omega)).trans mkG_gh) rfl (rfl) (by omega) (by decide) (fh_d d_Gr_measure 53 rfl) (fun H locs hP hS => ?_)
      replace hP := fh_P.eq (h' := mkR x kA aA (mkG ct x g cnt F (upd V1 cw0 (if (V1 cw0) < ((CL i) 0) then ((CL i) 0) else (V1 cw0))) (upd H1 rw0 (if (H1 rw0) < ((CL i) 1) then ((CL i) 1) else (H1 rw0))) D1 (nI ro) (nI co)) nc lc tx len at_ C R CL RL) hP ((mkR_up (by omega) (by omega) (by omega)).trans (congrArg (fun z => mkR x kA aA z nc lc tx len at_ C R CL RL) mkG_ugh))
      refine lv_aload_n hx hb (fh_d d_Gr_measure 54 rfl) rfl (lv_at hl 3 rfl) ?_
      refine fh_get (own := "FormulaSetter$Grid") (ref := "FormulaSetter$Grid") (C := "FormulaSetter$Grid") (T := T_Gr) (N := 5) (v := .ref (x + 232)) hx hb hT i_Gr hown hK hP ((mkR_g (by omega) (by omega) (by omega)).trans mkG_gr) rfl 2 (by decide) (hT _ w233) (fun _ h9 => h9) rfl (fh_d d_Gr_measure 55 rfl) ?_
      refine lv_iload hx hb (fh_d d_Gr_measure 56 rfl) (lv_at hl 1 rfl) ?_
      refine lv_aload_n hx hb (fh_d d_Gr_measure 57 rfl) rfl (lv_at hl 3 rfl) ?_
      refine fh_get (own := "FormulaSetter$Grid") (ref := "FormulaSetter$Grid") (C := "FormulaSetter$Grid") (T := T_Gr) (N := 5) (v := .ref (x + 232)) hx hb hT i_Gr hown hK hP ((mkR_g (by omega) (by omega) (by omega)).trans mkG_gr) rfl 2 (by decide) (hT _ w233) (fun _ h9 => h9) rfl (fh_d d_Gr_measure 58 rfl) ?_
      refine lv_iload hx hb (fh_d d_Gr_measure 59 rfl) (lv_at hl 1 rfl) ?_
      refine fn_iald (f := D1) (k := rw0) hx hb hK hP 0 ((mkR_g (by omega) (by omega) (by omega)).trans mkG_gd) rfl (rfl) (by omega) (by decide) (fh_d d_Gr_measure 60 rfl) ?_
      refine lv_aload_n hx hb (fh_d d_Gr_measure 61 rfl) rfl (lv_at hl 2 rfl) ?_
      refine fh_get (own := "FormulaSetter$Grid") (ref := "FormulaSetter$Line") (C := "FormulaSetter$Line") (T := T_Li) (N := 9) (v := .int ((CL i) 2)) hx hb hT i_Li hown hK hP (mkR_li (hi)) rfl 2 (by decide) (hT _ w98) (fun x9 h9 => u_same (hT _ w99) x9 h9) (rfl) (fh_d d_Gr_measure 62 rfl) ?_
      refine va_mmax hx hb (hml.trans hl.1.symm) hown (hT _ w765) (hT _ w431) (hT _ w14) (hT _ w432) (by show 1 ≤ r; omega) (by show _ ≤ 60 * r; simp [Value.category]; omega) (Nat.le_refl _) (Nat.le_refl _) (fh_d d_Gr_measure 63 rfl) ?_
      refine fn_iast (f := D1) (k := rw0) hx hb hK hP hS 0 ((mkR_g (by omega) (by omega) (by omega)).trans mkG_gd) rfl (rfl) (by omega) (by decide) (fh_d d_Gr_measure 64 rfl) (fun H locs hP hS => ?_)
      replace hP := fh_P.eq (h' := mkR x kA aA (mkG ct x g cnt F (upd V1 cw0 (if (V1 cw0) < ((CL i) 0) then ((CL i) 0) else (V1 cw0))) (upd H1 rw0 (if (H1 rw0) < ((CL i) 1) then ((CL i) 1) else (H1 rw0))) (upd D1 rw0 (if (D1 rw0) < ((CL i) 2) then ((CL i) 2) else (D1 rw0))) (nI ro) (nI co)) nc lc tx len at_ C R CL RL) hP ((mkR_up (by omega) (by omega) (by omega)).trans (congrArg (fun z => mkR x kA aA z nc lc tx len at_ C R CL RL) mkG_ugd))
      refine lv_aload_n hx hb (fh_d d_Gr_measure 65 rfl) rfl (lv_at hl 3 rfl) ?_
      refine lv_aload_n hx hb (fh_d d_Gr_measure 66 rfl) rfl (lv_at hl 3 rfl) ?_
      refine fh_get (own := "FormulaSetter$Grid") (ref := "FormulaSetter$Grid") (C := "FormulaSetter$Grid") (T := T_Gr) (N := 5) (v := .int (nI ro)) hx hb hT i_Gr hown hK hP ((mkR_g (by omega) (by omega) (by omega)).trans mkG_gr) rfl 3 (by decide) (hT _ w234) (fun _ h9 => h9) rfl (fh_d d_Gr_measure 67 rfl) ?_
      refine lv_iload hx hb (fh_d d_Gr_measure 68 rfl) (lv_at hl 1 rfl) ?_
      refine lv_iconst (v := 1) hx hb (fh_d d_Gr_measure 69 rfl) (by decide) ?_
      refine lv_iadd hx hb (fh_d d_Gr_measure 70 rfl) ?_
      refine va_mmax hx hb (hml.trans hl.1.symm) hown (hT _ w765) (hT _ w431) (hT _ w14) (hT _ w432) (by show 1 ≤ r; omega) (by show _ ≤ 60 * r; simp [Value.category]; omega) (Nat.le_refl _) (Nat.le_refl _) (fh_d d_Gr_measure 71 rfl) ?_
      rw [nI_1 rw0, show (if nI ro < nI (rw0 + 1) then nI (rw0 + 1) else nI ro) = nI (Nat.max ro (rw0 + 1)) from mx_nI (by omega) (by omega)]
      refine fh_put (own := "FormulaSetter$Grid") (ref := "FormulaSetter$Grid") (C := "FormulaSetter$Grid") (T := T_Gr) (N := 5) (v := .int (nI (Nat.max ro (rw0 + 1)))) (ty := .int) hx hb hT i_Gr t_Gr k_Gr n_Gr hown hK hP hS ((mkR_g (by omega) (by omega) (by omega)).trans mkG_gr) rfl 3 (by decide) (hT _ w234) (fun _ h9 => h9) rfl (by decide +kernel) rfl rfl (Nat.le_of_ble_eq_true rfl) (fh_d d_Gr_measure 72 rfl) (fun H locs hP hS => ?_)
      replace hP := fh_P.eq (h' := mkR x kA aA (mkG ct x g cnt F (upd V1 cw0 (if (V1 cw0) < ((CL i) 0) then ((CL i) 0) else (V1 cw0))) (upd H1 rw0 (if (H1 rw0) < ((CL i) 1) then ((CL i) 1) else (H1 rw0))) (upd D1 rw0 (if (D1 rw0) < ((CL i) 2) then ((CL i) 2) else (D1 rw0))) (nI (Nat.max ro (rw0 + 1))) (nI co)) nc lc tx len at_ C R CL RL) hP ((mkR_up (by omega) (by omega) (by omega)).trans (congrArg (fun z => mkR x kA aA z nc lc tx len at_ C R CL RL) mkG_ugr))
      refine lv_aload_n hx hb (fh_d d_Gr_measure 73 rfl) rfl (lv_at hl 3 rfl) ?_
      refine lv_aload_n hx hb (fh_d d_Gr_measure 74 rfl) rfl (lv_at hl 3 rfl) ?_
      refine fh_get (own := "FormulaSetter$Grid") (ref := "FormulaSetter$Grid") (C := "FormulaSetter$Grid") (T := T_Gr) (N := 5) (v := .int (nI co)) hx hb hT i_Gr hown hK hP ((mkR_g (by omega) (by omega) (by omega)).trans mkG_gr) rfl 4 (by decide) (hT _ w235) (fun _ h9 => h9) rfl (fh_d d_Gr_measure 75 rfl) ?_
      refine lv_iload hx hb (fh_d d_Gr_measure 76 rfl) (lv_at hl 0 rfl) ?_
      refine lv_iconst (v := 1) hx hb (fh_d d_Gr_measure 77 rfl) (by decide) ?_
      refine lv_iadd hx hb (fh_d d_Gr_measure 78 rfl) ?_
      refine va_mmax hx hb (hml.trans hl.1.symm) hown (hT _ w765) (hT _ w431) (hT _ w14) (hT _ w432) (by show 1 ≤ r; omega) (by show _ ≤ 60 * r; simp [Value.category]; omega) (Nat.le_refl _) (Nat.le_refl _) (fh_d d_Gr_measure 79 rfl) ?_
      rw [nI_1 cw0, show (if nI co < nI (cw0 + 1) then nI (cw0 + 1) else nI co) = nI (Nat.max co (cw0 + 1)) from mx_nI (by omega) (by omega)]
      refine fh_put (own := "FormulaSetter$Grid") (ref := "FormulaSetter$Grid") (C := "FormulaSetter$Grid") (T := T_Gr) (N := 5) (v := .int (nI (Nat.max co (cw0 + 1)))) (ty := .int) hx hb hT i_Gr t_Gr k_Gr n_Gr hown hK hP hS ((mkR_g (by omega) (by omega) (by omega)).trans mkG_gr) rfl 4 (by decide) (hT _ w235) (fun _ h9 => h9) rfl (by decide +kernel) rfl rfl (Nat.le_of_ble_eq_true rfl) (fh_d d_Gr_measure 80 rfl) (fun H locs hP hS => ?_)
      replace hP := fh_P.eq (h' := mkR x kA aA (mkG ct x g cnt F (upd V1 cw0 (if (V1 cw0) < ((CL i) 0) then ((CL i) 0) else (V1 cw0))) (upd H1 rw0 (if (H1 rw0) < ((CL i) 1) then ((CL i) 1) else (H1 rw0))) (upd D1 rw0 (if (D1 rw0) < ((CL i) 2) then ((CL i) 2) else (D1 rw0))) (nI (Nat.max ro (rw0 + 1))) (nI (Nat.max co (cw0 + 1)))) nc lc tx len at_ C R CL RL) hP ((mkR_up (by omega) (by omega) (by omega)).trans (congrArg (fun z => mkR x kA aA z nc lc tx len at_ C R CL RL) mkG_ugr))
      refine lv_aload_n hx hb (fh_d d_Gr_measure 81 rfl) rfl (lv_at hl 2 rfl) ?_
      refine fh_get (own := "FormulaSetter$Grid") (ref := "FormulaSetter$Line") (C := "FormulaSetter$Line") (T := T_Li) (N := 9) (v := va_rf ((t.head?).map (fun z => x + 65 + z))) hx hb hT i_Li hown hK hP (mkR_li (hi)) rfl 8 (by decide) (hT _ w163) (fun _ h9 => h9) (by show some (va_rf ((RL i 8).map (fun z => x + 65 + z))) = _; rw [hnt.1]) (fh_d d_Gr_measure 82 rfl) ?_
      refine fq_astore_n (lv' := [(3, va_rf ((t.head?).map (fun z => x + 65 + z))), (5, .int (nI cw0)), (4, .int (nI rw0)), (0, .ref (x + 229)), (2, .int sz)]) hx hb (fh_d d_Gr_measure 83 rfl) rfl hl (by decide) rfl (fun ls hl => ?_)
      refine lv_goto (tgt := 40) hx hb (fh_d d_Gr_measure 84 rfl) rfl ?_
      exact ih _ _ _ _ _ (Nat.max_le.mpr ⟨hro, by omega⟩) (Nat.max_le.mpr ⟨hco, by omega⟩) hnt.2 (fun l hl9 => hot l (List.mem_cons_of_mem _ hl9)) (by rw [← hfo, erw, ecw]; rfl) H locs ls hP hS (lv_sub hl [0, 3, 4] rfl)
  refine lv_aload_n hx hb (fh_d d_Gr_measure 0 rfl) rfl (lv_at hl 0 rfl) ?_
  refine fh_get (own := "FormulaSetter$Grid") (ref := "FormulaSetter$Grid") (C := "FormulaSetter$Grid") (T := T_Gr) (N := 5) (v := .ref (x + 230)) hx hb hT i_Gr hown hK hP ((mkR_g (by omega) (by omega) (by omega)).trans mkG_gr) rfl 0 (by decide) (hT _ w231) (fun _ h9 => h9) rfl (fh_d d_Gr_measure 1 rfl) ?_
  refine lv_iconst (v := 0) hx hb (fh_d d_Gr_measure 2 rfl) (by decide) ?_
  refine fh_callS (cc' := c_Ar_fill) (nL' := 4) (rest := []) (av := [.ref (x + 230), .int 0]) X hR (m_Ar_fillgw l D ct b RO (r - 1) n x kA aA g cnt F W0 H0 D0 rows cols nc lc tx len at_ C R CL RL 0) w760 w758 w759 w25 ⟨by decide, by decide, by show _ = some 2; decide +kernel⟩ (by omega) (by decide) hP hS hl.1 rfl (by exact Nat.le_of_ble_eq_true rfl) (fh_d d_Gr_measure 3 rfl) ⟨Nat.le_refl _, Nat.le_refl _⟩ (fun v9 h9 n9 H locs hq hP hS => ?_)
  obtain ⟨rfl, q5a, q5b⟩ := hq
  rw [q5a, q5b] at hP
  refine W.eq (g2 := F0 m 8 ls []) rfl ?_
  refine lv_aload_n hx hb (fh_d d_Gr_measure 4 rfl) rfl (lv_at hl 0 rfl) ?_
  refine fh_get (own := "FormulaSetter$Grid") (ref := "FormulaSetter$Grid") (C := "FormulaSetter$Grid") (T := T_Gr) (N := 5) (v := .ref (x + 231)) hx hb hT i_Gr hown hK hP ((mkR_g (by omega) (by omega) (by omega)).trans mkG_gr) rfl 1 (by decide) (hT _ w232) (fun _ h9 => h9) rfl (fh_d d_Gr_measure 5 rfl) ?_
  refine lv_iconst (v := 5) hx hb (fh_d d_Gr_measure 6 rfl) (by decide) ?_
  refine lv_iload_n hx hb (fh_d d_Gr_measure 7 rfl) rfl (lv_at hl 2 rfl) ?_
  refine lv_imul hx hb (fh_d d_Gr_measure 8 rfl) ?_
  refine fh_callS (cc' := c_Ar_fill) (nL' := 4) (rest := []) (av := [.ref (x + 231), .int (5 * sz)]) X hR (m_Ar_fillgh l D ct b RO (r - 1) n x kA aA g cnt F (fiF W0 0 8) H0 D0 rows cols nc lc tx len at_ C R CL RL (5 * sz)) w760 w758 w759 w25 ⟨by decide, by decide, by show _ = some 2; decide +kernel⟩ (by omega) (by decide) hP hS hl.1 rfl (by exact Nat.le_of_ble_eq_true rfl) (fh_d d_Gr_measure 9 rfl) ⟨Nat.le_refl _, Nat.le_refl _⟩ (fun v9 h9 n9 H locs hq hP hS => ?_)
  obtain ⟨rfl, q6a, q6b⟩ := hq
  rw [q6a, q6b] at hP
  refine W.eq (g2 := F0 m 18 ls []) rfl ?_
  refine lv_aload_n hx hb (fh_d d_Gr_measure 10 rfl) rfl (lv_at hl 0 rfl) ?_
  refine fh_get (own := "FormulaSetter$Grid") (ref := "FormulaSetter$Grid") (C := "FormulaSetter$Grid") (T := T_Gr) (N := 5) (v := .ref (x + 232)) hx hb hT i_Gr hown hK hP ((mkR_g (by omega) (by omega) (by omega)).trans mkG_gr) rfl 2 (by decide) (hT _ w233) (fun _ h9 => h9) rfl (fh_d d_Gr_measure 11 rfl) ?_
  refine lv_iconst (v := 2) hx hb (fh_d d_Gr_measure 12 rfl) (by decide) ?_
  refine lv_iload_n hx hb (fh_d d_Gr_measure 13 rfl) rfl (lv_at hl 2 rfl) ?_
  refine lv_imul hx hb (fh_d d_Gr_measure 14 rfl) ?_
  refine fh_callS (cc' := c_Ar_fill) (nL' := 4) (rest := []) (av := [.ref (x + 232), .int (2 * sz)]) X hR (m_Ar_fillgd l D ct b RO (r - 1) n x kA aA g cnt F (fiF W0 0 8) (fiF H0 (5 * sz) 8) D0 rows cols nc lc tx len at_ C R CL RL (2 * sz)) w760 w758 w759 w25 ⟨by decide, by decide, by show _ = some 2; decide +kernel⟩ (by omega) (by decide) hP hS hl.1 rfl (by exact Nat.le_of_ble_eq_true rfl) (fh_d d_Gr_measure 15 rfl) ⟨Nat.le_refl _, Nat.le_refl _⟩ (fun v9 h9 n9 H locs hq hP hS => ?_)
  obtain ⟨rfl, q7a, q7b⟩ := hq
  rw [q7a, q7b] at hP
  refine W.eq (g2 := F0 m 28 ls []) rfl ?_
  refine lv_aload_n hx hb (fh_d d_Gr_measure 16 rfl) rfl (lv_at hl 0 rfl) ?_
  refine lv_iconst (v := 0) hx hb (fh_d d_Gr_measure 17 rfl) (by decide) ?_
  refine fh_put (own := "FormulaSetter$Grid") (ref := "FormulaSetter$Grid") (C := "FormulaSetter$Grid") (T := T_Gr) (N := 5) (v := .int 0) (ty := .int) hx hb hT i_Gr t_Gr k_Gr n_Gr hown hK hP hS ((mkR_g (by omega) (by omega) (by omega)).trans mkG_gr) rfl 3 (by decide) (hT _ w234) (fun _ h9 => h9) rfl (by decide +kernel) rfl rfl (Nat.le_of_ble_eq_true rfl) (fh_d d_Gr_measure 18 rfl) (fun H locs hP hS => ?_)
  replace hP := fh_P.eq (h' := mkR x kA aA (mkG ct x g cnt F (fiF W0 0 8) (fiF H0 (5 * sz) 8) (fiF D0 (2 * sz) 8) 0 cols) nc lc tx len at_ C R CL RL) hP ((mkR_up (by omega) (by omega) (by omega)).trans (congrArg (fun z => mkR x kA aA z nc lc tx len at_ C R CL RL) mkG_ugr))
  refine lv_aload_n hx hb (fh_d d_Gr_measure 19 rfl) rfl (lv_at hl 0 rfl) ?_
  refine lv_iconst (v := 0) hx hb (fh_d d_Gr_measure 20 rfl) (by decide) ?_
  refine fh_put (own := "FormulaSetter$Grid") (ref := "FormulaSetter$Grid") (C := "FormulaSetter$Grid") (T := T_Gr) (N := 5) (v := .int 0) (ty := .int) hx hb hT i_Gr t_Gr k_Gr n_Gr hown hK hP hS ((mkR_g (by omega) (by omega) (by omega)).trans mkG_gr) rfl 4 (by decide) (hT _ w235) (fun _ h9 => h9) rfl (by decide +kernel) rfl rfl (Nat.le_of_ble_eq_true rfl) (fh_d d_Gr_measure 21 rfl) (fun H locs hP hS => ?_)
  replace hP := fh_P.eq (h' := mkR x kA aA (mkG ct x g cnt F (fiF W0 0 8) (fiF H0 (5 * sz) 8) (fiF D0 (2 * sz) 8) 0 0) nc lc tx len at_ C R CL RL) hP ((mkR_up (by omega) (by omega) (by omega)).trans (congrArg (fun z => mkR x kA aA z nc lc tx len at_ C R CL RL) mkG_ugr))
  refine lv_aload_n hx hb (fh_d d_Gr_measure 22 rfl) rfl (lv_at hl 1 rfl) ?_
  refine lv_astore_n (lv' := [(3, .ref (x + 65 + l0)), (0, .ref (x + 229)), (1, .ref (x + 65 + l0)), (2, .int sz)]) hx hb (fh_d d_Gr_measure 23 rfl) rfl hl (by decide) rfl (fun ls hl => ?_)
  exact loop cs _ _ _ 0 0 (by omega) (by omega) hnx hok rfl H locs ls hP hS (by rw [hcs]; exact lv_sub hl [0, 1, 3] rfl)
