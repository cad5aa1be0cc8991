/-! The reference: inside, cell, side, letters, nameHere, sortOf. Printed by wip/whole/gen/p24.py -/
/-- inside: a list N of nn, and its frame O -/
def rf_ow (A : Nat → Nat → Int32) (N : Nat) (nn : Int32) : Nat → Nat → Int32 := up2 (rf_make A N 0) 14 (upd (rf_make A N 0 14) N nn)
def rf_ins (A : Nat → Nat → Int32) (N O nn : Nat) (wh : Int32) : Nat → Nat → Int32 := rf_push (if wh = 3 then up2 (rf_ow A N (nI nn)) 6 (upd (rf_make A N 0 6) nn (nI N)) else up2 (rf_ow A N (nI nn)) 10 (upd (rf_make A N 0 10) nn (nI N))) O wh (nI nn) (nI N)
set_option maxHeartbeats 4000000 in
set_option maxRecDepth 100000 in
theorem m_Mo_inside (l : Launch) (D : va_G) (ct : Nat → ClassId) (b : Nat) (RO : State → Prop) (hR : fh_R b RO) (r : Nat) (hr : 1 ≤ r) (n x : Nat) (g : fh_H) (A : Nat → Nat → Int32) (th co at_ wr nu pi wi he de wh : Int32) (N O nn : Nat) (hN : N < 400) (hO : O < 40) (hn : nn < 400) : fh_C l D fh_cl (fh_tys ct) b RO y_Mo_inside (Cond.code y_Mo_inside c_Mo_inside 4 (Option.none : Option FieldType) :: fh_T) (fh_rm r 0 0) [.ref x, .int (nI nn), .int wh] (mkM ct x g A th co at_ wr (nI N) nu (nI O) pi wi he de) n (fun v h' n' => v = none ∧ h' = mkM ct x g (rf_ins A N O nn wh) th co at_ wr (nI (N + 1)) nu (nI (O + 1)) pi wi he de ∧ n' = n) 0 0 := by
  refine fh_enter (by decide) (Nat.le_of_ble_eq_true rfl) [(0, .ref x), (1, .int (nI nn)), (2, .int wh)] rfl ?_
  intro p e s m args below meth c H ls X hP hS hl
  have hx := X.1
  have hb := X.2.1
  have hml := X.2.2.1
  have hown : s.vm.findClass "FormulaSetterModel" = some m.cls := X.2.2.2.1
  have hT := X.2.2.2.2.1
  have hK := X.2.2.2.2.2.1
  have hRO := X.2.2.2.2.2.2.1
  have hnm : meth.name = "inside" := X.2.2.2.2.2.2.2.2.2.2
  refine lv_aload_n hx hb (fh_d d_Mo_inside 0 rfl) rfl (lv_at hl 0 rfl) ?_
  refine lv_iconst (v := 0) hx hb (fh_d d_Mo_inside 1 rfl) (by decide) ?_
  refine fh_callV (cc' := c_Mo_make) (nL' := 3) (rest := []) (a := x) (As := [.int 0]) X hR (m_Mo_make l D ct b RO (r - 1) n x g A th co at_ wr nu (nI O) pi wi he de 0 (N) (hN)) w1048 w1045 w1047 v33 w9 ⟨by decide, by decide, by show _ = some 1; decide +kernel⟩ (by omega) (by decide) (fh_recv hK hP mkM_o rfl) hP hS hl.1 rfl (by exact Nat.le_of_ble_eq_true rfl) (fh_d d_Mo_inside 2 rfl) ⟨Nat.le_refl _, Nat.le_refl _⟩ (fun v9 h9 n9 H locs hq hP hS => ?_)
  obtain ⟨rfl, u1, u2⟩ := hq
  rw [u1, u2] at hP
  refine lv_istore_n (lv' := [(3, .int (nI N)), (0, .ref x), (1, .int (nI nn)), (2, .int wh)]) hx hb (fh_d d_Mo_inside 3 rfl) rfl hl (by decide) rfl (fun ls hl => ?_)
  refine lv_aload_n hx hb (fh_d d_Mo_inside 4 rfl) rfl (lv_at hl 1 rfl) ?_
  refine fh_get (own := "FormulaSetterModel") (ref := "FormulaSetterModel") (C := "FormulaSetterModel") (T := T_Mo) (N := 53) (v := .ref (x + 15)) hx hb hT i_Mo hown hK hP mkM_o rfl 20 (by decide) (hT _ w880) (fun _ h9 => h9) rfl (fh_d d_Mo_inside 5 rfl) ?_
  refine lv_iload_n hx hb (fh_d d_Mo_inside 6 rfl) rfl (lv_at hl 0 rfl) ?_
  refine lv_iload_n hx hb (fh_d d_Mo_inside 7 rfl) rfl (lv_at hl 2 rfl) ?_
  refine fn_iast (f := rf_make A N 0 14) (k := N) hx hb hK hP hS 0 mkM_a14 rfl (rfl) (hN) (by decide) (fh_d d_Mo_inside 8 rfl) (fun H locs hP hS => ?_)
  replace hP := fh_P.eq (h' := mkM ct x g (up2 (rf_make A N 0) 14 (upd (rf_make A N 0 14) N (nI nn))) th co at_ wr (nI (N + 1)) nu (nI O) pi wi he de) hP mkM_u14
  refine lv_iload_n hx hb (fh_d d_Mo_inside 9 rfl) rfl (lv_at hl 3 rfl) ?_
  refine lv_iconst (v := 3) hx hb (fh_d d_Mo_inside 10 rfl) (by decide) ?_
  refine lv_icmp_ne (tgt := 28) hx hb (fh_d d_Mo_inside 11 rfl) rfl (fun c3 => ?_) (fun c3 => ?_)
  · refine lv_aload_n hx hb (fh_d d_Mo_inside 18 rfl) rfl (lv_at hl 1 rfl) ?_
    refine fh_get (own := "FormulaSetterModel") (ref := "FormulaSetterModel") (C := "FormulaSetterModel") (T := T_Mo) (N := 53) (v := .ref (x + 11)) hx hb hT i_Mo hown hK hP mkM_o rfl 16 (by decide) (hT _ w876) (fun _ h9 => h9) rfl (fh_d d_Mo_inside 19 rfl) ?_
    refine lv_iload_n hx hb (fh_d d_Mo_inside 20 rfl) rfl (lv_at hl 2 rfl) ?_
    refine lv_iload_n hx hb (fh_d d_Mo_inside 21 rfl) rfl (lv_at hl 0 rfl) ?_
    refine fn_iast (f := rf_make A N 0 10) (k := nn) hx hb hK hP hS 0 mkM_a10 rfl (rfl) (hn) (by decide) (fh_d d_Mo_inside 22 rfl) (fun H locs hP hS => ?_)
    replace hP := fh_P.eq (h' := mkM ct x g (up2 (up2 (rf_make A N 0) 14 (upd (rf_make A N 0 14) N (nI nn))) 10 (upd (rf_make A N 0 10) nn (nI N))) th co at_ wr (nI (N + 1)) nu (nI O) pi wi he de) hP mkM_u10
    refine lv_aload_n hx hb (fh_d d_Mo_inside 23 rfl) rfl (lv_at hl 1 rfl) ?_
    refine lv_iload_n hx hb (fh_d d_Mo_inside 24 rfl) rfl (lv_at hl 3 rfl) ?_
    refine lv_iload_n hx hb (fh_d d_Mo_inside 25 rfl) rfl (lv_at hl 2 rfl) ?_
    refine lv_iload_n hx hb (fh_d d_Mo_inside 26 rfl) rfl (lv_at hl 0 rfl) ?_
    refine fh_callV (cc' := c_Mo_push) (nL' := 4) (rest := []) (a := x) (As := [.int wh, .int (nI nn), .int (nI N)]) X hR (m_Mo_push l D ct b RO (r - 1) n x g (up2 (up2 (rf_make A N 0) 14 (upd (rf_make A N 0 14) N (nI nn))) 10 (upd (rf_make A N 0 10) nn (nI N))) th co at_ wr (nI (N + 1)) nu pi wi he de wh (nI nn) (nI N) (O) (hO)) w1052 w1049 w1051 v34 w9 ⟨by decide, by decide, by show _ = some 3; decide +kernel⟩ (by omega) (by decide) (fh_recv hK hP mkM_o rfl) hP hS hl.1 rfl (by exact Nat.le_of_ble_eq_true rfl) (fh_d d_Mo_inside 27 rfl) ⟨Nat.le_refl _, Nat.le_refl _⟩ (fun v9 h9 n9 H locs hq hP hS => ?_)
    obtain ⟨rfl, u4, u5⟩ := hq
    rw [u4, u5] at hP
    exact fh_vret X hP hS (fh_d d_Mo_inside 28 rfl) ⟨rfl, by unfold rf_ins; rw [if_neg c3]; rfl, rfl⟩
  · refine lv_aload_n hx hb (fh_d d_Mo_inside 12 rfl) rfl (lv_at hl 1 rfl) ?_
    refine fh_get (own := "FormulaSetterModel") (ref := "FormulaSetterModel") (C := "FormulaSetterModel") (T := T_Mo) (N := 53) (v := .ref (x + 7)) hx hb hT i_Mo hown hK hP mkM_o rfl 12 (by decide) (hT _ w872) (fun _ h9 => h9) rfl (fh_d d_Mo_inside 13 rfl) ?_
    refine lv_iload_n hx hb (fh_d d_Mo_inside 14 rfl) rfl (lv_at hl 2 rfl) ?_
    refine lv_iload_n hx hb (fh_d d_Mo_inside 15 rfl) rfl (lv_at hl 0 rfl) ?_
    refine fn_iast (f := rf_make A N 0 6) (k := nn) hx hb hK hP hS 0 mkM_a6 rfl (rfl) (hn) (by decide) (fh_d d_Mo_inside 16 rfl) (fun H locs hP hS => ?_)
    replace hP := fh_P.eq (h' := mkM ct x g (up2 (up2 (rf_make A N 0) 14 (upd (rf_make A N 0 14) N (nI nn))) 6 (upd (rf_make A N 0 6) nn (nI N))) th co at_ wr (nI (N + 1)) nu (nI O) pi wi he de) hP mkM_u6
    refine lv_goto (tgt := 35) hx hb (fh_d d_Mo_inside 17 rfl) rfl ?_
    refine lv_aload_n hx hb (fh_d d_Mo_inside 23 rfl) rfl (lv_at hl 1 rfl) ?_
    refine lv_iload_n hx hb (fh_d d_Mo_inside 24 rfl) rfl (lv_at hl 3 rfl) ?_
    refine lv_iload_n hx hb (fh_d d_Mo_inside 25 rfl) rfl (lv_at hl 2 rfl) ?_
    refine lv_iload_n hx hb (fh_d d_Mo_inside 26 rfl) rfl (lv_at hl 0 rfl) ?_
    refine fh_callV (cc' := c_Mo_push) (nL' := 4) (rest := []) (a := x) (As := [.int wh, .int (nI nn), .int (nI N)]) X hR (m_Mo_push l D ct b RO (r - 1) n x g (up2 (up2 (rf_make A N 0) 14 (upd (rf_make A N 0 14) N (nI nn))) 6 (upd (rf_make A N 0 6) nn (nI N))) th co at_ wr (nI (N + 1)) nu pi wi he de wh (nI nn) (nI N) (O) (hO)) w1052 w1049 w1051 v34 w9 ⟨by decide, by decide, by show _ = some 3; decide +kernel⟩ (by omega) (by decide) (fh_recv hK hP mkM_o rfl) hP hS hl.1 rfl (by exact Nat.le_of_ble_eq_true rfl) (fh_d d_Mo_inside 27 rfl) ⟨Nat.le_refl _, Nat.le_refl _⟩ (fun v9 h9 n9 H locs hq hP hS => ?_)
    obtain ⟨rfl, u6, u7⟩ := hq
    rw [u6, u7] at hP
    exact fh_vret X hP hS (fh_d d_Mo_inside 28 rfl) ⟨rfl, by unfold rf_ins; rw [if_pos (Classical.not_not.mp (fun z => z c3))]; rfl, rfl⟩

/-- cell: a list N behind the list q of the frame O - 1 -/
def rf_cell (A : Nat → Nat → Int32) (N O q : Nat) (rr cc : Int32) : Nat → Nat → Int32 := up2 (up2 (up2 (up2 (up2 (rf_ow A N (A 17 (O - 1))) 8 (upd (rf_make A N 0 8) N rr)) 9 (upd (rf_make A N 0 9) N cc)) 7 (upd (rf_make A N 0 7) q (nI N))) 18 (upd (A 18) (O - 1) (nI N))) 19 (upd (A 19) (O - 1) 0)
abbrev rf_cw (wr rr cc : Int32) : Int32 := if ¬ wr = 0 ∨ 7 < rr ∨ 7 < cc then 1 else 0
set_option maxHeartbeats 4000000 in
set_option maxRecDepth 100000 in
theorem m_Mo_cell (l : Launch) (D : va_G) (ct : Nat → ClassId) (b : Nat) (RO : State → Prop) (hR : fh_R b RO) (r : Nat) (hr : 1 ≤ r) (n x : Nat) (g : fh_H) (A : Nat → Nat → Int32) (th co at_ wr nu pi wi he de rr c1 : Int32) (N O q : Nat) (hN : N < 400) (hO : 1 ≤ O) (hO2 : O ≤ 40) (hq1 : A 18 (O - 1) = nI q) (hq2 : q < 400) : fh_C l D fh_cl (fh_tys ct) b RO y_Mo_cell (Cond.code y_Mo_cell c_Mo_cell 5 (Option.none : Option FieldType) :: fh_T) (fh_rm r 0 0) [.ref x, .int rr, .int c1] (mkM ct x g A th co at_ wr (nI N) nu (nI O) pi wi he de) n (fun v h' n' => v = none ∧ h' = mkM ct x g (rf_cell A N O q rr c1) th co at_ (rf_cw wr rr c1) (nI (N + 1)) nu (nI O) pi wi he de ∧ n' = n) 0 0 := by
  refine fh_enter (by decide) (Nat.le_of_ble_eq_true rfl) [(0, .ref x), (1, .int rr), (2, .int c1)] rfl ?_
  intro p e s m args below meth c H ls X hP hS hl
  have hx := X.1
  have hb := X.2.1
  have hml := X.2.2.1
  have hown : s.vm.findClass "FormulaSetterModel" = some m.cls := X.2.2.2.1
  have hT := X.2.2.2.2.1
  have hK := X.2.2.2.2.2.1
  have hRO := X.2.2.2.2.2.2.1
  have hnm : meth.name = "cell" := X.2.2.2.2.2.2.2.2.2.2
  have J : ∀ (v : Int32) (hv : v = rf_cw wr rr c1) (hz : narrow .boolean (.int v) = .int v ∧ fits .boolean (.int v) = true) (H : Heap) (locs : List Loc) (ls : Array Slot), fh_P D fh_cl b (mkM ct x g A th co at_ wr (nI N) nu (nI O) pi wi he de) n H → va_S (fh_A b) s.heap H locs → lv_has ls 5 [(3, .int ((A 18) (O - 1))), (0, .ref x), (1, .int rr), (2, .int c1)] → W p l e (fh_rm r 0 0) s m args below meth c H locs 0 0 (MQ below (fh_Post D fh_cl b (fun v h' n' => v = none ∧ h' = mkM ct x g (rf_cell A N O q rr c1) th co at_ (rf_cw wr rr c1) (nI (N + 1)) nu (nI O) pi wi he de ∧ n' = n)) args s 0 0 (fh_A b)) (F0 m 37 ls [.int v, .ref x]) := by
    intro v hv hz H locs ls hP hS hl
    refine fh_put (own := "FormulaSetterModel") (ref := "FormulaSetterModel") (C := "FormulaSetterModel") (T := T_Mo) (N := 53) (v := .int v) (ty := .boolean) hx hb hT i_Mo t_Mo k_Mo n_Mo hown hK hP hS mkM_o rfl 4 (by decide) (hT _ w864) (fun _ h9 => h9) rfl (by decide +kernel) hz.1 hz.2 (Nat.le_of_ble_eq_true rfl) (fh_d d_Mo_cell 21 rfl) (fun H locs hP hS => ?_)
    replace hP := fh_P.eq (h' := mkM ct x g A th co at_ v (nI N) nu (nI O) pi wi he de) hP mkM_ux
    refine lv_aload_n hx hb (fh_d d_Mo_cell 22 rfl) rfl (lv_at hl 1 rfl) ?_
    refine lv_iconst (v := 0) hx hb (fh_d d_Mo_cell 23 rfl) (by decide) ?_
    refine fh_callV (cc' := c_Mo_make) (nL' := 3) (rest := []) (a := x) (As := [.int 0]) X hR (m_Mo_make l D ct b RO (r - 1) n x g A th co at_ v nu (nI O) pi wi he de 0 (N) (hN)) w1048 w1045 w1047 v33 w9 ⟨by decide, by decide, by show _ = some 1; decide +kernel⟩ (by omega) (by decide) (fh_recv hK hP mkM_o rfl) hP hS hl.1 rfl (by exact Nat.le_of_ble_eq_true rfl) (fh_d d_Mo_cell 24 rfl) ⟨Nat.le_refl _, Nat.le_refl _⟩ (fun v9 h9 n9 H locs hq hP hS => ?_)
    obtain ⟨rfl, u1, u2⟩ := hq
    rw [u1, u2] at hP
    refine lv_istore (lv' := [(4, .int (nI N)), (3, .int ((A 18) (O - 1))), (0, .ref x), (1, .int rr), (2, .int c1)]) hx hb (fh_d d_Mo_cell 25 rfl) hl (by decide) rfl (fun ls hl => ?_)
    refine lv_aload_n hx hb (fh_d d_Mo_cell 26 rfl) rfl (lv_at hl 2 rfl) ?_
    refine fh_get (own := "FormulaSetterModel") (ref := "FormulaSetterModel") (C := "FormulaSetterModel") (T := T_Mo) (N := 53) (v := .ref (x + 15)) hx hb hT i_Mo hown hK hP mkM_o rfl 20 (by decide) (hT _ w880) (fun _ h9 => h9) rfl (fh_d d_Mo_cell 27 rfl) ?_
    refine lv_iload hx hb (fh_d d_Mo_cell 28 rfl) (lv_at hl 0 rfl) ?_
    refine lv_aload_n hx hb (fh_d d_Mo_cell 29 rfl) rfl (lv_at hl 2 rfl) ?_
    refine fh_get (own := "FormulaSetterModel") (ref := "FormulaSetterModel") (C := "FormulaSetterModel") (T := T_Mo) (N := 53) (v := .ref (x + 18)) hx hb hT i_Mo hown hK hP mkM_o rfl 24 (by decide) (hT _ w884) (fun _ h9 => h9) rfl (fh_d d_Mo_cell 30 rfl) ?_
    refine lv_aload_n hx hb (fh_d d_Mo_cell 31 rfl) rfl (lv_at hl 2 rfl) ?_
    refine fh_get (own := "FormulaSetterModel") (ref := "FormulaSetterModel") (C := "FormulaSetterModel") (T := T_Mo) (N := 53) (v := .int (nI O)) hx hb hT i_Mo hown hK hP mkM_o rfl 22 (by decide) (hT _ w882) (fun _ h9 => h9) rfl (fh_d d_Mo_cell 32 rfl) ?_
    refine lv_iconst (v := 1) hx hb (fh_d d_Mo_cell 33 rfl) (by decide) ?_
    refine lv_isub hx hb (fh_d d_Mo_cell 34 rfl) ?_
    refine fn_iald (f := A 17) (k := O - 1) hx hb hK hP 0 mkM_a17 rfl (nI_m1 hO) (by omega) (by decide) (fh_d d_Mo_cell 35 rfl) ?_
    refine fn_iast (f := rf_make A N 0 14) (k := N) hx hb hK hP hS 0 mkM_a14 rfl (rfl) (hN) (by decide) (fh_d d_Mo_cell 36 rfl) (fun H locs hP hS => ?_)
    replace hP := fh_P.eq (h' := mkM ct x g (up2 (rf_make A N 0) 14 (upd (rf_make A N 0 14) N ((A 17) (O - 1)))) th co at_ v (nI (N + 1)) nu (nI O) pi wi he de) hP mkM_u14
    refine lv_aload_n hx hb (fh_d d_Mo_cell 37 rfl) rfl (lv_at hl 2 rfl) ?_
    refine fh_get (own := "FormulaSetterModel") (ref := "FormulaSetterModel") (C := "FormulaSetterModel") (T := T_Mo) (N := 53) (v := .ref (x + 9)) hx hb hT i_Mo hown hK hP mkM_o rfl 14 (by decide) (hT _ w874) (fun _ h9 => h9) rfl (fh_d d_Mo_cell 38 rfl) ?_
    refine lv_iload hx hb (fh_d d_Mo_cell 39 rfl) (lv_at hl 0 rfl) ?_
    refine lv_iload_n hx hb (fh_d d_Mo_cell 40 rfl) rfl (lv_at hl 3 rfl) ?_
    refine fn_iast (f := rf_make A N 0 8) (k := N) hx hb hK hP hS 0 mkM_a8 rfl (rfl) (hN) (by decide) (fh_d d_Mo_cell 41 rfl) (fun H locs hP hS => ?_)
    replace hP := fh_P.eq (h' := mkM ct x g (up2 (up2 (rf_make A N 0) 14 (upd (rf_make A N 0 14) N ((A 17) (O - 1)))) 8 (upd (rf_make A N 0 8) N rr)) th co at_ v (nI (N + 1)) nu (nI O) pi wi he de) hP mkM_u8
    refine lv_aload_n hx hb (fh_d d_Mo_cell 42 rfl) rfl (lv_at hl 2 rfl) ?_
    refine fh_get (own := "FormulaSetterModel") (ref := "FormulaSetterModel") (C := "FormulaSetterModel") (T := T_Mo) (N := 53) (v := .ref (x + 10)) hx hb hT i_Mo hown hK hP mkM_o rfl 15 (by decide) (hT _ w875) (fun _ h9 => h9) rfl (fh_d d_Mo_cell 43 rfl) ?_
    refine lv_iload hx hb (fh_d d_Mo_cell 44 rfl) (lv_at hl 0 rfl) ?_
    refine lv_iload_n hx hb (fh_d d_Mo_cell 45 rfl) rfl (lv_at hl 4 rfl) ?_
    refine fn_iast (f := rf_make A N 0 9) (k := N) hx hb hK hP hS 0 mkM_a9 rfl (rfl) (hN) (by decide) (fh_d d_Mo_cell 46 rfl) (fun H locs hP hS => ?_)
    replace hP := fh_P.eq (h' := mkM ct x g (up2 (up2 (up2 (rf_make A N 0) 14 (upd (rf_make A N 0 14) N ((A 17) (O - 1)))) 8 (upd (rf_make A N 0 8) N rr)) 9 (upd (rf_make A N 0 9) N c1)) th co at_ v (nI (N + 1)) nu (nI O) pi wi he de) hP mkM_u9
    refine lv_aload_n hx hb (fh_d d_Mo_cell 47 rfl) rfl (lv_at hl 2 rfl) ?_
    refine fh_get (own := "FormulaSetterModel") (ref := "FormulaSetterModel") (C := "FormulaSetterModel") (T := T_Mo) (N := 53) (v := .ref (x + 8)) hx hb hT i_Mo hown hK hP mkM_o rfl 13 (by decide) (hT _ w873) (fun _ h9 => h9) rfl (fh_d d_Mo_cell 48 rfl) ?_
    refine lv_iload_n hx hb (fh_d d_Mo_cell 49 rfl) rfl (lv_at hl 1 rfl) ?_
    refine lv_iload hx hb (fh_d d_Mo_cell 50 rfl) (lv_at hl 0 rfl) ?_
    refine fn_iast (f := rf_make A N 0 7) (k := q) hx hb hK hP hS 0 mkM_a7 rfl (hq1) (hq2) (by decide) (fh_d d_Mo_cell 51 rfl) (fun H locs hP hS => ?_)
    replace hP := fh_P.eq (h' := mkM ct x g (up2 (up2 (up2 (up2 (rf_make A N 0) 14 (upd (rf_make A N 0 14) N ((A 17) (O - 1)))) 8 (upd (rf_make A N 0 8) N rr)) 9 (upd (rf_make A N 0 9) N c1)) 7 (upd (rf_make A N 0 7) q (nI N))) th co at_ v (nI (N + 1)) nu (nI O) pi wi he de) hP mkM_u7
    refine lv_aload_n hx hb (fh_d d_Mo_cell 52 rfl) rfl (lv_at hl 2 rfl) ?_
    refine fh_get (own := "FormulaSetterModel") (ref := "FormulaSetterModel") (C := "FormulaSetterModel") (T := T_Mo) (N := 53) (v := .ref (x + 19)) hx hb hT i_Mo hown hK hP mkM_o rfl 25 (by decide) (hT _ w885) (fun _ h9 => h9) rfl (fh_d d_Mo_cell 53 rfl) ?_
    refine lv_aload_n hx hb (fh_d d_Mo_cell 54 rfl) rfl (lv_at hl 2 rfl) ?_
    refine fh_get (own := "FormulaSetterModel") (ref := "FormulaSetterModel") (C := "FormulaSetterModel") (T := T_Mo) (N := 53) (v := .int (nI O)) hx hb hT i_Mo hown hK hP mkM_o rfl 22 (by decide) (hT _ w882) (fun _ h9 => h9) rfl (fh_d d_Mo_cell 55 rfl) ?_
    refine lv_iconst (v := 1) hx hb (fh_d d_Mo_cell 56 rfl) (by decide) ?_
    refine lv_isub hx hb (fh_d d_Mo_cell 57 rfl) ?_
    refine lv_iload hx hb (fh_d d_Mo_cell 58 rfl) (lv_at hl 0 rfl) ?_
    refine fn_iast (f := A 18) (k := O - 1) hx hb hK hP hS 0 mkM_a18 rfl (nI_m1 hO) (by omega) (by decide) (fh_d d_Mo_cell 59 rfl) (fun H locs hP hS => ?_)
    replace hP := fh_P.eq (h' := mkM ct x g (up2 (up2 (up2 (up2 (up2 (rf_make A N 0) 14 (upd (rf_make A N 0 14) N ((A 17) (O - 1)))) 8 (upd (rf_make A N 0 8) N rr)) 9 (upd (rf_make A N 0 9) N c1)) 7 (upd (rf_make A N 0 7) q (nI N))) 18 (upd (A 18) (O - 1) (nI N))) th co at_ v (nI (N + 1)) nu (nI O) pi wi he de) hP mkM_u18
    refine lv_aload_n hx hb (fh_d d_Mo_cell 60 rfl) rfl (lv_at hl 2 rfl) ?_
    refine fh_get (own := "FormulaSetterModel") (ref := "FormulaSetterModel") (C := "FormulaSetterModel") (T := T_Mo) (N := 53) (v := .ref (x + 20)) hx hb hT i_Mo hown hK hP mkM_o rfl 26 (by decide) (hT _ w886) (fun _ h9 => h9) rfl (fh_d d_Mo_cell 61 rfl) ?_
    refine lv_aload_n hx hb (fh_d d_Mo_cell 62 rfl) rfl (lv_at hl 2 rfl) ?_
    refine fh_get (own := "FormulaSetterModel") (ref := "FormulaSetterModel") (C := "FormulaSetterModel") (T := T_Mo) (N := 53) (v := .int (nI O)) hx hb hT i_Mo hown hK hP mkM_o rfl 22 (by decide) (hT _ w882) (fun _ h9 => h9) rfl (fh_d d_Mo_cell 63 rfl) ?_
    refine lv_iconst (v := 1) hx hb (fh_d d_Mo_cell 64 rfl) (by decide) ?_
    refine lv_isub hx hb (fh_d d_Mo_cell 65 rfl) ?_
    refine lv_iconst (v := 0) hx hb (fh_d d_Mo_cell 66 rfl) (by decide) ?_
    refine fn_iast (f := A 19) (k := O - 1) hx hb hK hP hS 0 mkM_a19 rfl (nI_m1 hO) (by omega) (by decide) (fh_d d_Mo_cell 67 rfl) (fun H locs hP hS => ?_)
    replace hP := fh_P.eq (h' := mkM ct x g (up2 (up2 (up2 (up2 (up2 (up2 (rf_make A N 0) 14 (upd (rf_make A N 0 14) N ((A 17) (O - 1)))) 8 (upd (rf_make A N 0 8) N rr)) 9 (upd (rf_make A N 0 9) N c1)) 7 (upd (rf_make A N 0 7) q (nI N))) 18 (upd (A 18) (O - 1) (nI N))) 19 (upd (A 19) (O - 1) 0)) th co at_ v (nI (N + 1)) nu (nI O) pi wi he de) hP mkM_u19
    subst hv
    exact fh_vret X hP hS (fh_d d_Mo_cell 68 rfl) ⟨rfl, rfl, rfl⟩
  refine lv_aload_n hx hb (fh_d d_Mo_cell 0 rfl) rfl (lv_at hl 0 rfl) ?_
  refine fh_get (own := "FormulaSetterModel") (ref := "FormulaSetterModel") (C := "FormulaSetterModel") (T := T_Mo) (N := 53) (v := .ref (x + 19)) hx hb hT i_Mo hown hK hP mkM_o rfl 25 (by decide) (hT _ w885) (fun _ h9 => h9) rfl (fh_d d_Mo_cell 1 rfl) ?_
  refine lv_aload_n hx hb (fh_d d_Mo_cell 2 rfl) rfl (lv_at hl 0 rfl) ?_
  refine fh_get (own := "FormulaSetterModel") (ref := "FormulaSetterModel") (C := "FormulaSetterModel") (T := T_Mo) (N := 53) (v := .int (nI O)) hx hb hT i_Mo hown hK hP mkM_o rfl 22 (by decide) (hT _ w882) (fun _ h9 => h9) rfl (fh_d d_Mo_cell 3 rfl) ?_
  refine lv_iconst (v := 1) hx hb (fh_d d_Mo_cell 4 rfl) (by decide) ?_
  refine lv_isub hx hb (fh_d d_Mo_cell 5 rfl) ?_
  refine fn_iald (f := A 18) (k := O - 1) hx hb hK hP 0 mkM_a18 rfl (nI_m1 hO) (by omega) (by decide) (fh_d d_Mo_cell 6 rfl) ?_
  refine lv_istore_n (lv' := [(3, .int ((A 18) (O - 1))), (0, .ref x), (1, .int rr), (2, .int c1)]) hx hb (fh_d d_Mo_cell 7 rfl) rfl hl (by decide) rfl (fun ls hl => ?_)
  refine lv_aload_n hx hb (fh_d d_Mo_cell 8 rfl) rfl (lv_at hl 1 rfl) ?_
  refine lv_aload_n hx hb (fh_d d_Mo_cell 9 rfl) rfl (lv_at hl 1 rfl) ?_
  refine fh_get (own := "FormulaSetterModel") (ref := "FormulaSetterModel") (C := "FormulaSetterModel") (T := T_Mo) (N := 53) (v := .int wr) hx hb hT i_Mo hown hK hP mkM_o rfl 4 (by decide) (hT _ w864) (fun _ h9 => h9) rfl (fh_d d_Mo_cell 10 rfl) ?_
  refine lv_if_ne (tgt := 32) hx hb (fh_d d_Mo_cell 11 rfl) rfl (fun c3 => ?_) (fun c3 => ?_)
  · refine lv_iconst (v := 1) hx hb (fh_d d_Mo_cell 18 rfl) (by decide) ?_
    refine lv_goto (tgt := 37) hx hb (fh_d d_Mo_cell 19 rfl) rfl ?_
    refine J 1 ?_ ⟨by decide, by decide⟩ H _ _ hP hS hl
    exact (if_pos (Or.inl c3)).symm
  · refine lv_iload_n hx hb (fh_d d_Mo_cell 12 rfl) rfl (lv_at hl 2 rfl) ?_
    refine lv_bipush (v := 7) hx hb (fh_d d_Mo_cell 13 rfl) (by decide) ?_
    refine lv_icmp_gt (tgt := 32) hx hb (fh_d d_Mo_cell 14 rfl) rfl (fun c4 => ?_) (fun c4 => ?_)
    · refine lv_iconst (v := 1) hx hb (fh_d d_Mo_cell 18 rfl) (by decide) ?_
      refine lv_goto (tgt := 37) hx hb (fh_d d_Mo_cell 19 rfl) rfl ?_
      refine J 1 ?_ ⟨by decide, by decide⟩ H _ _ hP hS hl
      exact (if_pos (Or.inr (Or.inl c4))).symm
    · refine lv_iload_n hx hb (fh_d d_Mo_cell 15 rfl) rfl (lv_at hl 3 rfl) ?_
      refine lv_bipush (v := 7) hx hb (fh_d d_Mo_cell 16 rfl) (by decide) ?_
      refine lv_icmp_le (tgt := 36) hx hb (fh_d d_Mo_cell 17 rfl) rfl (fun c5 => ?_) (fun c5 => ?_)
      · refine lv_iconst (v := 0) hx hb (fh_d d_Mo_cell 20 rfl) (by decide) ?_
        refine J 0 ?_ ⟨by decide, by decide⟩ H _ _ hP hS hl
        refine (if_neg ?_).symm
        rintro (q9 | q9 | q9)
        · exact q9 c3
        · exact c4 q9
        · exact absurd c5 (Int32.not_le.mpr q9)
      · refine lv_iconst (v := 1) hx hb (fh_d d_Mo_cell 18 rfl) (by decide) ?_
        refine lv_goto (tgt := 37) hx hb (fh_d d_Mo_cell 19 rfl) rfl ?_
        refine J 1 ?_ ⟨by decide, by decide⟩ H _ _ hP hS hl
        exact (if_pos (Or.inr (Or.inr (Int32.not_le.mp c5)))).symm

/-- a side -/
abbrev isSd (c : Int32) : Prop := c = 40 ∨ c = 41 ∨ c = 91 ∨ c = 93 ∨ c = 124 ∨ c = 46
set_option maxHeartbeats 4000000 in
set_option maxRecDepth 100000 in
theorem m_Mo_side (l : Launch) (D : va_G) (ct : Nat → ClassId) (b : Nat) (RO : State → Prop) (hR : fh_R b RO) (r : Nat) (hr : 2 ≤ r) (n x : Nat) (g : fh_H) (A : Nat → Nat → Int32) (th wr no nu op pi wi he de : Int32) (L a0 : Nat) (hL : L ≤ 160) (ha0 : a0 ≤ 900) : fh_C l D fh_cl (fh_tys ct) b RO y_Mo_side (Cond.code y_Mo_side c_Mo_side 3 (Option.some FieldType.int) :: fh_T) (fh_rm r 0 0) [.ref x] (mkM ct x g A th (nI L) (nI a0) wr no nu op pi wi he de) n (fun v h' n' => v = some (.int (if isSd (hre (A 0) L (sk (A 0) L a0)) then hre (A 0) L (sk (A 0) L a0) else -1)) ∧ h' = mkM ct x g A th (nI L) (nI (sk (A 0) L a0 + 1)) wr no nu op pi wi he de ∧ n' = n) 0 0 := by
  refine fh_enter (by decide) (Nat.le_of_ble_eq_true rfl) [(0, .ref x)] rfl ?_
  intro p e s m args below meth c H ls X hP hS hl
  have hx := X.1
  have hb := X.2.1
  have hml := X.2.2.1
  have hown : s.vm.findClass "FormulaSetterModel" = some m.cls := X.2.2.2.1
  have hT := X.2.2.2.2.1
  have hK := X.2.2.2.2.2.1
  have hRO := X.2.2.2.2.2.2.1
  have hnm : meth.name = "side" := X.2.2.2.2.2.2.2.2.2.2
  have J1 : ∀ (hv : isSd (hre (A 0) L (sk (A 0) L a0))) (H : Heap) (locs : List Loc) (ls : Array Slot), fh_P D fh_cl b (mkM ct x g A th (nI L) (nI (sk (A 0) L a0)) wr no nu op pi wi he de) n H → va_S (fh_A b) s.heap H locs → lv_has ls 3 [(1, .int (hre (A 0) L (sk (A 0) L a0))), (0, .ref x)] → W p l e (fh_rm r 0 0) s m args below meth c H locs 0 0 (MQ below (fh_Post D fh_cl b (fun v h' n' => v = some (.int (if isSd (hre (A 0) L (sk (A 0) L a0)) then hre (A 0) L (sk (A 0) L a0) else -1)) ∧ h' = mkM ct x g A th (nI L) (nI (sk (A 0) L a0 + 1)) wr no nu op pi wi he de ∧ n' = n)) args s 0 0 (fh_A b)) (F0 m 51 ls [.int 1]) := by
    intro hv H locs ls hP hS hl
    refine lv_istore_n (lv' := [(2, .int 1), (1, .int (hre (A 0) L (sk (A 0) L a0))), (0, .ref x)]) hx hb (fh_d d_Mo_side 27 rfl) rfl hl (by decide) rfl (fun ls hl => ?_)
    refine lv_aload_n hx hb (fh_d d_Mo_side 28 rfl) rfl (lv_at hl 2 rfl) ?_
    refine lv_dup hx hb (fh_d d_Mo_side 29 rfl) rfl ?_
    refine fh_get (own := "FormulaSetterModel") (ref := "FormulaSetterModel") (C := "FormulaSetterModel") (T := T_Mo) (N := 53) (v := .int (nI (sk (A 0) L a0))) hx hb hT i_Mo hown hK hP mkM_o rfl 3 (by decide) (hT _ w863) (fun _ h9 => h9) rfl (fh_d d_Mo_side 30 rfl) ?_
    refine lv_iconst (v := 1) hx hb (fh_d d_Mo_side 31 rfl) (by decide) ?_
    refine lv_iadd hx hb (fh_d d_Mo_side 32 rfl) ?_
    refine fh_put (own := "FormulaSetterModel") (ref := "FormulaSetterModel") (C := "FormulaSetterModel") (T := T_Mo) (N := 53) (v := .int ((nI (sk (A 0) L a0)) + 1)) (ty := .int) hx hb hT i_Mo t_Mo k_Mo n_Mo hown hK hP hS mkM_o rfl 3 (by decide) (hT _ w863) (fun _ h9 => h9) rfl (by decide +kernel) rfl rfl (Nat.le_of_ble_eq_true rfl) (fh_d d_Mo_side 33 rfl) (fun H locs hP hS => ?_)
    replace hP := fh_P.eq (h' := mkM ct x g A th (nI L) ((nI (sk (A 0) L a0)) + 1) wr no nu op pi wi he de) hP mkM_ux
    refine lv_iload_n hx hb (fh_d d_Mo_side 34 rfl) rfl (lv_at hl 0 rfl) ?_
    refine lv_if_eq (tgt := 70) hx hb (fh_d d_Mo_side 35 rfl) rfl (fun c1 => absurd c1 (by decide)) (fun c1 => ?_)
    refine lv_iload_n hx hb (fh_d d_Mo_side 36 rfl) rfl (lv_at hl 1 rfl) ?_
    refine lv_goto (tgt := 71) hx hb (fh_d d_Mo_side 37 rfl) rfl ?_
    exact fh_iret X hP hS (fh_d d_Mo_side 39 rfl) ⟨by rw [if_pos hv], by rw [nI_1], rfl⟩
  have J0 : ∀ (hv : ¬ isSd (hre (A 0) L (sk (A 0) L a0))) (H : Heap) (locs : List Loc) (ls : Array Slot), fh_P D fh_cl b (mkM ct x g A th (nI L) (nI (sk (A 0) L a0)) wr no nu op pi wi he de) n H → va_S (fh_A b) s.heap H locs → lv_has ls 3 [(1, .int (hre (A 0) L (sk (A 0) L a0))), (0, .ref x)] → W p l e (fh_rm r 0 0) s m args below meth c H locs 0 0 (MQ below (fh_Post D fh_cl b (fun v h' n' => v = some (.int (if isSd (hre (A 0) L (sk (A 0) L a0)) then hre (A 0) L (sk (A 0) L a0) else -1)) ∧ h' = mkM ct x g A th (nI L) (nI (sk (A 0) L a0 + 1)) wr no nu op pi wi he de ∧ n' = n)) args s 0 0 (fh_A b)) (F0 m 51 ls [.int 0]) := by
    intro hv H locs ls hP hS hl
    refine lv_istore_n (lv' := [(2, .int 0), (1, .int (hre (A 0) L (sk (A 0) L a0))), (0, .ref x)]) hx hb (fh_d d_Mo_side 27 rfl) rfl hl (by decide) rfl (fun ls hl => ?_)
    refine lv_aload_n hx hb (fh_d d_Mo_side 28 rfl) rfl (lv_at hl 2 rfl) ?_
    refine lv_dup hx hb (fh_d d_Mo_side 29 rfl) rfl ?_
    refine fh_get (own := "FormulaSetterModel") (ref := "FormulaSetterModel") (C := "FormulaSetterModel") (T := T_Mo) (N := 53) (v := .int (nI (sk (A 0) L a0))) hx hb hT i_Mo hown hK hP mkM_o rfl 3 (by decide) (hT _ w863) (fun _ h9 => h9) rfl (fh_d d_Mo_side 30 rfl) ?_
    refine lv_iconst (v := 1) hx hb (fh_d d_Mo_side 31 rfl) (by decide) ?_
    refine lv_iadd hx hb (fh_d d_Mo_side 32 rfl) ?_
    refine fh_put (own := "FormulaSetterModel") (ref := "FormulaSetterModel") (C := "FormulaSetterModel") (T := T_Mo) (N := 53) (v := .int ((nI (sk (A 0) L a0)) + 1)) (ty := .int) hx hb hT i_Mo t_Mo k_Mo n_Mo hown hK hP hS mkM_o rfl 3 (by decide) (hT _ w863) (fun _ h9 => h9) rfl (by decide +kernel) rfl rfl (Nat.le_of_ble_eq_true rfl) (fh_d d_Mo_side 33 rfl) (fun H locs hP hS => ?_)
    replace hP := fh_P.eq (h' := mkM ct x g A th (nI L) ((nI (sk (A 0) L a0)) + 1) wr no nu op pi wi he de) hP mkM_ux
    refine lv_iload_n hx hb (fh_d d_Mo_side 34 rfl) rfl (lv_at hl 0 rfl) ?_
    refine lv_if_eq (tgt := 70) hx hb (fh_d d_Mo_side 35 rfl) rfl (fun c2 => ?_) (fun c2 => absurd c2 (fun c9 => c2 rfl))
    refine lv_iconst (v := (-1)) hx hb (fh_d d_Mo_side 38 rfl) (by decide) ?_
    exact fh_iret X hP hS (fh_d d_Mo_side 39 rfl) ⟨by rw [if_neg hv], by rw [nI_1], rfl⟩
  refine lv_aload_n hx hb (fh_d d_Mo_side 0 rfl) rfl (lv_at hl 0 rfl) ?_
  refine fh_callV (cc' := c_Mo_blanks) (nL' := 1) (rest := []) (a := x) (As := []) X hR (m_Mo_blanks l D ct b RO hR (r - 1) (by omega) n x g A th wr no nu op pi wi he de L a0 hL (by omega)) w1056 w1053 w1055 v35 w9 ⟨by decide, by decide, by show _ = some 0; decide +kernel⟩ (by omega) (by decide) (fh_recv hK hP mkM_o rfl) hP hS hl.1 rfl (by exact Nat.le_of_ble_eq_true rfl) (fh_d d_Mo_side 1 rfl) ⟨Nat.le_refl _, Nat.le_refl _⟩ (fun v9 h9 n9 H locs hq hP hS => ?_)
  obtain ⟨rfl, u3, u4⟩ := hq
  rw [u3, u4] at hP
  have hsk := (sk_ge (A 0) L _ a0 rfl)
  have hsk2 : sk (A 0) L a0 ≤ 1000 := by
    by_cases q9 : a0 ≤ L
    · have := hsk.2 q9; omega
    · rw [sk_n (by omega)]; omega
  refine lv_aload_n hx hb (fh_d d_Mo_side 2 rfl) rfl (lv_at hl 0 rfl) ?_
  refine lv_iconst (v := 0) hx hb (fh_d d_Mo_side 3 rfl) (by decide) ?_
  refine fh_callV (cc' := c_Mo_here) (nL' := 2) (rest := []) (a := x) (As := [.int 0]) X hR (m_Mo_here l D ct b RO (r - 1) n x g A th wr no nu op pi wi he de L (sk (A 0) L a0)  (0) hL (by omega)) w1060 w1057 w1059 v36 w9 ⟨by decide, by decide, by show _ = some 1; decide +kernel⟩ (by omega) (by decide) (fh_recv hK hP mkM_o rfl) hP hS hl.1 rfl (by exact Nat.le_of_ble_eq_true rfl) (fh_d d_Mo_side 4 rfl) ⟨Nat.le_refl _, Nat.le_refl _⟩ (fun v9 h9 n9 H locs hq hP hS => ?_)
  obtain ⟨rfl, u5, u6⟩ := hq
  rw [u5, u6] at hP
  have hq0 : (if sk (A 0) L a0 + 0 < L then A 0 (sk (A 0) L a0 + 0) else 0) = hre (A 0) L (sk (A 0) L a0) := rfl
  rw [hq0]
  refine lv_istore_n (lv' := [(1, .int (hre (A 0) L (sk (A 0) L a0))), (0, .ref x)]) hx hb (fh_d d_Mo_side 5 rfl) rfl hl (by decide) rfl (fun ls hl => ?_)
  refine lv_iload_n hx hb (fh_d d_Mo_side 6 rfl) rfl (lv_at hl 0 rfl) ?_
  refine lv_bipush (v := 40) hx hb (fh_d d_Mo_side 7 rfl) (by decide) ?_
  refine lv_icmp_eq (tgt := 46) hx hb (fh_d d_Mo_side 8 rfl) rfl (fun c7 => ?_) (fun c7 => ?_)
  · refine lv_iconst (v := 1) hx hb (fh_d d_Mo_side 24 rfl) (by decide) ?_
    refine lv_goto (tgt := 51) hx hb (fh_d d_Mo_side 25 rfl) rfl ?_
    exact J1 (Or.inl c7) H _ _ hP hS hl
  · refine lv_iload_n hx hb (fh_d d_Mo_side 9 rfl) rfl (lv_at hl 0 rfl) ?_
    refine lv_bipush (v := 41) hx hb (fh_d d_Mo_side 10 rfl) (by decide) ?_
    refine lv_icmp_eq (tgt := 46) hx hb (fh_d d_Mo_side 11 rfl) rfl (fun c8 => ?_) (fun c8 => ?_)
    · refine lv_iconst (v := 1) hx hb (fh_d d_Mo_side 24 rfl) (by decide) ?_
      refine lv_goto (tgt := 51) hx hb (fh_d d_Mo_side 25 rfl) rfl ?_
      exact J1 (Or.inr (Or.inl c8)) H _ _ hP hS hl
    · refine lv_iload_n hx hb (fh_d d_Mo_side 12 rfl) rfl (lv_at hl 0 rfl) ?_
      refine lv_bipush (v := 91) hx hb (fh_d d_Mo_side 13 rfl) (by decide) ?_
      refine lv_icmp_eq (tgt := 46) hx hb (fh_d d_Mo_side 14 rfl) rfl (fun c9 => ?_) (fun c9 => ?_)
      · refine lv_iconst (v := 1) hx hb (fh_d d_Mo_side 24 rfl) (by decide) ?_
        refine lv_goto (tgt := 51) hx hb (fh_d d_Mo_side 25 rfl) rfl ?_
        exact J1 (Or.inr (Or.inr (Or.inl c9))) H _ _ hP hS hl
      · refine lv_iload_n hx hb (fh_d d_Mo_side 15 rfl) rfl (lv_at hl 0 rfl) ?_
        refine lv_bipush (v := 93) hx hb (fh_d d_Mo_side 16 rfl) (by decide) ?_
        refine lv_icmp_eq (tgt := 46) hx hb (fh_d d_Mo_side 17 rfl) rfl (fun c10 => ?_) (fun c10 => ?_)
        · refine lv_iconst (v := 1) hx hb (fh_d d_Mo_side 24 rfl) (by decide) ?_
          refine lv_goto (tgt := 51) hx hb (fh_d d_Mo_side 25 rfl) rfl ?_
          exact J1 (Or.inr (Or.inr (Or.inr (Or.inl c10)))) H _ _ hP hS hl
        · refine lv_iload_n hx hb (fh_d d_Mo_side 18 rfl) rfl (lv_at hl 0 rfl) ?_
          refine lv_bipush (v := 124) hx hb (fh_d d_Mo_side 19 rfl) (by decide) ?_
          refine lv_icmp_eq (tgt := 46) hx hb (fh_d d_Mo_side 20 rfl) rfl (fun c11 => ?_) (fun c11 => ?_)
          · refine lv_iconst (v := 1) hx hb (fh_d d_Mo_side 24 rfl) (by decide) ?_
            refine lv_goto (tgt := 51) hx hb (fh_d d_Mo_side 25 rfl) rfl ?_
            exact J1 (Or.inr (Or.inr (Or.inr (Or.inr (Or.inl c11))))) H _ _ hP hS hl
          · refine lv_iload_n hx hb (fh_d d_Mo_side 21 rfl) rfl (lv_at hl 0 rfl) ?_
            refine lv_bipush (v := 46) hx hb (fh_d d_Mo_side 22 rfl) (by decide) ?_
            refine lv_icmp_ne (tgt := 50) hx hb (fh_d d_Mo_side 23 rfl) rfl (fun c12 => ?_) (fun c12 => ?_)
            · refine lv_iconst (v := 0) hx hb (fh_d d_Mo_side 26 rfl) (by decide) ?_
              refine J0 ?_ H _ _ hP hS hl
              rintro (q9 | q9 | q9 | q9 | q9 | q9)
              · exact c7 q9
              · exact c8 q9
              · exact c9 q9
              · exact c10 q9
              · exact c11 q9
              · exact c12 q9
            · refine lv_iconst (v := 1) hx hb (fh_d d_Mo_side 24 rfl) (by decide) ?_
              refine lv_goto (tgt := 51) hx hb (fh_d d_Mo_side 25 rfl) rfl ?_
              exact J1 (Or.inr (Or.inr (Or.inr (Or.inr (Or.inr (c12)))))) H _ _ hP hS hl
