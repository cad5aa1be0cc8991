/-! The reference: obey. Printed by wip/whole/gen/p28.py -/
/-- where the reading stands: arrays, at, wrong, nodes, nuclei, open -/
abbrev RS : Type := (Nat → Nat → Int32) × Nat × Int32 × Nat × Nat × Nat
abbrev mkS (ct : Nat → ClassId) (x : Nat) (g : fh_H) (th : Int32) (L : Nat) (z : RS) (pi wi he de : Int32) : fh_H := mkM ct x g z.1 th (nI L) (nI z.2.1) z.2.2.1 (nI z.2.2.2.1) (nI z.2.2.2.2.1) (nI z.2.2.2.2.2) pi wi he de
abbrev rz_u (A : Nat → Nat → Int32) (O : Nat) : Nat := ixI (A 17 (O - 1))
abbrev rz_N (A : Nat → Nat → Int32) (N O : Nat) (wh cl : Int32) : Nat → Nat → Int32 := rf_nuc A N O (rz_u A O) wh cl
abbrev rz_W (A : Nat → Nat → Int32) (O U : Nat) (w : Int32) : Int32 := rf_nw A O (rz_u A O) U w
/-- a nucleus with a code that is whole at once -/
def rz_one (A : Nat → Nat → Int32) (a1 : Nat) (w : Int32) (N U O : Nat) (wh cl v : Int32) : RS := ((rf_del O (up2 (rz_N A N O wh cl) 2 (upd (rz_N A N O wh cl 2) N v)) N).1, a1, rz_W A O U w, N + 1, U + 1, (rf_del O (up2 (rz_N A N O wh cl) 2 (upd (rz_N A N O wh cl 2) N v)) N).2)
/-- a command with parts -/
def rz_cmd (A : Nat → Nat → Int32) (a1 : Nat) (w : Int32) (N U O : Nat) (wh cl : Int32) : RS := (rf_push (rz_N A N O wh cl) O 4 (nI N) 0, a1, rz_W A O U w, N + 1, U + 1, O + 1)
abbrev rz_sd (A : Nat → Nat → Int32) (L a1 : Nat) : Int32 := if isSd (hre (A 0) L (sk (A 0) L a1)) then hre (A 0) L (sk (A 0) L a1) else -1
abbrev orw (w : Int32) (p : Prop) [Decidable p] : Int32 := if ¬ w = 0 ∨ p then 1 else 0
def rz_left (A : Nat → Nat → Int32) (L a1 : Nat) (w : Int32) (N U O : Nat) : RS := (rf_ins (up2 (rz_N A N O 8 7) 2 (upd (rz_N A N O 8 7 2) N (rz_sd A L a1))) (N + 1) O N 2, sk (A 0) L a1 + 1, orw (rz_W A O U w) (rz_sd A L a1 < 0), N + 2, U + 1, O + 1)
def rz_mat (A : Nat → Nat → Int32) (L a1 : Nat) (w : Int32) (N U O : Nat) : RS := (rf_ins (rz_N A N O 9 7) (N + 1) O N 3, sk (A 0) L a1 + 1, orw (rz_W A O U w) (¬ hre (A 0) L (sk (A 0) L a1) = 123), N + 2, U + 1, O + 1)
def rz_obey (A : Nat → Nat → Int32) (L a : Nat) (w : Int32) (N U O : Nat) (nm : Int64) : RS :=
  if nm = 7566701 then rz_one A (a + ll (A 0) L a 1) w N U O 2 1 83 else if nm = 1886547812 then rz_one A (a + ll (A 0) L a 1) w N U O 2 1 80 else if nm = 6909556 then rz_one A (a + ll (A 0) L a 1) w N U O 2 1 73
  else if nm = 1718772067 then rz_cmd A (a + ll (A 0) L a 1) w N U O 4 7 else if nm = 1936814708 then rz_cmd A (a + ll (A 0) L a 1) w N U O 5 0 else if nm = 6840692 then rz_cmd A (a + ll (A 0) L a 1) w N U O 6 0 else if nm = 6447474 then rz_cmd A (a + ll (A 0) L a 1) w N U O 7 0
  else if nm = 1818584692 then rz_left A L (a + ll (A 0) L a 1) w N U O else if nm = 7168372 then rz_mat A L (a + ll (A 0) L a 1) w N U O else (A, a + ll (A 0) L a 1, 1, N, U, O)
theorem ll_le (f : Nat → Int32) (L a : Nat) : ∀ j k, L - (a + k) = j → ll f L a k ≤ max k (L + 1) := by
  intro j
  induction j with
  | zero =>
    intro k h
    rw [ll_n (fun z => by have := isL_lt z; omega)]
    omega
  | succ j ih =>
    intro k h
    by_cases z : isL (hre f L (a + k))
    · rw [ll_y z]
      have := isL_lt z
      have := ih (k + 1) (by omega)
      omega
    · rw [ll_n z]; omega
theorem rf_nw_z (A : Nat → Nat → Int32) (O u U : Nat) (w : Int32) : rf_nw A O u U w = 0 ∨ rf_nw A O u U w = 1 := by
  unfold rf_nw
  split
  · exact Or.inr rfl
  · exact Or.inl rfl
set_option maxHeartbeats 4000000 in
set_option maxRecDepth 100000 in
theorem m_Mo_obey (l : Launch) (D : va_G) (ct : Nat → ClassId) (b : Nat) (RO : State → Prop) (hR : fh_R b RO) (r : Nat) (hr : 3 ≤ r) (n x : Nat) (g : fh_H) (A : Nat → Nat → Int32) (th wr pi wi he de : Int32) (nm : Int64) (L a N U O : Nat) (hL : L ≤ 160) (ha : a ≤ 300) (hN : N + 1 < 400) (hO : 1 ≤ O) (hO2 : O < 40) (hf : okf A O) : fh_C l D fh_cl (fh_tys ct) b RO y_Mo_obey (Cond.code y_Mo_obey c_Mo_obey 4 (Option.none : Option FieldType) :: fh_T) (fh_rm r 0 0) [.ref x, .long nm] (mkM ct x g A th (nI L) (nI a) wr (nI N) (nI U) (nI O) pi wi he de) n (fun v h' n' => v = none ∧ h' = mkS ct x g th L (rz_obey A L a wr N U O nm) pi wi he de ∧ n' = n) 0 0 := by
  refine fh_enter (by decide) (Nat.le_of_ble_eq_true rfl) [(0, .ref x), (1, .long nm)] rfl ?_
  intro p e s m args below meth c H ls X hP hS hl
  have hx := X.1
  have hb := X.2.1
  have hml := X.2.2.1
  have hown : s.vm.findClass "FormulaSetterModel" = some m.cls := X.2.2.2.1
  have hT := X.2.2.2.2.1
  have hK := X.2.2.2.2.2.1
  have hRO := X.2.2.2.2.2.2.1
  have hnm : meth.name = "obey" := X.2.2.2.2.2.2.2.2.2.2
  have hll := ll_le (A 0) L a _ 1 rfl
  have hu0 := (hf.1 (O - 1) (by omega)).1
  refine lv_aload_n hx hb (fh_d d_Mo_obey 0 rfl) rfl (lv_at hl 0 rfl) ?_
  refine lv_dup hx hb (fh_d d_Mo_obey 1 rfl) rfl ?_
  refine fh_get (own := "FormulaSetterModel") (ref := "FormulaSetterModel") (C := "FormulaSetterModel") (T := T_Mo) (N := 53) (v := .int (nI a)) hx hb hT i_Mo hown hK hP mkM_o rfl 3 (by decide) (hT _ w863) (fun _ h9 => h9) rfl (fh_d d_Mo_obey 2 rfl) ?_
  refine lv_aload_n hx hb (fh_d d_Mo_obey 3 rfl) rfl (lv_at hl 0 rfl) ?_
  refine fh_callV (cc' := c_Mo_letters) (nL' := 2) (rest := [.int (nI a), .ref x]) (a := x) (As := []) X hR (m_Mo_letters l D ct b RO hR (r - 1) (by omega) n x g A th wr (nI N) (nI U) (nI O) pi wi he de L a hL (by omega)) w1104 w1101 w1103 v46 w9 ⟨by decide, by decide, by show _ = some 0; decide +kernel⟩ (by omega) (by decide) (fh_recv hK hP mkM_o rfl) hP hS hl.1 rfl (by exact Nat.le_of_ble_eq_true rfl) (fh_d d_Mo_obey 4 rfl) ⟨Nat.le_refl _, Nat.le_refl _⟩ (fun v9 h9 n9 H locs hq hP hS => ?_)
  obtain ⟨rfl, u1, u2⟩ := hq
  rw [u1, u2] at hP
  refine lv_iadd hx hb (fh_d d_Mo_obey 5 rfl) ?_
  refine fh_put (own := "FormulaSetterModel") (ref := "FormulaSetterModel") (C := "FormulaSetterModel") (T := T_Mo) (N := 53) (v := .int ((nI a) + (nI (ll (A 0) L a 1)))) (ty := .int) hx hb hT i_Mo t_Mo k_Mo n_Mo hown hK hP hS mkM_o rfl 3 (by decide) (hT _ w863) (fun _ h9 => h9) rfl (by decide +kernel) rfl rfl (Nat.le_of_ble_eq_true rfl) (fh_d d_Mo_obey 6 rfl) (fun H locs hP hS => ?_)
  replace hP := fh_P.eq (h' := mkM ct x g A th (nI L) ((nI a) + (nI (ll (A 0) L a 1))) wr (nI N) (nI U) (nI O) pi wi he de) hP mkM_ux
  rw [nI_add] at hP
  by_cases e7566701 : nm = 7566701
  · subst e7566701
    refine lv_lload_n hx hb (fh_d d_Mo_obey 7 rfl) rfl (lv_at hl 1 rfl) ?_
    refine lv_ldc2 (v := 7566701) hx hb hown (hT _ w1105) (fh_d d_Mo_obey 8 rfl) ?_
    refine W.lcmp hx hb (fh_d d_Mo_obey 9 rfl) ?_
    refine lv_if_eq (tgt := 37) hx hb (fh_d d_Mo_obey 10 rfl) rfl (fun c3 => ?_) (fun c3 => absurd c3 (Classical.not_not.mpr (by decide)))
    refine lv_aload_n hx hb (fh_d d_Mo_obey 19 rfl) rfl (lv_at hl 0 rfl) ?_
    refine lv_iconst (v := 2) hx hb (fh_d d_Mo_obey 20 rfl) (by decide) ?_
    refine lv_iconst (v := 1) hx hb (fh_d d_Mo_obey 21 rfl) (by decide) ?_
    refine fh_callV (cc' := c_Mo_nucleus) (nL' := 5) (rest := []) (a := x) (As := [.int 2, .int 1]) X hR (m_Mo_nucleus l D ct b RO hR (r - 1) (by omega) n x g A th (nI L) (nI (a + ll (A 0) L a 1)) wr pi wi he de 2 1 N O U (rz_u A O) (by omega) hO (by omega) (fun _ => hu0)) w1092 w1089 w1091 v43 w9 ⟨by decide, by decide, by show _ = some 2; decide +kernel⟩ (by omega) (by decide) (fh_recv hK hP mkM_o rfl) hP hS hl.1 rfl (by exact Nat.le_of_ble_eq_true rfl) (fh_d d_Mo_obey 22 rfl) ⟨Nat.le_refl _, Nat.le_refl _⟩ (fun v9 h9 n9 H locs hq hP hS => ?_)
    obtain ⟨rfl, u4, u5⟩ := hq
    rw [u4, u5] at hP
    refine lv_istore_n (lv' := [(3, .int (nI N)), (0, .ref x), (1, .long 7566701)]) hx hb (fh_d d_Mo_obey 23 rfl) rfl hl (by decide) rfl (fun ls hl => ?_)
    refine lv_aload_n hx hb (fh_d d_Mo_obey 24 rfl) rfl (lv_at hl 1 rfl) ?_
    refine fh_get (own := "FormulaSetterModel") (ref := "FormulaSetterModel") (C := "FormulaSetterModel") (T := T_Mo) (N := 53) (v := .ref (x + 3)) hx hb hT i_Mo hown hK hP mkM_o rfl 8 (by decide) (hT _ w868) (fun _ h9 => h9) rfl (fh_d d_Mo_obey 25 rfl) ?_
    refine lv_iload_n hx hb (fh_d d_Mo_obey 26 rfl) rfl (lv_at hl 0 rfl) ?_
    refine lv_lload_n hx hb (fh_d d_Mo_obey 27 rfl) rfl (lv_at hl 2 rfl) ?_
    refine lv_ldc2 (v := 7566701) hx hb hown (hT _ w1105) (fh_d d_Mo_obey 28 rfl) ?_
    refine W.lcmp hx hb (fh_d d_Mo_obey 29 rfl) ?_
    refine lv_if_ne (tgt := 62) hx hb (fh_d d_Mo_obey 30 rfl) rfl (fun c6 => absurd c6 (Classical.not_not.mpr (by decide))) (fun c6 => ?_)
    refine lv_bipush (v := 83) hx hb (fh_d d_Mo_obey 31 rfl) (by decide) ?_
    refine lv_goto (tgt := 77) hx hb (fh_d d_Mo_obey 32 rfl) rfl ?_
    refine fn_iast (f := rz_N A N O 2 1 2) (k := N) hx hb hK hP hS 0 mkM_a2 rfl (rfl) (by omega) (by decide) (fh_d d_Mo_obey 40 rfl) (fun H locs hP hS => ?_)
    replace hP := fh_P.eq (h' := mkM ct x g (up2 (rz_N A N O 2 1) 2 (upd (rz_N A N O 2 1 2) N 83)) th (nI L) (nI (a + ll (A 0) L a 1)) (rz_W A O U wr) (nI (N + 1)) (nI (U + 1)) (nI O) pi wi he de) hP mkM_u2
    refine lv_aload_n hx hb (fh_d d_Mo_obey 41 rfl) rfl (lv_at hl 1 rfl) ?_
    refine lv_iload_n hx hb (fh_d d_Mo_obey 42 rfl) rfl (lv_at hl 0 rfl) ?_
    refine fh_callV (cc' := c_Mo_deliver) (nL' := 6) (rest := []) (a := x) (As := [.int (nI N)]) X hR (m_Mo_deliver l D ct b RO (r - 1) n x g (up2 (rz_N A N O 2 1) 2 (upd (rz_N A N O 2 1 2) N 83)) th (nI L) (nI (a + ll (A 0) L a 1)) (rz_W A O U wr) (nI (N + 1)) (nI (U + 1)) pi wi he de O N (by omega) hO (by omega) ⟨hf.1, hf.2⟩) w1068 w1065 w1067 v38 w9 ⟨by decide, by decide, by show _ = some 1; decide +kernel⟩ (by omega) (by decide) (fh_recv hK hP mkM_o rfl) hP hS hl.1 rfl (by exact Nat.le_of_ble_eq_true rfl) (fh_d d_Mo_obey 43 rfl) ⟨Nat.le_refl _, Nat.le_refl _⟩ (fun v9 h9 n9 H locs hq hP hS => ?_)
    obtain ⟨rfl, u7, u8⟩ := hq
    rw [u7, u8] at hP
    refine lv_goto (tgt := 315) hx hb (fh_d d_Mo_obey 44 rfl) rfl ?_
    refine fh_vret X hP hS (fh_d d_Mo_obey 166 rfl) ⟨rfl, ?_, rfl⟩
    have q9 : rz_obey A L a wr N U O 7566701 = rz_one A (a + ll (A 0) L a 1) wr N U O 2 1 83 := rfl
    rw [q9]
    unfold rz_one
    try rfl
  by_cases e1886547812 : nm = 1886547812
  · subst e1886547812
    refine lv_lload_n hx hb (fh_d d_Mo_obey 7 rfl) rfl (lv_at hl 1 rfl) ?_
    refine lv_ldc2 (v := 7566701) hx hb hown (hT _ w1105) (fh_d d_Mo_obey 8 rfl) ?_
    refine W.lcmp hx hb (fh_d d_Mo_obey 9 rfl) ?_
    refine lv_if_eq (tgt := 37) hx hb (fh_d d_Mo_obey 10 rfl) rfl (fun c9 => absurd c9 (by decide)) (fun c9 => ?_)
    refine lv_lload_n hx hb (fh_d d_Mo_obey 11 rfl) rfl (lv_at hl 1 rfl) ?_
    refine lv_ldc2 (v := 1886547812) hx hb hown (hT _ w1106) (fh_d d_Mo_obey 12 rfl) ?_
    refine W.lcmp hx hb (fh_d d_Mo_obey 13 rfl) ?_
    refine lv_if_eq (tgt := 37) hx hb (fh_d d_Mo_obey 14 rfl) rfl (fun c10 => ?_) (fun c10 => absurd c10 (Classical.not_not.mpr (by decide)))
    refine lv_aload_n hx hb (fh_d d_Mo_obey 19 rfl) rfl (lv_at hl 0 rfl) ?_
    refine lv_iconst (v := 2) hx hb (fh_d d_Mo_obey 20 rfl) (by decide) ?_
    refine lv_iconst (v := 1) hx hb (fh_d d_Mo_obey 21 rfl) (by decide) ?_
    refine fh_callV (cc' := c_Mo_nucleus) (nL' := 5) (rest := []) (a := x) (As := [.int 2, .int 1]) X hR (m_Mo_nucleus l D ct b RO hR (r - 1) (by omega) n x g A th (nI L) (nI (a + ll (A 0) L a 1)) wr pi wi he de 2 1 N O U (rz_u A O) (by omega) hO (by omega) (fun _ => hu0)) w1092 w1089 w1091 v43 w9 ⟨by decide, by decide, by show _ = some 2; decide +kernel⟩ (by omega) (by decide) (fh_recv hK hP mkM_o rfl) hP hS hl.1 rfl (by exact Nat.le_of_ble_eq_true rfl) (fh_d d_Mo_obey 22 rfl) ⟨Nat.le_refl _, Nat.le_refl _⟩ (fun v9 h9 n9 H locs hq hP hS => ?_)
    obtain ⟨rfl, u11, u12⟩ := hq
    rw [u11, u12] at hP
    refine lv_istore_n (lv' := [(3, .int (nI N)), (0, .ref x), (1, .long 1886547812)]) hx hb (fh_d d_Mo_obey 23 rfl) rfl hl (by decide) rfl (fun ls hl => ?_)
    refine lv_aload_n hx hb (fh_d d_Mo_obey 24 rfl) rfl (lv_at hl 1 rfl) ?_
    refine fh_get (own := "FormulaSetterModel") (ref := "FormulaSetterModel") (C := "FormulaSetterModel") (T := T_Mo) (N := 53) (v := .ref (x + 3)) hx hb hT i_Mo hown hK hP mkM_o rfl 8 (by decide) (hT _ w868) (fun _ h9 => h9) rfl (fh_d d_Mo_obey 25 rfl) ?_
    refine lv_iload_n hx hb (fh_d d_Mo_obey 26 rfl) rfl (lv_at hl 0 rfl) ?_
    refine lv_lload_n hx hb (fh_d d_Mo_obey 27 rfl) rfl (lv_at hl 2 rfl) ?_
    refine lv_ldc2 (v := 7566701) hx hb hown (hT _ w1105) (fh_d d_Mo_obey 28 rfl) ?_
    refine W.lcmp hx hb (fh_d d_Mo_obey 29 rfl) ?_
    refine lv_if_ne (tgt := 62) hx hb (fh_d d_Mo_obey 30 rfl) rfl (fun c13 => ?_) (fun c13 => absurd c13 (by decide))
    refine lv_lload_n hx hb (fh_d d_Mo_obey 33 rfl) rfl (lv_at hl 2 rfl) ?_
    refine lv_ldc2 (v := 1886547812) hx hb hown (hT _ w1106) (fh_d d_Mo_obey 34 rfl) ?_
    refine W.lcmp hx hb (fh_d d_Mo_obey 35 rfl) ?_
    refine lv_if_ne (tgt := 75) hx hb (fh_d d_Mo_obey 36 rfl) rfl (fun c14 => absurd c14 (Classical.not_not.mpr (by decide))) (fun c14 => ?_)
    refine lv_bipush (v := 80) hx hb (fh_d d_Mo_obey 37 rfl) (by decide) ?_
    refine lv_goto (tgt := 77) hx hb (fh_d d_Mo_obey 38 rfl) rfl ?_
    refine fn_iast (f := rz_N A N O 2 1 2) (k := N) hx hb hK hP hS 0 mkM_a2 rfl (rfl) (by omega) (by decide) (fh_d d_Mo_obey 40 rfl) (fun H locs hP hS => ?_)
    replace hP := fh_P.eq (h' := mkM ct x g (up2 (rz_N A N O 2 1) 2 (upd (rz_N A N O 2 1 2) N 80)) th (nI L) (nI (a + ll (A 0) L a 1)) (rz_W A O U wr) (nI (N + 1)) (nI (U + 1)) (nI O) pi wi he de) hP mkM_u2
    refine lv_aload_n hx hb (fh_d d_Mo_obey 41 rfl) rfl (lv_at hl 1 rfl) ?_
    refine lv_iload_n hx hb (fh_d d_Mo_obey 42 rfl) rfl (lv_at hl 0 rfl) ?_
    refine fh_callV (cc' := c_Mo_deliver) (nL' := 6) (rest := []) (a := x) (As := [.int (nI N)]) X hR (m_Mo_deliver l D ct b RO (r - 1) n x g (up2 (rz_N A N O 2 1) 2 (upd (rz_N A N O 2 1 2) N 80)) th (nI L) (nI (a + ll (A 0) L a 1)) (rz_W A O U wr) (nI (N + 1)) (nI (U + 1)) pi wi he de O N (by omega) hO (by omega) ⟨hf.1, hf.2⟩) w1068 w1065 w1067 v38 w9 ⟨by decide, by decide, by show _ = some 1; decide +kernel⟩ (by omega) (by decide) (fh_recv hK hP mkM_o rfl) hP hS hl.1 rfl (by exact Nat.le_of_ble_eq_true rfl) (fh_d d_Mo_obey 43 rfl) ⟨Nat.le_refl _, Nat.le_refl _⟩ (fun v9 h9 n9 H locs hq hP hS => ?_)
    obtain ⟨rfl, u15, u16⟩ := hq
    rw [u15, u16] at hP
    refine lv_goto (tgt := 315) hx hb (fh_d d_Mo_obey 44 rfl) rfl ?_
    refine fh_vret X hP hS (fh_d d_Mo_obey 166 rfl) ⟨rfl, ?_, rfl⟩
    have q9 : rz_obey A L a wr N U O 1886547812 = rz_one A (a + ll (A 0) L a 1) wr N U O 2 1 80 := rfl
    rw [q9]
    unfold rz_one
    try rfl
  by_cases e6909556 : nm = 6909556
  · subst e6909556
    refine lv_lload_n hx hb (fh_d d_Mo_obey 7 rfl) rfl (lv_at hl 1 rfl) ?_
    refine lv_ldc2 (v := 7566701) hx hb hown (hT _ w1105) (fh_d d_Mo_obey 8 rfl) ?_
    refine W.lcmp hx hb (fh_d d_Mo_obey 9 rfl) ?_
    refine lv_if_eq (tgt := 37) hx hb (fh_d d_Mo_obey 10 rfl) rfl (fun c17 => absurd c17 (by decide)) (fun c17 => ?_)
    refine lv_lload_n hx hb (fh_d d_Mo_obey 11 rfl) rfl (lv_at hl 1 rfl) ?_
    refine lv_ldc2 (v := 1886547812) hx hb hown (hT _ w1106) (fh_d d_Mo_obey 12 rfl) ?_
    refine W.lcmp hx hb (fh_d d_Mo_obey 13 rfl) ?_
    refine lv_if_eq (tgt := 37) hx hb (fh_d d_Mo_obey 14 rfl) rfl (fun c18 => absurd c18 (by decide)) (fun c18 => ?_)
    refine lv_lload_n hx hb (fh_d d_Mo_obey 15 rfl) rfl (lv_at hl 1 rfl) ?_
    refine lv_ldc2 (v := 6909556) hx hb hown (hT _ w1107) (fh_d d_Mo_obey 16 rfl) ?_
    refine W.lcmp hx hb (fh_d d_Mo_obey 17 rfl) ?_
    refine lv_if_ne (tgt := 86) hx hb (fh_d d_Mo_obey 18 rfl) rfl (fun c19 => absurd c19 (Classical.not_not.mpr (by decide))) (fun c19 => ?_)
    refine lv_aload_n hx hb (fh_d d_Mo_obey 19 rfl) rfl (lv_at hl 0 rfl) ?_
    refine lv_iconst (v := 2) hx hb (fh_d d_Mo_obey 20 rfl) (by decide) ?_
    refine lv_iconst (v := 1) hx hb (fh_d d_Mo_obey 21 rfl) (by decide) ?_
    refine fh_callV (cc' := c_Mo_nucleus) (nL' := 5) (rest := []) (a := x) (As := [.int 2, .int 1]) X hR (m_Mo_nucleus l D ct b RO hR (r - 1) (by omega) n x g A th (nI L) (nI (a + ll (A 0) L a 1)) wr pi wi he de 2 1 N O U (rz_u A O) (by omega) hO (by omega) (fun _ => hu0)) w1092 w1089 w1091 v43 w9 ⟨by decide, by decide, by show _ = some 2; decide +kernel⟩ (by omega) (by decide) (fh_recv hK hP mkM_o rfl) hP hS hl.1 rfl (by exact Nat.le_of_ble_eq_true rfl) (fh_d d_Mo_obey 22 rfl) ⟨Nat.le_refl _, Nat.le_refl _⟩ (fun v9 h9 n9 H locs hq hP hS => ?_)
    obtain ⟨rfl, u20, u21⟩ := hq
    rw [u20, u21] at hP
    refine lv_istore_n (lv' := [(3, .int (nI N)), (0, .ref x), (1, .long 6909556)]) hx hb (fh_d d_Mo_obey 23 rfl) rfl hl (by decide) rfl (fun ls hl => ?_)
    refine lv_aload_n hx hb (fh_d d_Mo_obey 24 rfl) rfl (lv_at hl 1 rfl) ?_
    refine fh_get (own := "FormulaSetterModel") (ref := "FormulaSetterModel") (C := "FormulaSetterModel") (T := T_Mo) (N := 53) (v := .ref (x + 3)) hx hb hT i_Mo hown hK hP mkM_o rfl 8 (by decide) (hT _ w868) (fun _ h9 => h9) rfl (fh_d d_Mo_obey 25 rfl) ?_
    refine lv_iload_n hx hb (fh_d d_Mo_obey 26 rfl) rfl (lv_at hl 0 rfl) ?_
    refine lv_lload_n hx hb (fh_d d_Mo_obey 27 rfl) rfl (lv_at hl 2 rfl) ?_
    refine lv_ldc2 (v := 7566701) hx hb hown (hT _ w1105) (fh_d d_Mo_obey 28 rfl) ?_
    refine W.lcmp hx hb (fh_d d_Mo_obey 29 rfl) ?_
    refine lv_if_ne (tgt := 62) hx hb (fh_d d_Mo_obey 30 rfl) rfl (fun c22 => ?_) (fun c22 => absurd c22 (by decide))
    refine lv_lload_n hx hb (fh_d d_Mo_obey 33 rfl) rfl (lv_at hl 2 rfl) ?_
    refine lv_ldc2 (v := 1886547812) hx hb hown (hT _ w1106) (fh_d d_Mo_obey 34 rfl) ?_
    refine W.lcmp hx hb (fh_d d_Mo_obey 35 rfl) ?_
    refine lv_if_ne (tgt := 75) hx hb (fh_d d_Mo_obey 36 rfl) rfl (fun c23 => ?_) (fun c23 => absurd c23 (by decide))
    refine lv_bipush (v := 73) hx hb (fh_d d_Mo_obey 39 rfl) (by decide) ?_
    refine fn_iast (f := rz_N A N O 2 1 2) (k := N) hx hb hK hP hS 0 mkM_a2 rfl (rfl) (by omega) (by decide) (fh_d d_Mo_obey 40 rfl) (fun H locs hP hS => ?_)
    replace hP := fh_P.eq (h' := mkM ct x g (up2 (rz_N A N O 2 1) 2 (upd (rz_N A N O 2 1 2) N 73)) th (nI L) (nI (a + ll (A 0) L a 1)) (rz_W A O U wr) (nI (N + 1)) (nI (U + 1)) (nI O) pi wi he de) hP mkM_u2
    refine lv_aload_n hx hb (fh_d d_Mo_obey 41 rfl) rfl (lv_at hl 1 rfl) ?_
    refine lv_iload_n hx hb (fh_d d_Mo_obey 42 rfl) rfl (lv_at hl 0 rfl) ?_
    refine fh_callV (cc' := c_Mo_deliver) (nL' := 6) (rest := []) (a := x) (As := [.int (nI N)]) X hR (m_Mo_deliver l D ct b RO (r - 1) n x g (up2 (rz_N A N O 2 1) 2 (upd (rz_N A N O 2 1 2) N 73)) th (nI L) (nI (a + ll (A 0) L a 1)) (rz_W A O U wr) (nI (N + 1)) (nI (U + 1)) pi wi he de O N (by omega) hO (by omega) ⟨hf.1, hf.2⟩) w1068 w1065 w1067 v38 w9 ⟨by decide, by decide, by show _ = some 1; decide +kernel⟩ (by omega) (by decide) (fh_recv hK hP mkM_o rfl) hP hS hl.1 rfl (by exact Nat.le_of_ble_eq_true rfl) (fh_d d_Mo_obey 43 rfl) ⟨Nat.le_refl _, Nat.le_refl _⟩ (fun v9 h9 n9 H locs hq hP hS => ?_)
    obtain ⟨rfl, u24, u25⟩ := hq
    rw [u24, u25] at hP
    refine lv_goto (tgt := 315) hx hb (fh_d d_Mo_obey 44 rfl) rfl ?_
    refine fh_vret X hP hS (fh_d d_Mo_obey 166 rfl) ⟨rfl, ?_, rfl⟩
    have q9 : rz_obey A L a wr N U O 6909556 = rz_one A (a + ll (A 0) L a 1) wr N U O 2 1 73 := rfl
    rw [q9]
    unfold rz_one
    try rfl
  by_cases e1718772067 : nm = 1718772067
  · subst e1718772067
    refine lv_lload_n hx hb (fh_d d_Mo_obey 7 rfl) rfl (lv_at hl 1 rfl) ?_
    refine lv_ldc2 (v := 7566701) hx hb hown (hT _ w1105) (fh_d d_Mo_obey 8 rfl) ?_
    refine W.lcmp hx hb (fh_d d_Mo_obey 9 rfl) ?_
    refine lv_if_eq (tgt := 37) hx hb (fh_d d_Mo_obey 10 rfl) rfl (fun c26 => absurd c26 (by decide)) (fun c26 => ?_)
    refine lv_lload_n hx hb (fh_d d_Mo_obey 11 rfl) rfl (lv_at hl 1 rfl) ?_
    refine lv_ldc2 (v := 1886547812) hx hb hown (hT _ w1106) (fh_d d_Mo_obey 12 rfl) ?_
    refine W.lcmp hx hb (fh_d d_Mo_obey 13 rfl) ?_
    refine lv_if_eq (tgt := 37) hx hb (fh_d d_Mo_obey 14 rfl) rfl (fun c27 => absurd c27 (by decide)) (fun c27 => ?_)
    refine lv_lload_n hx hb (fh_d d_Mo_obey 15 rfl) rfl (lv_at hl 1 rfl) ?_
    refine lv_ldc2 (v := 6909556) hx hb hown (hT _ w1107) (fh_d d_Mo_obey 16 rfl) ?_
    refine W.lcmp hx hb (fh_d d_Mo_obey 17 rfl) ?_
    refine lv_if_ne (tgt := 86) hx hb (fh_d d_Mo_obey 18 rfl) rfl (fun c28 => ?_) (fun c28 => absurd c28 (by decide))
    refine lv_lload_n hx hb (fh_d d_Mo_obey 45 rfl) rfl (lv_at hl 1 rfl) ?_
    refine lv_ldc2 (v := 1718772067) hx hb hown (hT _ w1108) (fh_d d_Mo_obey 46 rfl) ?_
    refine W.lcmp hx hb (fh_d d_Mo_obey 47 rfl) ?_
    refine lv_if_eq (tgt := 118) hx hb (fh_d d_Mo_obey 48 rfl) rfl (fun c29 => ?_) (fun c29 => absurd c29 (Classical.not_not.mpr (by decide)))
    refine lv_lload_n hx hb (fh_d d_Mo_obey 61 rfl) rfl (lv_at hl 1 rfl) ?_
    refine lv_ldc2 (v := 1718772067) hx hb hown (hT _ w1108) (fh_d d_Mo_obey 62 rfl) ?_
    refine W.lcmp hx hb (fh_d d_Mo_obey 63 rfl) ?_
    refine lv_if_ne (tgt := 130) hx hb (fh_d d_Mo_obey 64 rfl) rfl (fun c30 => absurd c30 (Classical.not_not.mpr (by decide))) (fun c30 => ?_)
    refine lv_iconst (v := 4) hx hb (fh_d d_Mo_obey 65 rfl) (by decide) ?_
    refine lv_goto (tgt := 157) hx hb (fh_d d_Mo_obey 66 rfl) rfl ?_
    refine lv_istore_n (lv' := [(3, .int 4), (0, .ref x), (1, .long 1718772067)]) hx hb (fh_d d_Mo_obey 80 rfl) rfl hl (by decide) rfl (fun ls hl => ?_)
    refine lv_aload_n hx hb (fh_d d_Mo_obey 81 rfl) rfl (lv_at hl 1 rfl) ?_
    refine lv_iconst (v := 4) hx hb (fh_d d_Mo_obey 82 rfl) (by decide) ?_
    refine lv_aload_n hx hb (fh_d d_Mo_obey 83 rfl) rfl (lv_at hl 1 rfl) ?_
    refine lv_iload_n hx hb (fh_d d_Mo_obey 84 rfl) rfl (lv_at hl 0 rfl) ?_
    refine lv_iload_n hx hb (fh_d d_Mo_obey 85 rfl) rfl (lv_at hl 0 rfl) ?_
    refine lv_iconst (v := 4) hx hb (fh_d d_Mo_obey 86 rfl) (by decide) ?_
    refine lv_icmp_ne (tgt := 172) hx hb (fh_d d_Mo_obey 87 rfl) rfl (fun c31 => absurd c31 (Classical.not_not.mpr (by decide))) (fun c31 => ?_)
    refine lv_bipush (v := 7) hx hb (fh_d d_Mo_obey 88 rfl) (by decide) ?_
    refine lv_goto (tgt := 173) hx hb (fh_d d_Mo_obey 89 rfl) rfl ?_
    refine fh_callV (cc' := c_Mo_nucleus) (nL' := 5) (rest := [.int 4, .ref x]) (a := x) (As := [.int 4, .int 7]) X hR (m_Mo_nucleus l D ct b RO hR (r - 1) (by omega) n x g A th (nI L) (nI (a + ll (A 0) L a 1)) wr pi wi he de 4 7 N O U (rz_u A O) (by omega) hO (by omega) (fun _ => hu0)) w1092 w1089 w1091 v43 w9 ⟨by decide, by decide, by show _ = some 2; decide +kernel⟩ (by omega) (by decide) (fh_recv hK hP mkM_o rfl) hP hS hl.1 rfl (by exact Nat.le_of_ble_eq_true rfl) (fh_d d_Mo_obey 91 rfl) ⟨Nat.le_refl _, Nat.le_refl _⟩ (fun v9 h9 n9 H locs hq hP hS => ?_)
    obtain ⟨rfl, u32, u33⟩ := hq
    rw [u32, u33] at hP
    refine lv_iconst (v := 0) hx hb (fh_d d_Mo_obey 92 rfl) (by decide) ?_
    refine fh_callV (cc' := c_Mo_push) (nL' := 4) (rest := []) (a := x) (As := [.int 4, .int (nI N), .int 0]) X hR (m_Mo_push l D ct b RO (r - 1) n x g (rz_N A N O 4 7) th (nI L) (nI (a + ll (A 0) L a 1)) (rz_W A O U wr) (nI (N + 1)) (nI (U + 1)) pi wi he de 4 (nI N) 0 (O) (by omega)) w1052 w1049 w1051 v34 w9 ⟨by decide, by decide, by show _ = some 3; decide +kernel⟩ (by omega) (by decide) (fh_recv hK hP mkM_o rfl) hP hS hl.1 rfl (by exact Nat.le_of_ble_eq_true rfl) (fh_d d_Mo_obey 93 rfl) ⟨Nat.le_refl _, Nat.le_refl _⟩ (fun v9 h9 n9 H locs hq hP hS => ?_)
    obtain ⟨rfl, u34, u35⟩ := hq
    rw [u34, u35] at hP
    refine lv_goto (tgt := 315) hx hb (fh_d d_Mo_obey 94 rfl) rfl ?_
    refine fh_vret X hP hS (fh_d d_Mo_obey 166 rfl) ⟨rfl, ?_, rfl⟩
    have q9 : rz_obey A L a wr N U O 1718772067 = rz_cmd A (a + ll (A 0) L a 1) wr N U O 4 7 := rfl
    rw [q9]
    unfold rz_cmd
    try rfl
  by_cases e1936814708 : nm = 1936814708
  · subst e1936814708
    refine lv_lload_n hx hb (fh_d d_Mo_obey 7 rfl) rfl (lv_at hl 1 rfl) ?_
    refine lv_ldc2 (v := 7566701) hx hb hown (hT _ w1105) (fh_d d_Mo_obey 8 rfl) ?_
    refine W.lcmp hx hb (fh_d d_Mo_obey 9 rfl) ?_
    refine lv_if_eq (tgt := 37) hx hb (fh_d d_Mo_obey 10 rfl) rfl (fun c36 => absurd c36 (by decide)) (fun c36 => ?_)
    refine lv_lload_n hx hb (fh_d d_Mo_obey 11 rfl) rfl (lv_at hl 1 rfl) ?_
    refine lv_ldc2 (v := 1886547812) hx hb hown (hT _ w1106) (fh_d d_Mo_obey 12 rfl) ?_
    refine W.lcmp hx hb (fh_d d_Mo_obey 13 rfl) ?_
    refine lv_if_eq (tgt := 37) hx hb (fh_d d_Mo_obey 14 rfl) rfl (fun c37 => absurd c37 (by decide)) (fun c37 => ?_)
    refine lv_lload_n hx hb (fh_d d_Mo_obey 15 rfl) rfl (lv_at hl 1 rfl) ?_
    refine lv_ldc2 (v := 6909556) hx hb hown (hT _ w1107) (fh_d d_Mo_obey 16 rfl) ?_
    refine W.lcmp hx hb (fh_d d_Mo_obey 17 rfl) ?_
    refine lv_if_ne (tgt := 86) hx hb (fh_d d_Mo_obey 18 rfl) rfl (fun c38 => ?_) (fun c38 => absurd c38 (by decide))
    refine lv_lload_n hx hb (fh_d d_Mo_obey 45 rfl) rfl (lv_at hl 1 rfl) ?_
    refine lv_ldc2 (v := 1718772067) hx hb hown (hT _ w1108) (fh_d d_Mo_obey 46 rfl) ?_
    refine W.lcmp hx hb (fh_d d_Mo_obey 47 rfl) ?_
    refine lv_if_eq (tgt := 118) hx hb (fh_d d_Mo_obey 48 rfl) rfl (fun c39 => absurd c39 (by decide)) (fun c39 => ?_)
    refine lv_lload_n hx hb (fh_d d_Mo_obey 49 rfl) rfl (lv_at hl 1 rfl) ?_
    refine lv_ldc2 (v := 1936814708) hx hb hown (hT _ w1109) (fh_d d_Mo_obey 50 rfl) ?_
    refine W.lcmp hx hb (fh_d d_Mo_obey 51 rfl) ?_
    refine lv_if_eq (tgt := 118) hx hb (fh_d d_Mo_obey 52 rfl) rfl (fun c40 => ?_) (fun c40 => absurd c40 (Classical.not_not.mpr (by decide)))
    refine lv_lload_n hx hb (fh_d d_Mo_obey 61 rfl) rfl (lv_at hl 1 rfl) ?_
    refine lv_ldc2 (v := 1718772067) hx hb hown (hT _ w1108) (fh_d d_Mo_obey 62 rfl) ?_
    refine W.lcmp hx hb (fh_d d_Mo_obey 63 rfl) ?_
    refine lv_if_ne (tgt := 130) hx hb (fh_d d_Mo_obey 64 rfl) rfl (fun c41 => ?_) (fun c41 => absurd c41 (by decide))
    refine lv_lload_n hx hb (fh_d d_Mo_obey 67 rfl) rfl (lv_at hl 1 rfl) ?_
    refine lv_ldc2 (v := 1936814708) hx hb hown (hT _ w1109) (fh_d d_Mo_obey 68 rfl) ?_
    refine W.lcmp hx hb (fh_d d_Mo_obey 69 rfl) ?_
    refine lv_if_ne (tgt := 142) hx hb (fh_d d_Mo_obey 70 rfl) rfl (fun c42 => absurd c42 (Classical.not_not.mpr (by decide))) (fun c42 => ?_)
    refine lv_iconst (v := 5) hx hb (fh_d d_Mo_obey 71 rfl) (by decide) ?_
    refine lv_goto (tgt := 157) hx hb (fh_d d_Mo_obey 72 rfl) rfl ?_
    refine lv_istore_n (lv' := [(3, .int 5), (0, .ref x), (1, .long 1936814708)]) hx hb (fh_d d_Mo_obey 80 rfl) rfl hl (by decide) rfl (fun ls hl => ?_)
    refine lv_aload_n hx hb (fh_d d_Mo_obey 81 rfl) rfl (lv_at hl 1 rfl) ?_
    refine lv_iconst (v := 4) hx hb (fh_d d_Mo_obey 82 rfl) (by decide) ?_
    refine lv_aload_n hx hb (fh_d d_Mo_obey 83 rfl) rfl (lv_at hl 1 rfl) ?_
    refine lv_iload_n hx hb (fh_d d_Mo_obey 84 rfl) rfl (lv_at hl 0 rfl) ?_
    refine lv_iload_n hx hb (fh_d d_Mo_obey 85 rfl) rfl (lv_at hl 0 rfl) ?_
    refine lv_iconst (v := 4) hx hb (fh_d d_Mo_obey 86 rfl) (by decide) ?_
    refine lv_icmp_ne (tgt := 172) hx hb (fh_d d_Mo_obey 87 rfl) rfl (fun c43 => ?_) (fun c43 => absurd c43 (by decide))
    refine lv_iconst (v := 0) hx hb (fh_d d_Mo_obey 90 rfl) (by decide) ?_
    refine fh_callV (cc' := c_Mo_nucleus) (nL' := 5) (rest := [.int 4, .ref x]) (a := x) (As := [.int 5, .int 0]) X hR (m_Mo_nucleus l D ct b RO hR (r - 1) (by omega) n x g A th (nI L) (nI (a + ll (A 0) L a 1)) wr pi wi he de 5 0 N O U (rz_u A O) (by omega) hO (by omega) (fun _ => hu0)) w1092 w1089 w1091 v43 w9 ⟨by decide, by decide, by show _ = some 2; decide +kernel⟩ (by omega) (by decide) (fh_recv hK hP mkM_o rfl) hP hS hl.1 rfl (by exact Nat.le_of_ble_eq_true rfl) (fh_d d_Mo_obey 91 rfl) ⟨Nat.le_refl _, Nat.le_refl _⟩ (fun v9 h9 n9 H locs hq hP hS => ?_)
    obtain ⟨rfl, u44, u45⟩ := hq
    rw [u44, u45] at hP
    refine lv_iconst (v := 0) hx hb (fh_d d_Mo_obey 92 rfl) (by decide) ?_
    refine fh_callV (cc' := c_Mo_push) (nL' := 4) (rest := []) (a := x) (As := [.int 4, .int (nI N), .int 0]) X hR (m_Mo_push l D ct b RO (r - 1) n x g (rz_N A N O 5 0) th (nI L) (nI (a + ll (A 0) L a 1)) (rz_W A O U wr) (nI (N + 1)) (nI (U + 1)) pi wi he de 4 (nI N) 0 (O) (by omega)) w1052 w1049 w1051 v34 w9 ⟨by decide, by decide, by show _ = some 3; decide +kernel⟩ (by omega) (by decide) (fh_recv hK hP mkM_o rfl) hP hS hl.1 rfl (by exact Nat.le_of_ble_eq_true rfl) (fh_d d_Mo_obey 93 rfl) ⟨Nat.le_refl _, Nat.le_refl _⟩ (fun v9 h9 n9 H locs hq hP hS => ?_)
    obtain ⟨rfl, u46, u47⟩ := hq
    rw [u46, u47] at hP
    refine lv_goto (tgt := 315) hx hb (fh_d d_Mo_obey 94 rfl) rfl ?_
    refine fh_vret X hP hS (fh_d d_Mo_obey 166 rfl) ⟨rfl, ?_, rfl⟩
    have q9 : rz_obey A L a wr N U O 1936814708 = rz_cmd A (a + ll (A 0) L a 1) wr N U O 5 0 := rfl
    rw [q9]
    unfold rz_cmd
    try rfl
  by_cases e6840692 : nm = 6840692
  · subst e6840692
    refine lv_lload_n hx hb (fh_d d_Mo_obey 7 rfl) rfl (lv_at hl 1 rfl) ?_
    refine lv_ldc2 (v := 7566701) hx hb hown (hT _ w1105) (fh_d d_Mo_obey 8 rfl) ?_
    refine W.lcmp hx hb (fh_d d_Mo_obey 9 rfl) ?_
    refine lv_if_eq (tgt := 37) hx hb (fh_d d_Mo_obey 10 rfl) rfl (fun c48 => absurd c48 (by decide)) (fun c48 => ?_)
    refine lv_lload_n hx hb (fh_d d_Mo_obey 11 rfl) rfl (lv_at hl 1 rfl) ?_
    refine lv_ldc2 (v := 1886547812) hx hb hown (hT _ w1106) (fh_d d_Mo_obey 12 rfl) ?_
    refine W.lcmp hx hb (fh_d d_Mo_obey 13 rfl) ?_
    refine lv_if_eq (tgt := 37) hx hb (fh_d d_Mo_obey 14 rfl) rfl (fun c49 => absurd c49 (by decide)) (fun c49 => ?_)
    refine lv_lload_n hx hb (fh_d d_Mo_obey 15 rfl) rfl (lv_at hl 1 rfl) ?_
    refine lv_ldc2 (v := 6909556) hx hb hown (hT _ w1107) (fh_d d_Mo_obey 16 rfl) ?_
    refine W.lcmp hx hb (fh_d d_Mo_obey 17 rfl) ?_
    refine lv_if_ne (tgt := 86) hx hb (fh_d d_Mo_obey 18 rfl) rfl (fun c50 => ?_) (fun c50 => absurd c50 (by decide))
    refine lv_lload_n hx hb (fh_d d_Mo_obey 45 rfl) rfl (lv_at hl 1 rfl) ?_
    refine lv_ldc2 (v := 1718772067) hx hb hown (hT _ w1108) (fh_d d_Mo_obey 46 rfl) ?_
    refine W.lcmp hx hb (fh_d d_Mo_obey 47 rfl) ?_
    refine lv_if_eq (tgt := 118) hx hb (fh_d d_Mo_obey 48 rfl) rfl (fun c51 => absurd c51 (by decide)) (fun c51 => ?_)
    refine lv_lload_n hx hb (fh_d d_Mo_obey 49 rfl) rfl (lv_at hl 1 rfl) ?_
    refine lv_ldc2 (v := 1936814708) hx hb hown (hT _ w1109) (fh_d d_Mo_obey 50 rfl) ?_
    refine W.lcmp hx hb (fh_d d_Mo_obey 51 rfl) ?_
    refine lv_if_eq (tgt := 118) hx hb (fh_d d_Mo_obey 52 rfl) rfl (fun c52 => absurd c52 (by decide)) (fun c52 => ?_)
    refine lv_lload_n hx hb (fh_d d_Mo_obey 53 rfl) rfl (lv_at hl 1 rfl) ?_
    refine lv_ldc2 (v := 6840692) hx hb hown (hT _ w1110) (fh_d d_Mo_obey 54 rfl) ?_
    refine W.lcmp hx hb (fh_d d_Mo_obey 55 rfl) ?_
    refine lv_if_eq (tgt := 118) hx hb (fh_d d_Mo_obey 56 rfl) rfl (fun c53 => ?_) (fun c53 => absurd c53 (Classical.not_not.mpr (by decide)))
    refine lv_lload_n hx hb (fh_d d_Mo_obey 61 rfl) rfl (lv_at hl 1 rfl) ?_
    refine lv_ldc2 (v := 1718772067) hx hb hown (hT _ w1108) (fh_d d_Mo_obey 62 rfl) ?_
    refine W.lcmp hx hb (fh_d d_Mo_obey 63 rfl) ?_
    refine lv_if_ne (tgt := 130) hx hb (fh_d d_Mo_obey 64 rfl) rfl (fun c54 => ?_) (fun c54 => absurd c54 (by decide))
    refine lv_lload_n hx hb (fh_d d_Mo_obey 67 rfl) rfl (lv_at hl 1 rfl) ?_
    refine lv_ldc2 (v := 1936814708) hx hb hown (hT _ w1109) (fh_d d_Mo_obey 68 rfl) ?_
    refine W.lcmp hx hb (fh_d d_Mo_obey 69 rfl) ?_
    refine lv_if_ne (tgt := 142) hx hb (fh_d d_Mo_obey 70 rfl) rfl (fun c55 => ?_) (fun c55 => absurd c55 (by decide))
    refine lv_lload_n hx hb (fh_d d_Mo_obey 73 rfl) rfl (lv_at hl 1 rfl) ?_
    refine lv_ldc2 (v := 6840692) hx hb hown (hT _ w1110) (fh_d d_Mo_obey 74 rfl) ?_
    refine W.lcmp hx hb (fh_d d_Mo_obey 75 rfl) ?_
    refine lv_if_ne (tgt := 155) hx hb (fh_d d_Mo_obey 76 rfl) rfl (fun c56 => absurd c56 (Classical.not_not.mpr (by decide))) (fun c56 => ?_)
    refine lv_bipush (v := 6) hx hb (fh_d d_Mo_obey 77 rfl) (by decide) ?_
    refine lv_goto (tgt := 157) hx hb (fh_d d_Mo_obey 78 rfl) rfl ?_
    refine lv_istore_n (lv' := [(3, .int 6), (0, .ref x), (1, .long 6840692)]) hx hb (fh_d d_Mo_obey 80 rfl) rfl hl (by decide) rfl (fun ls hl => ?_)
    refine lv_aload_n hx hb (fh_d d_Mo_obey 81 rfl) rfl (lv_at hl 1 rfl) ?_
    refine lv_iconst (v := 4) hx hb (fh_d d_Mo_obey 82 rfl) (by decide) ?_
    refine lv_aload_n hx hb (fh_d d_Mo_obey 83 rfl) rfl (lv_at hl 1 rfl) ?_
    refine lv_iload_n hx hb (fh_d d_Mo_obey 84 rfl) rfl (lv_at hl 0 rfl) ?_
    refine lv_iload_n hx hb (fh_d d_Mo_obey 85 rfl) rfl (lv_at hl 0 rfl) ?_
    refine lv_iconst (v := 4) hx hb (fh_d d_Mo_obey 86 rfl) (by decide) ?_
    refine lv_icmp_ne (tgt := 172) hx hb (fh_d d_Mo_obey 87 rfl) rfl (fun c57 => ?_) (fun c57 => absurd c57 (by decide))
    refine lv_iconst (v := 0) hx hb (fh_d d_Mo_obey 90 rfl) (by decide) ?_
    refine fh_callV (cc' := c_Mo_nucleus) (nL' := 5) (rest := [.int 4, .ref x]) (a := x) (As := [.int 6, .int 0]) X hR (m_Mo_nucleus l D ct b RO hR (r - 1) (by omega) n x g A th (nI L) (nI (a + ll (A 0) L a 1)) wr pi wi he de 6 0 N O U (rz_u A O) (by omega) hO (by omega) (fun _ => hu0)) w1092 w1089 w1091 v43 w9 ⟨by decide, by decide, by show _ = some 2; decide +kernel⟩ (by omega) (by decide) (fh_recv hK hP mkM_o rfl) hP hS hl.1 rfl (by exact Nat.le_of_ble_eq_true rfl) (fh_d d_Mo_obey 91 rfl) ⟨Nat.le_refl _, Nat.le_refl _⟩ (fun v9 h9 n9 H locs hq hP hS => ?_)
    obtain ⟨rfl, u58, u59⟩ := hq
    rw [u58, u59] at hP
    refine lv_iconst (v := 0) hx hb (fh_d d_Mo_obey 92 rfl) (by decide) ?_
    refine fh_callV (cc' := c_Mo_push) (nL' := 4) (rest := []) (a := x) (As := [.int 4, .int (nI N), .int 0]) X hR (m_Mo_push l D ct b RO (r - 1) n x g (rz_N A N O 6 0) th (nI L) (nI (a + ll (A 0) L a 1)) (rz_W A O U wr) (nI (N + 1)) (nI (U + 1)) pi wi he de 4 (nI N) 0 (O) (by omega)) w1052 w1049 w1051 v34 w9 ⟨by decide, by decide, by show _ = some 3; decide +kernel⟩ (by omega) (by decide) (fh_recv hK hP mkM_o rfl) hP hS hl.1 rfl (by exact Nat.le_of_ble_eq_true rfl) (fh_d d_Mo_obey 93 rfl) ⟨Nat.le_refl _, Nat.le_refl _⟩ (fun v9 h9 n9 H locs hq hP hS => ?_)
    obtain ⟨rfl, u60, u61⟩ := hq
    rw [u60, u61] at hP
    refine lv_goto (tgt := 315) hx hb (fh_d d_Mo_obey 94 rfl) rfl ?_
    refine fh_vret X hP hS (fh_d d_Mo_obey 166 rfl) ⟨rfl, ?_, rfl⟩
    have q9 : rz_obey A L a wr N U O 6840692 = rz_cmd A (a + ll (A 0) L a 1) wr N U O 6 0 := rfl
    rw [q9]
    unfold rz_cmd
    try rfl
  by_cases e6447474 : nm = 6447474
  · subst e6447474
    refine lv_lload_n hx hb (fh_d d_Mo_obey 7 rfl) rfl (lv_at hl 1 rfl) ?_
    refine lv_ldc2 (v := 7566701) hx hb hown (hT _ w1105) (fh_d d_Mo_obey 8 rfl) ?_
    refine W.lcmp hx hb (fh_d d_Mo_obey 9 rfl) ?_
    refine lv_if_eq (tgt := 37) hx hb (fh_d d_Mo_obey 10 rfl) rfl (fun c62 => absurd c62 (by decide)) (fun c62 => ?_)
    refine lv_lload_n hx hb (fh_d d_Mo_obey 11 rfl) rfl (lv_at hl 1 rfl) ?_
    refine lv_ldc2 (v := 1886547812) hx hb hown (hT _ w1106) (fh_d d_Mo_obey 12 rfl) ?_
    refine W.lcmp hx hb (fh_d d_Mo_obey 13 rfl) ?_
    refine lv_if_eq (tgt := 37) hx hb (fh_d d_Mo_obey 14 rfl) rfl (fun c63 => absurd c63 (by decide)) (fun c63 => ?_)
    refine lv_lload_n hx hb (fh_d d_Mo_obey 15 rfl) rfl (lv_at hl 1 rfl) ?_
    refine lv_ldc2 (v := 6909556) hx hb hown (hT _ w1107) (fh_d d_Mo_obey 16 rfl) ?_
    refine W.lcmp hx hb (fh_d d_Mo_obey 17 rfl) ?_
    refine lv_if_ne (tgt := 86) hx hb (fh_d d_Mo_obey 18 rfl) rfl (fun c64 => ?_) (fun c64 => absurd c64 (by decide))
    refine lv_lload_n hx hb (fh_d d_Mo_obey 45 rfl) rfl (lv_at hl 1 rfl) ?_
    refine lv_ldc2 (v := 1718772067) hx hb hown (hT _ w1108) (fh_d d_Mo_obey 46 rfl) ?_
    refine W.lcmp hx hb (fh_d d_Mo_obey 47 rfl) ?_
    refine lv_if_eq (tgt := 118) hx hb (fh_d d_Mo_obey 48 rfl) rfl (fun c65 => absurd c65 (by decide)) (fun c65 => ?_)
    refine lv_lload_n hx hb (fh_d d_Mo_obey 49 rfl) rfl (lv_at hl 1 rfl) ?_
    refine lv_ldc2 (v := 1936814708) hx hb hown (hT _ w1109) (fh_d d_Mo_obey 50 rfl) ?_
    refine W.lcmp hx hb (fh_d d_Mo_obey 51 rfl) ?_
    refine lv_if_eq (tgt := 118) hx hb (fh_d d_Mo_obey 52 rfl) rfl (fun c66 => absurd c66 (by decide)) (fun c66 => ?_)
    refine lv_lload_n hx hb (fh_d d_Mo_obey 53 rfl) rfl (lv_at hl 1 rfl) ?_
    refine lv_ldc2 (v := 6840692) hx hb hown (hT _ w1110) (fh_d d_Mo_obey 54 rfl) ?_
    refine W.lcmp hx hb (fh_d d_Mo_obey 55 rfl) ?_
    refine lv_if_eq (tgt := 118) hx hb (fh_d d_Mo_obey 56 rfl) rfl (fun c67 => absurd c67 (by decide)) (fun c67 => ?_)
    refine lv_lload_n hx hb (fh_d d_Mo_obey 57 rfl) rfl (lv_at hl 1 rfl) ?_
    refine lv_ldc2 (v := 6447474) hx hb hown (hT _ w1111) (fh_d d_Mo_obey 58 rfl) ?_
    refine W.lcmp hx hb (fh_d d_Mo_obey 59 rfl) ?_
    refine lv_if_ne (tgt := 183) hx hb (fh_d d_Mo_obey 60 rfl) rfl (fun c68 => absurd c68 (Classical.not_not.mpr (by decide))) (fun c68 => ?_)
    refine lv_lload_n hx hb (fh_d d_Mo_obey 61 rfl) rfl (lv_at hl 1 rfl) ?_
    refine lv_ldc2 (v := 1718772067) hx hb hown (hT _ w1108) (fh_d d_Mo_obey 62 rfl) ?_
    refine W.lcmp hx hb (fh_d d_Mo_obey 63 rfl) ?_
    refine lv_if_ne (tgt := 130) hx hb (fh_d d_Mo_obey 64 rfl) rfl (fun c69 => ?_) (fun c69 => absurd c69 (by decide))
    refine lv_lload_n hx hb (fh_d d_Mo_obey 67 rfl) rfl (lv_at hl 1 rfl) ?_
    refine lv_ldc2 (v := 1936814708) hx hb hown (hT _ w1109) (fh_d d_Mo_obey 68 rfl) ?_
    refine W.lcmp hx hb (fh_d d_Mo_obey 69 rfl) ?_
    refine lv_if_ne (tgt := 142) hx hb (fh_d d_Mo_obey 70 rfl) rfl (fun c70 => ?_) (fun c70 => absurd c70 (by decide))
    refine lv_lload_n hx hb (fh_d d_Mo_obey 73 rfl) rfl (lv_at hl 1 rfl) ?_
    refine lv_ldc2 (v := 6840692) hx hb hown (hT _ w1110) (fh_d d_Mo_obey 74 rfl) ?_
    refine W.lcmp hx hb (fh_d d_Mo_obey 75 rfl) ?_
    refine lv_if_ne (tgt := 155) hx hb (fh_d d_Mo_obey 76 rfl) rfl (fun c71 => ?_) (fun c71 => absurd c71 (by decide))
    refine lv_bipush (v := 7) hx hb (fh_d d_Mo_obey 79 rfl) (by decide) ?_
    refine lv_istore_n (lv' := [(3, .int 7), (0, .ref x), (1, .long 6447474)]) hx hb (fh_d d_Mo_obey 80 rfl) rfl hl (by decide) rfl (fun ls hl => ?_)
    refine lv_aload_n hx hb (fh_d d_Mo_obey 81 rfl) rfl (lv_at hl 1 rfl) ?_
    refine lv_iconst (v := 4) hx hb (fh_d d_Mo_obey 82 rfl) (by decide) ?_
    refine lv_aload_n hx hb (fh_d d_Mo_obey 83 rfl) rfl (lv_at hl 1 rfl) ?_
    refine lv_iload_n hx hb (fh_d d_Mo_obey 84 rfl) rfl (lv_at hl 0 rfl) ?_
    refine lv_iload_n hx hb (fh_d d_Mo_obey 85 rfl) rfl (lv_at hl 0 rfl) ?_
    refine lv_iconst (v := 4) hx hb (fh_d d_Mo_obey 86 rfl) (by decide) ?_
    refine lv_icmp_ne (tgt := 172) hx hb (fh_d d_Mo_obey 87 rfl) rfl (fun c72 => ?_) (fun c72 => absurd c72 (by decide))
    refine lv_iconst (v := 0) hx hb (fh_d d_Mo_obey 90 rfl) (by decide) ?_
    refine fh_callV (cc' := c_Mo_nucleus) (nL' := 5) (rest := [.int 4, .ref x]) (a := x) (As := [.int 7, .int 0]) X hR (m_Mo_nucleus l D ct b RO hR (r - 1) (by omega) n x g A th (nI L) (nI (a + ll (A 0) L a 1)) wr pi wi he de 7 0 N O U (rz_u A O) (by omega) hO (by omega) (fun _ => hu0)) w1092 w1089 w1091 v43 w9 ⟨by decide, by decide, by show _ = some 2; decide +kernel⟩ (by omega) (by decide) (fh_recv hK hP mkM_o rfl) hP hS hl.1 rfl (by exact Nat.le_of_ble_eq_true rfl) (fh_d d_Mo_obey 91 rfl) ⟨Nat.le_refl _, Nat.le_refl _⟩ (fun v9 h9 n9 H locs hq hP hS => ?_)
    obtain ⟨rfl, u73, u74⟩ := hq
    rw [u73, u74] at hP
    refine lv_iconst (v := 0) hx hb (fh_d d_Mo_obey 92 rfl) (by decide) ?_
    refine fh_callV (cc' := c_Mo_push) (nL' := 4) (rest := []) (a := x) (As := [.int 4, .int (nI N), .int 0]) X hR (m_Mo_push l D ct b RO (r - 1) n x g (rz_N A N O 7 0) th (nI L) (nI (a + ll (A 0) L a 1)) (rz_W A O U wr) (nI (N + 1)) (nI (U + 1)) pi wi he de 4 (nI N) 0 (O) (by omega)) w1052 w1049 w1051 v34 w9 ⟨by decide, by decide, by show _ = some 3; decide +kernel⟩ (by omega) (by decide) (fh_recv hK hP mkM_o rfl) hP hS hl.1 rfl (by exact Nat.le_of_ble_eq_true rfl) (fh_d d_Mo_obey 93 rfl) ⟨Nat.le_refl _, Nat.le_refl _⟩ (fun v9 h9 n9 H locs hq hP hS => ?_)
    obtain ⟨rfl, u75, u76⟩ := hq
    rw [u75, u76] at hP
    refine lv_goto (tgt := 315) hx hb (fh_d d_Mo_obey 94 rfl) rfl ?_
    refine fh_vret X hP hS (fh_d d_Mo_obey 166 rfl) ⟨rfl, ?_, rfl⟩
    have q9 : rz_obey A L a wr N U O 6447474 = rz_cmd A (a + ll (A 0) L a 1) wr N U O 7 0 := rfl
    rw [q9]
    unfold rz_cmd
    try rfl
  by_cases e1818584692 : nm = 1818584692
  · subst e1818584692
    refine lv_lload_n hx hb (fh_d d_Mo_obey 7 rfl) rfl (lv_at hl 1 rfl) ?_
    refine lv_ldc2 (v := 7566701) hx hb hown (hT _ w1105) (fh_d d_Mo_obey 8 rfl) ?_
    refine W.lcmp hx hb (fh_d d_Mo_obey 9 rfl) ?_
    refine lv_if_eq (tgt := 37) hx hb (fh_d d_Mo_obey 10 rfl) rfl (fun c77 => absurd c77 (by decide)) (fun c77 => ?_)
    refine lv_lload_n hx hb (fh_d d_Mo_obey 11 rfl) rfl (lv_at hl 1 rfl) ?_
    refine lv_ldc2 (v := 1886547812) hx hb hown (hT _ w1106) (fh_d d_Mo_obey 12 rfl) ?_
    refine W.lcmp hx hb (fh_d d_Mo_obey 13 rfl) ?_
    refine lv_if_eq (tgt := 37) hx hb (fh_d d_Mo_obey 14 rfl) rfl (fun c78 => absurd c78 (by decide)) (fun c78 => ?_)
    refine lv_lload_n hx hb (fh_d d_Mo_obey 15 rfl) rfl (lv_at hl 1 rfl) ?_
    refine lv_ldc2 (v := 6909556) hx hb hown (hT _ w1107) (fh_d d_Mo_obey 16 rfl) ?_
    refine W.lcmp hx hb (fh_d d_Mo_obey 17 rfl) ?_
    refine lv_if_ne (tgt := 86) hx hb (fh_d d_Mo_obey 18 rfl) rfl (fun c79 => ?_) (fun c79 => absurd c79 (by decide))
    refine lv_lload_n hx hb (fh_d d_Mo_obey 45 rfl) rfl (lv_at hl 1 rfl) ?_
    refine lv_ldc2 (v := 1718772067) hx hb hown (hT _ w1108) (fh_d d_Mo_obey 46 rfl) ?_
    refine W.lcmp hx hb (fh_d d_Mo_obey 47 rfl) ?_
    refine lv_if_eq (tgt := 118) hx hb (fh_d d_Mo_obey 48 rfl) rfl (fun c80 => absurd c80 (by decide)) (fun c80 => ?_)
    refine lv_lload_n hx hb (fh_d d_Mo_obey 49 rfl) rfl (lv_at hl 1 rfl) ?_
    refine lv_ldc2 (v := 1936814708) hx hb hown (hT _ w1109) (fh_d d_Mo_obey 50 rfl) ?_
    refine W.lcmp hx hb (fh_d d_Mo_obey 51 rfl) ?_
    refine lv_if_eq (tgt := 118) hx hb (fh_d d_Mo_obey 52 rfl) rfl (fun c81 => absurd c81 (by decide)) (fun c81 => ?_)
    refine lv_lload_n hx hb (fh_d d_Mo_obey 53 rfl) rfl (lv_at hl 1 rfl) ?_
    refine lv_ldc2 (v := 6840692) hx hb hown (hT _ w1110) (fh_d d_Mo_obey 54 rfl) ?_
    refine W.lcmp hx hb (fh_d d_Mo_obey 55 rfl) ?_
    refine lv_if_eq (tgt := 118) hx hb (fh_d d_Mo_obey 56 rfl) rfl (fun c82 => absurd c82 (by decide)) (fun c82 => ?_)
    refine lv_lload_n hx hb (fh_d d_Mo_obey 57 rfl) rfl (lv_at hl 1 rfl) ?_
    refine lv_ldc2 (v := 6447474) hx hb hown (hT _ w1111) (fh_d d_Mo_obey 58 rfl) ?_
    refine W.lcmp hx hb (fh_d d_Mo_obey 59 rfl) ?_
    refine lv_if_ne (tgt := 183) hx hb (fh_d d_Mo_obey 60 rfl) rfl (fun c83 => ?_) (fun c83 => absurd c83 (by decide))
    refine lv_lload_n hx hb (fh_d d_Mo_obey 95 rfl) rfl (lv_at hl 1 rfl) ?_
    refine lv_ldc2 (v := 1818584692) hx hb hown (hT _ w1112) (fh_d d_Mo_obey 96 rfl) ?_
    refine W.lcmp hx hb (fh_d d_Mo_obey 97 rfl) ?_
    refine lv_if_ne (tgt := 244) hx hb (fh_d d_Mo_obey 98 rfl) rfl (fun c84 => absurd c84 (Classical.not_not.mpr (by decide))) (fun c84 => ?_)
    refine lv_aload_n hx hb (fh_d d_Mo_obey 99 rfl) rfl (lv_at hl 0 rfl) ?_
    refine lv_bipush (v := 8) hx hb (fh_d d_Mo_obey 100 rfl) (by decide) ?_
    refine lv_bipush (v := 7) hx hb (fh_d d_Mo_obey 101 rfl) (by decide) ?_
    refine fh_callV (cc' := c_Mo_nucleus) (nL' := 5) (rest := []) (a := x) (As := [.int 8, .int 7]) X hR (m_Mo_nucleus l D ct b RO hR (r - 1) (by omega) n x g A th (nI L) (nI (a + ll (A 0) L a 1)) wr pi wi he de 8 7 N O U (rz_u A O) (by omega) hO (by omega) (fun _ => hu0)) w1092 w1089 w1091 v43 w9 ⟨by decide, by decide, by show _ = some 2; decide +kernel⟩ (by omega) (by decide) (fh_recv hK hP mkM_o rfl) hP hS hl.1 rfl (by exact Nat.le_of_ble_eq_true rfl) (fh_d d_Mo_obey 102 rfl) ⟨Nat.le_refl _, Nat.le_refl _⟩ (fun v9 h9 n9 H locs hq hP hS => ?_)
    obtain ⟨rfl, u85, u86⟩ := hq
    rw [u85, u86] at hP
    refine lv_istore_n (lv' := [(3, .int (nI N)), (0, .ref x), (1, .long 1818584692)]) hx hb (fh_d d_Mo_obey 103 rfl) rfl hl (by decide) rfl (fun ls hl => ?_)
    refine lv_aload_n hx hb (fh_d d_Mo_obey 104 rfl) rfl (lv_at hl 1 rfl) ?_
    refine fh_get (own := "FormulaSetterModel") (ref := "FormulaSetterModel") (C := "FormulaSetterModel") (T := T_Mo) (N := 53) (v := .ref (x + 3)) hx hb hT i_Mo hown hK hP mkM_o rfl 8 (by decide) (hT _ w868) (fun _ h9 => h9) rfl (fh_d d_Mo_obey 105 rfl) ?_
    refine lv_iload_n hx hb (fh_d d_Mo_obey 106 rfl) rfl (lv_at hl 0 rfl) ?_
    refine lv_aload_n hx hb (fh_d d_Mo_obey 107 rfl) rfl (lv_at hl 1 rfl) ?_
    have h0e : (rz_N A N O 8 7) 0 = A 0 := rfl
    refine fh_callV (cc' := c_Mo_side) (nL' := 3) (rest := [.int (nI N), .ref (x + 3)]) (a := x) (As := []) X hR (m_Mo_side l D ct b RO hR (r - 1) (by omega) n x g (rz_N A N O 8 7) th (rz_W A O U wr) (nI (N + 1)) (nI (U + 1)) (nI O) pi wi he de L (a + ll (A 0) L a 1) hL (by omega)) w1084 w1081 w1083 v41 w9 ⟨by decide, by decide, by show _ = some 0; decide +kernel⟩ (by omega) (by decide) (fh_recv hK hP mkM_o rfl) hP hS hl.1 rfl (by exact Nat.le_of_ble_eq_true rfl) (fh_d d_Mo_obey 108 rfl) ⟨Nat.le_refl _, Nat.le_refl _⟩ (fun v9 h9 n9 H locs hq hP hS => ?_)
    obtain ⟨rfl, u87, u88⟩ := hq
    rw [u87, u88] at hP
    refine fn_iast (f := rz_N A N O 8 7 2) (k := N) hx hb hK hP hS 0 mkM_a2 rfl (rfl) (by omega) (by decide) (fh_d d_Mo_obey 109 rfl) (fun H locs hP hS => ?_)
    replace hP := fh_P.eq (h' := mkM ct x g (up2 (rz_N A N O 8 7) 2 (upd (rz_N A N O 8 7 2) N (rz_sd A L (a + ll (A 0) L a 1)))) th (nI L) (nI (sk (A 0) L (a + ll (A 0) L a 1) + 1)) (rz_W A O U wr) (nI (N + 1)) (nI (U + 1)) (nI O) pi wi he de) hP mkM_u2
    refine lv_aload_n hx hb (fh_d d_Mo_obey 110 rfl) rfl (lv_at hl 1 rfl) ?_
    refine lv_aload_n hx hb (fh_d d_Mo_obey 111 rfl) rfl (lv_at hl 1 rfl) ?_
    refine fh_get (own := "FormulaSetterModel") (ref := "FormulaSetterModel") (C := "FormulaSetterModel") (T := T_Mo) (N := 53) (v := .int (rz_W A O U wr)) hx hb hT i_Mo hown hK hP mkM_o rfl 4 (by decide) (hT _ w864) (fun _ h9 => h9) rfl (fh_d d_Mo_obey 112 rfl) ?_
    refine lv_if_ne (tgt := 227) hx hb (fh_d d_Mo_obey 113 rfl) rfl (fun c89 => ?_) (fun c89 => ?_)
    · refine lv_iconst (v := 1) hx hb (fh_d d_Mo_obey 119 rfl) (by decide) ?_
      refine lv_goto (tgt := 232) hx hb (fh_d d_Mo_obey 120 rfl) rfl ?_
      have qw : orw (rz_W A O U wr) (rz_sd A L (a + ll (A 0) L a 1) < 0) = 1 := if_pos (Or.inl c89)
      refine fh_put (own := "FormulaSetterModel") (ref := "FormulaSetterModel") (C := "FormulaSetterModel") (T := T_Mo) (N := 53) (v := .int 1) (ty := .boolean) hx hb hT i_Mo t_Mo k_Mo n_Mo hown hK hP hS mkM_o rfl 4 (by decide) (hT _ w864) (fun _ h9 => h9) rfl (by decide +kernel) rfl rfl (Nat.le_of_ble_eq_true rfl) (fh_d d_Mo_obey 122 rfl) (fun H locs hP hS => ?_)
      replace hP := fh_P.eq (h' := mkM ct x g (up2 (rz_N A N O 8 7) 2 (upd (rz_N A N O 8 7 2) N (rz_sd A L (a + ll (A 0) L a 1)))) th (nI L) (nI (sk (A 0) L (a + ll (A 0) L a 1) + 1)) 1 (nI (N + 1)) (nI (U + 1)) (nI O) pi wi he de) hP mkM_ux
      refine lv_aload_n hx hb (fh_d d_Mo_obey 123 rfl) rfl (lv_at hl 1 rfl) ?_
      refine lv_iload_n hx hb (fh_d d_Mo_obey 124 rfl) rfl (lv_at hl 0 rfl) ?_
      refine lv_iconst (v := 2) hx hb (fh_d d_Mo_obey 125 rfl) (by decide) ?_
      refine fh_callV (cc' := c_Mo_inside) (nL' := 4) (rest := []) (a := x) (As := [.int (nI N), .int 2]) X hR (m_Mo_inside l D ct b RO hR (r - 1) (by omega) n x g (up2 (rz_N A N O 8 7) 2 (upd (rz_N A N O 8 7 2) N (rz_sd A L (a + ll (A 0) L a 1)))) th (nI L) (nI (sk (A 0) L (a + ll (A 0) L a 1) + 1)) 1 (nI (U + 1)) pi wi he de 2 (N + 1) O N (by omega) (by omega) (by omega)) w1096 w1093 w1095 v44 w9 ⟨by decide, by decide, by show _ = some 2; decide +kernel⟩ (by omega) (by decide) (fh_recv hK hP mkM_o rfl) hP hS hl.1 rfl (by exact Nat.le_of_ble_eq_true rfl) (fh_d d_Mo_obey 126 rfl) ⟨Nat.le_refl _, Nat.le_refl _⟩ (fun v9 h9 n9 H locs hq hP hS => ?_)
      obtain ⟨rfl, u90, u91⟩ := hq
      rw [u90, u91] at hP
      refine lv_goto (tgt := 315) hx hb (fh_d d_Mo_obey 127 rfl) rfl ?_
      refine fh_vret X hP hS (fh_d d_Mo_obey 166 rfl) ⟨rfl, ?_, rfl⟩
      have q9 : rz_obey A L a wr N U O 1818584692 = rz_left A L (a + ll (A 0) L a 1) wr N U O := rfl
      rw [q9]
      unfold rz_left
      rw [qw]
      try rfl
    · refine lv_aload_n hx hb (fh_d d_Mo_obey 114 rfl) rfl (lv_at hl 1 rfl) ?_
      refine fh_get (own := "FormulaSetterModel") (ref := "FormulaSetterModel") (C := "FormulaSetterModel") (T := T_Mo) (N := 53) (v := .ref (x + 3)) hx hb hT i_Mo hown hK hP mkM_o rfl 8 (by decide) (hT _ w868) (fun _ h9 => h9) rfl (fh_d d_Mo_obey 115 rfl) ?_
      refine lv_iload_n hx hb (fh_d d_Mo_obey 116 rfl) rfl (lv_at hl 0 rfl) ?_
      refine fn_iald (f := upd (rz_N A N O 8 7 2) N (rz_sd A L (a + ll (A 0) L a 1))) (k := N) hx hb hK hP 0 mkM_a2 rfl (rfl) (by omega) (by decide) (fh_d d_Mo_obey 117 rfl) ?_
      rw [pk_us]
      refine lv_if_ge (tgt := 231) hx hb (fh_d d_Mo_obey 118 rfl) rfl (fun c92 => ?_) (fun c92 => ?_)
      · refine lv_iconst (v := 0) hx hb (fh_d d_Mo_obey 121 rfl) (by decide) ?_
        have qw : orw (rz_W A O U wr) (rz_sd A L (a + ll (A 0) L a 1) < 0) = 0 := if_neg (fun z => z.elim (fun z1 => z1 c89) (fun z2 => absurd c92 (Int32.not_le.mpr z2)))
        refine fh_put (own := "FormulaSetterModel") (ref := "FormulaSetterModel") (C := "FormulaSetterModel") (T := T_Mo) (N := 53) (v := .int 0) (ty := .boolean) hx hb hT i_Mo t_Mo k_Mo n_Mo hown hK hP hS mkM_o rfl 4 (by decide) (hT _ w864) (fun _ h9 => h9) rfl (by decide +kernel) rfl rfl (Nat.le_of_ble_eq_true rfl) (fh_d d_Mo_obey 122 rfl) (fun H locs hP hS => ?_)
        replace hP := fh_P.eq (h' := mkM ct x g (up2 (rz_N A N O 8 7) 2 (upd (rz_N A N O 8 7 2) N (rz_sd A L (a + ll (A 0) L a 1)))) th (nI L) (nI (sk (A 0) L (a + ll (A 0) L a 1) + 1)) 0 (nI (N + 1)) (nI (U + 1)) (nI O) pi wi he de) hP mkM_ux
        refine lv_aload_n hx hb (fh_d d_Mo_obey 123 rfl) rfl (lv_at hl 1 rfl) ?_
        refine lv_iload_n hx hb (fh_d d_Mo_obey 124 rfl) rfl (lv_at hl 0 rfl) ?_
        refine lv_iconst (v := 2) hx hb (fh_d d_Mo_obey 125 rfl) (by decide) ?_
        refine fh_callV (cc' := c_Mo_inside) (nL' := 4) (rest := []) (a := x) (As := [.int (nI N), .int 2]) X hR (m_Mo_inside l D ct b RO hR (r - 1) (by omega) n x g (up2 (rz_N A N O 8 7) 2 (upd (rz_N A N O 8 7 2) N (rz_sd A L (a + ll (A 0) L a 1)))) th (nI L) (nI (sk (A 0) L (a + ll (A 0) L a 1) + 1)) 0 (nI (U + 1)) pi wi he de 2 (N + 1) O N (by omega) (by omega) (by omega)) w1096 w1093 w1095 v44 w9 ⟨by decide, by decide, by show _ = some 2; decide +kernel⟩ (by omega) (by decide) (fh_recv hK hP mkM_o rfl) hP hS hl.1 rfl (by exact Nat.le_of_ble_eq_true rfl) (fh_d d_Mo_obey 126 rfl) ⟨Nat.le_refl _, Nat.le_refl _⟩ (fun v9 h9 n9 H locs hq hP hS => ?_)
        obtain ⟨rfl, u93, u94⟩ := hq
        rw [u93, u94] at hP
        refine lv_goto (tgt := 315) hx hb (fh_d d_Mo_obey 127 rfl) rfl ?_
        refine fh_vret X hP hS (fh_d d_Mo_obey 166 rfl) ⟨rfl, ?_, rfl⟩
        have q9 : rz_obey A L a wr N U O 1818584692 = rz_left A L (a + ll (A 0) L a 1) wr N U O := rfl
        rw [q9]
        unfold rz_left
        rw [qw]
        try rfl
      · refine lv_iconst (v := 1) hx hb (fh_d d_Mo_obey 119 rfl) (by decide) ?_
        refine lv_goto (tgt := 232) hx hb (fh_d d_Mo_obey 120 rfl) rfl ?_
        have qw : orw (rz_W A O U wr) (rz_sd A L (a + ll (A 0) L a 1) < 0) = 1 := if_pos (Or.inr (Int32.not_le.mp c92))
        refine fh_put (own := "FormulaSetterModel") (ref := "FormulaSetterModel") (C := "FormulaSetterModel") (T := T_Mo) (N := 53) (v := .int 1) (ty := .boolean) hx hb hT i_Mo t_Mo k_Mo n_Mo hown hK hP hS mkM_o rfl 4 (by decide) (hT _ w864) (fun _ h9 => h9) rfl (by decide +kernel) rfl rfl (Nat.le_of_ble_eq_true rfl) (fh_d d_Mo_obey 122 rfl) (fun H locs hP hS => ?_)
        replace hP := fh_P.eq (h' := mkM ct x g (up2 (rz_N A N O 8 7) 2 (upd (rz_N A N O 8 7 2) N (rz_sd A L (a + ll (A 0) L a 1)))) th (nI L) (nI (sk (A 0) L (a + ll (A 0) L a 1) + 1)) 1 (nI (N + 1)) (nI (U + 1)) (nI O) pi wi he de) hP mkM_ux
        refine lv_aload_n hx hb (fh_d d_Mo_obey 123 rfl) rfl (lv_at hl 1 rfl) ?_
        refine lv_iload_n hx hb (fh_d d_Mo_obey 124 rfl) rfl (lv_at hl 0 rfl) ?_
        refine lv_iconst (v := 2) hx hb (fh_d d_Mo_obey 125 rfl) (by decide) ?_
        refine fh_callV (cc' := c_Mo_inside) (nL' := 4) (rest := []) (a := x) (As := [.int (nI N), .int 2]) X hR (m_Mo_inside l D ct b RO hR (r - 1) (by omega) n x g (up2 (rz_N A N O 8 7) 2 (upd (rz_N A N O 8 7 2) N (rz_sd A L (a + ll (A 0) L a 1)))) th (nI L) (nI (sk (A 0) L (a + ll (A 0) L a 1) + 1)) 1 (nI (U + 1)) pi wi he de 2 (N + 1) O N (by omega) (by omega) (by omega)) w1096 w1093 w1095 v44 w9 ⟨by decide, by decide, by show _ = some 2; decide +kernel⟩ (by omega) (by decide) (fh_recv hK hP mkM_o rfl) hP hS hl.1 rfl (by exact Nat.le_of_ble_eq_true rfl) (fh_d d_Mo_obey 126 rfl) ⟨Nat.le_refl _, Nat.le_refl _⟩ (fun v9 h9 n9 H locs hq hP hS => ?_)
        obtain ⟨rfl, u95, u96⟩ := hq
        rw [u95, u96] at hP
        refine lv_goto (tgt := 315) hx hb (fh_d d_Mo_obey 127 rfl) rfl ?_
        refine fh_vret X hP hS (fh_d d_Mo_obey 166 rfl) ⟨rfl, ?_, rfl⟩
        have q9 : rz_obey A L a wr N U O 1818584692 = rz_left A L (a + ll (A 0) L a 1) wr N U O := rfl
        rw [q9]
        unfold rz_left
        rw [qw]
        try rfl
  by_cases e7168372 : nm = 7168372
  · subst e7168372
    refine lv_lload_n hx hb (fh_d d_Mo_obey 7 rfl) rfl (lv_at hl 1 rfl) ?_
    refine lv_ldc2 (v := 7566701) hx hb hown (hT _ w1105) (fh_d d_Mo_obey 8 rfl) ?_
    refine W.lcmp hx hb (fh_d d_Mo_obey 9 rfl) ?_
    refine lv_if_eq (tgt := 37) hx hb (fh_d d_Mo_obey 10 rfl) rfl (fun c97 => absurd c97 (by decide)) (fun c97 => ?_)
    refine lv_lload_n hx hb (fh_d d_Mo_obey 11 rfl) rfl (lv_at hl 1 rfl) ?_
    refine lv_ldc2 (v := 1886547812) hx hb hown (hT _ w1106) (fh_d d_Mo_obey 12 rfl) ?_
    refine W.lcmp hx hb (fh_d d_Mo_obey 13 rfl) ?_
    refine lv_if_eq (tgt := 37) hx hb (fh_d d_Mo_obey 14 rfl) rfl (fun c98 => absurd c98 (by decide)) (fun c98 => ?_)
    refine lv_lload_n hx hb (fh_d d_Mo_obey 15 rfl) rfl (lv_at hl 1 rfl) ?_
    refine lv_ldc2 (v := 6909556) hx hb hown (hT _ w1107) (fh_d d_Mo_obey 16 rfl) ?_
    refine W.lcmp hx hb (fh_d d_Mo_obey 17 rfl) ?_
    refine lv_if_ne (tgt := 86) hx hb (fh_d d_Mo_obey 18 rfl) rfl (fun c99 => ?_) (fun c99 => absurd c99 (by decide))
    refine lv_lload_n hx hb (fh_d d_Mo_obey 45 rfl) rfl (lv_at hl 1 rfl) ?_
    refine lv_ldc2 (v := 1718772067) hx hb hown (hT _ w1108) (fh_d d_Mo_obey 46 rfl) ?_
    refine W.lcmp hx hb (fh_d d_Mo_obey 47 rfl) ?_
    refine lv_if_eq (tgt := 118) hx hb (fh_d d_Mo_obey 48 rfl) rfl (fun c100 => absurd c100 (by decide)) (fun c100 => ?_)
    refine lv_lload_n hx hb (fh_d d_Mo_obey 49 rfl) rfl (lv_at hl 1 rfl) ?_
    refine lv_ldc2 (v := 1936814708) hx hb hown (hT _ w1109) (fh_d d_Mo_obey 50 rfl) ?_
    refine W.lcmp hx hb (fh_d d_Mo_obey 51 rfl) ?_
    refine lv_if_eq (tgt := 118) hx hb (fh_d d_Mo_obey 52 rfl) rfl (fun c101 => absurd c101 (by decide)) (fun c101 => ?_)
    refine lv_lload_n hx hb (fh_d d_Mo_obey 53 rfl) rfl (lv_at hl 1 rfl) ?_
    refine lv_ldc2 (v := 6840692) hx hb hown (hT _ w1110) (fh_d d_Mo_obey 54 rfl) ?_
    refine W.lcmp hx hb (fh_d d_Mo_obey 55 rfl) ?_
    refine lv_if_eq (tgt := 118) hx hb (fh_d d_Mo_obey 56 rfl) rfl (fun c102 => absurd c102 (by decide)) (fun c102 => ?_)
    refine lv_lload_n hx hb (fh_d d_Mo_obey 57 rfl) rfl (lv_at hl 1 rfl) ?_
    refine lv_ldc2 (v := 6447474) hx hb hown (hT _ w1111) (fh_d d_Mo_obey 58 rfl) ?_
    refine W.lcmp hx hb (fh_d d_Mo_obey 59 rfl) ?_
    refine lv_if_ne (tgt := 183) hx hb (fh_d d_Mo_obey 60 rfl) rfl (fun c103 => ?_) (fun c103 => absurd c103 (by decide))
    refine lv_lload_n hx hb (fh_d d_Mo_obey 95 rfl) rfl (lv_at hl 1 rfl) ?_
    refine lv_ldc2 (v := 1818584692) hx hb hown (hT _ w1112) (fh_d d_Mo_obey 96 rfl) ?_
    refine W.lcmp hx hb (fh_d d_Mo_obey 97 rfl) ?_
    refine lv_if_ne (tgt := 244) hx hb (fh_d d_Mo_obey 98 rfl) rfl (fun c104 => ?_) (fun c104 => absurd c104 (by decide))
    refine lv_lload_n hx hb (fh_d d_Mo_obey 128 rfl) rfl (lv_at hl 1 rfl) ?_
    refine lv_ldc2 (v := 7168372) hx hb hown (hT _ w1113) (fh_d d_Mo_obey 129 rfl) ?_
    refine W.lcmp hx hb (fh_d d_Mo_obey 130 rfl) ?_
    refine lv_if_ne (tgt := 310) hx hb (fh_d d_Mo_obey 131 rfl) rfl (fun c105 => absurd c105 (Classical.not_not.mpr (by decide))) (fun c105 => ?_)
    refine lv_aload_n hx hb (fh_d d_Mo_obey 132 rfl) rfl (lv_at hl 0 rfl) ?_
    refine lv_bipush (v := 9) hx hb (fh_d d_Mo_obey 133 rfl) (by decide) ?_
    refine lv_bipush (v := 7) hx hb (fh_d d_Mo_obey 134 rfl) (by decide) ?_
    refine fh_callV (cc' := c_Mo_nucleus) (nL' := 5) (rest := []) (a := x) (As := [.int 9, .int 7]) X hR (m_Mo_nucleus l D ct b RO hR (r - 1) (by omega) n x g A th (nI L) (nI (a + ll (A 0) L a 1)) wr pi wi he de 9 7 N O U (rz_u A O) (by omega) hO (by omega) (fun _ => hu0)) w1092 w1089 w1091 v43 w9 ⟨by decide, by decide, by show _ = some 2; decide +kernel⟩ (by omega) (by decide) (fh_recv hK hP mkM_o rfl) hP hS hl.1 rfl (by exact Nat.le_of_ble_eq_true rfl) (fh_d d_Mo_obey 135 rfl) ⟨Nat.le_refl _, Nat.le_refl _⟩ (fun v9 h9 n9 H locs hq hP hS => ?_)
    obtain ⟨rfl, u106, u107⟩ := hq
    rw [u106, u107] at hP
    refine lv_istore_n (lv' := [(3, .int (nI N)), (0, .ref x), (1, .long 7168372)]) hx hb (fh_d d_Mo_obey 136 rfl) rfl hl (by decide) rfl (fun ls hl => ?_)
    refine lv_aload_n hx hb (fh_d d_Mo_obey 137 rfl) rfl (lv_at hl 1 rfl) ?_
    refine fh_callV (cc' := c_Mo_blanks) (nL' := 1) (rest := []) (a := x) (As := []) X hR (m_Mo_blanks l D ct b RO hR (r - 1) (by omega) n x g (rz_N A N O 9 7) th (rz_W A O U wr) (nI (N + 1)) (nI (U + 1)) (nI O) pi wi he de L (a + ll (A 0) L a 1) hL (by omega)) w1056 w1053 w1055 v35 w9 ⟨by decide, by decide, by show _ = some 0; decide +kernel⟩ (by omega) (by decide) (fh_recv hK hP mkM_o rfl) hP hS hl.1 rfl (by exact Nat.le_of_ble_eq_true rfl) (fh_d d_Mo_obey 138 rfl) ⟨Nat.le_refl _, Nat.le_refl _⟩ (fun v9 h9 n9 H locs hq hP hS => ?_)
    obtain ⟨rfl, u108, u109⟩ := hq
    rw [u108, u109] at hP
    have hsk := (sk_ge (A 0) L _ (a + ll (A 0) L a 1) rfl)
    have hsk2 : sk (A 0) L (a + ll (A 0) L a 1) ≤ 1000 := by
      by_cases q9 : a + ll (A 0) L a 1 ≤ L
      · have := hsk.2 q9; omega
      · rw [sk_n (by omega)]; omega
    refine lv_aload_n hx hb (fh_d d_Mo_obey 139 rfl) rfl (lv_at hl 1 rfl) ?_
    refine lv_aload_n hx hb (fh_d d_Mo_obey 140 rfl) rfl (lv_at hl 1 rfl) ?_
    refine fh_get (own := "FormulaSetterModel") (ref := "FormulaSetterModel") (C := "FormulaSetterModel") (T := T_Mo) (N := 53) (v := .int (rz_W A O U wr)) hx hb hT i_Mo hown hK hP mkM_o rfl 4 (by decide) (hT _ w864) (fun _ h9 => h9) rfl (fh_d d_Mo_obey 141 rfl) ?_
    refine lv_if_ne (tgt := 283) hx hb (fh_d d_Mo_obey 142 rfl) rfl (fun c110 => ?_) (fun c110 => ?_)
    · refine lv_iconst (v := 1) hx hb (fh_d d_Mo_obey 148 rfl) (by decide) ?_
      refine lv_goto (tgt := 288) hx hb (fh_d d_Mo_obey 149 rfl) rfl ?_
      have qw : orw (rz_W A O U wr) (¬ hre (A 0) L (sk (A 0) L (a + ll (A 0) L a 1)) = 123) = 1 := if_pos (Or.inl c110)
      refine fh_put (own := "FormulaSetterModel") (ref := "FormulaSetterModel") (C := "FormulaSetterModel") (T := T_Mo) (N := 53) (v := .int 1) (ty := .boolean) hx hb hT i_Mo t_Mo k_Mo n_Mo hown hK hP hS mkM_o rfl 4 (by decide) (hT _ w864) (fun _ h9 => h9) rfl (by decide +kernel) rfl rfl (Nat.le_of_ble_eq_true rfl) (fh_d d_Mo_obey 151 rfl) (fun H locs hP hS => ?_)
      replace hP := fh_P.eq (h' := mkM ct x g (rz_N A N O 9 7) th (nI L) (nI (sk (A 0) L (a + ll (A 0) L a 1))) 1 (nI (N + 1)) (nI (U + 1)) (nI O) pi wi he de) hP mkM_ux
      refine lv_aload_n hx hb (fh_d d_Mo_obey 152 rfl) rfl (lv_at hl 1 rfl) ?_
      refine lv_dup hx hb (fh_d d_Mo_obey 153 rfl) rfl ?_
      refine fh_get (own := "FormulaSetterModel") (ref := "FormulaSetterModel") (C := "FormulaSetterModel") (T := T_Mo) (N := 53) (v := .int (nI (sk (A 0) L (a + ll (A 0) L a 1)))) hx hb hT i_Mo hown hK hP mkM_o rfl 3 (by decide) (hT _ w863) (fun _ h9 => h9) rfl (fh_d d_Mo_obey 154 rfl) ?_
      refine lv_iconst (v := 1) hx hb (fh_d d_Mo_obey 155 rfl) (by decide) ?_
      refine lv_iadd hx hb (fh_d d_Mo_obey 156 rfl) ?_
      refine fh_put (own := "FormulaSetterModel") (ref := "FormulaSetterModel") (C := "FormulaSetterModel") (T := T_Mo) (N := 53) (v := .int ((nI (sk (A 0) L (a + ll (A 0) L a 1))) + 1)) (ty := .int) hx hb hT i_Mo t_Mo k_Mo n_Mo hown hK hP hS mkM_o rfl 3 (by decide) (hT _ w863) (fun _ h9 => h9) rfl (by decide +kernel) rfl rfl (Nat.le_of_ble_eq_true rfl) (fh_d d_Mo_obey 157 rfl) (fun H locs hP hS => ?_)
      replace hP := fh_P.eq (h' := mkM ct x g (rz_N A N O 9 7) th (nI L) ((nI (sk (A 0) L (a + ll (A 0) L a 1))) + 1) 1 (nI (N + 1)) (nI (U + 1)) (nI O) pi wi he de) hP mkM_ux
      rw [nI_1] at hP
      refine lv_aload_n hx hb (fh_d d_Mo_obey 158 rfl) rfl (lv_at hl 1 rfl) ?_
      refine lv_iload_n hx hb (fh_d d_Mo_obey 159 rfl) rfl (lv_at hl 0 rfl) ?_
      refine lv_iconst (v := 3) hx hb (fh_d d_Mo_obey 160 rfl) (by decide) ?_
      refine fh_callV (cc' := c_Mo_inside) (nL' := 4) (rest := []) (a := x) (As := [.int (nI N), .int 3]) X hR (m_Mo_inside l D ct b RO hR (r - 1) (by omega) n x g (rz_N A N O 9 7) th (nI L) (nI (sk (A 0) L (a + ll (A 0) L a 1) + 1)) 1 (nI (U + 1)) pi wi he de 3 (N + 1) O N (by omega) (by omega) (by omega)) w1096 w1093 w1095 v44 w9 ⟨by decide, by decide, by show _ = some 2; decide +kernel⟩ (by omega) (by decide) (fh_recv hK hP mkM_o rfl) hP hS hl.1 rfl (by exact Nat.le_of_ble_eq_true rfl) (fh_d d_Mo_obey 161 rfl) ⟨Nat.le_refl _, Nat.le_refl _⟩ (fun v9 h9 n9 H locs hq hP hS => ?_)
      obtain ⟨rfl, u111, u112⟩ := hq
      rw [u111, u112] at hP
      refine lv_goto (tgt := 315) hx hb (fh_d d_Mo_obey 162 rfl) rfl ?_
      refine fh_vret X hP hS (fh_d d_Mo_obey 166 rfl) ⟨rfl, ?_, rfl⟩
      have q9 : rz_obey A L a wr N U O 7168372 = rz_mat A L (a + ll (A 0) L a 1) wr N U O := rfl
      rw [q9]
      unfold rz_mat
      rw [qw]
      try rfl
    · refine lv_aload_n hx hb (fh_d d_Mo_obey 143 rfl) rfl (lv_at hl 1 rfl) ?_
      refine lv_iconst (v := 0) hx hb (fh_d d_Mo_obey 144 rfl) (by decide) ?_
      refine fh_callV (cc' := c_Mo_here) (nL' := 2) (rest := [.ref x]) (a := x) (As := [.int 0]) X hR (m_Mo_here l D ct b RO (r - 1) n x g (rz_N A N O 9 7) th (rz_W A O U wr) (nI (N + 1)) (nI (U + 1)) (nI O) pi wi he de L (sk (A 0) L (a + ll (A 0) L a 1))  (0) hL (by omega)) w1060 w1057 w1059 v36 w9 ⟨by decide, by decide, by show _ = some 1; decide +kernel⟩ (by omega) (by decide) (fh_recv hK hP mkM_o rfl) hP hS hl.1 rfl (by exact Nat.le_of_ble_eq_true rfl) (fh_d d_Mo_obey 145 rfl) ⟨Nat.le_refl _, Nat.le_refl _⟩ (fun v9 h9 n9 H locs hq hP hS => ?_)
      obtain ⟨rfl, u113, u114⟩ := hq
      rw [u113, u114] at hP
      have hq0 : (if sk (A 0) L (a + ll (A 0) L a 1) + 0 < L then (rz_N A N O 9 7) 0 (sk (A 0) L (a + ll (A 0) L a 1) + 0) else 0) = hre (A 0) L (sk (A 0) L (a + ll (A 0) L a 1)) := rfl
      try rw [hq0]
      refine lv_bipush (v := 123) hx hb (fh_d d_Mo_obey 146 rfl) (by decide) ?_
      refine lv_icmp_eq (tgt := 287) hx hb (fh_d d_Mo_obey 147 rfl) rfl (fun c115 => ?_) (fun c115 => ?_)
      · refine lv_iconst (v := 0) hx hb (fh_d d_Mo_obey 150 rfl) (by decide) ?_
        have qw : orw (rz_W A O U wr) (¬ hre (A 0) L (sk (A 0) L (a + ll (A 0) L a 1)) = 123) = 0 := if_neg (fun z => z.elim (fun z1 => z1 c110) (fun z2 => z2 c115))
        refine fh_put (own := "FormulaSetterModel") (ref := "FormulaSetterModel") (C := "FormulaSetterModel") (T := T_Mo) (N := 53) (v := .int 0) (ty := .boolean) hx hb hT i_Mo t_Mo k_Mo n_Mo hown hK hP hS mkM_o rfl 4 (by decide) (hT _ w864) (fun _ h9 => h9) rfl (by decide +kernel) rfl rfl (Nat.le_of_ble_eq_true rfl) (fh_d d_Mo_obey 151 rfl) (fun H locs hP hS => ?_)
        replace hP := fh_P.eq (h' := mkM ct x g (rz_N A N O 9 7) th (nI L) (nI (sk (A 0) L (a + ll (A 0) L a 1))) 0 (nI (N + 1)) (nI (U + 1)) (nI O) pi wi he de) hP mkM_ux
        refine lv_aload_n hx hb (fh_d d_Mo_obey 152 rfl) rfl (lv_at hl 1 rfl) ?_
        refine lv_dup hx hb (fh_d d_Mo_obey 153 rfl) rfl ?_
        refine fh_get (own := "FormulaSetterModel") (ref := "FormulaSetterModel") (C := "FormulaSetterModel") (T := T_Mo) (N := 53) (v := .int (nI (sk (A 0) L (a + ll (A 0) L a 1)))) hx hb hT i_Mo hown hK hP mkM_o rfl 3 (by decide) (hT _ w863) (fun _ h9 => h9) rfl (fh_d d_Mo_obey 154 rfl) ?_
        refine lv_iconst (v := 1) hx hb (fh_d d_Mo_obey 155 rfl) (by decide) ?_
        refine lv_iadd hx hb (fh_d d_Mo_obey 156 rfl) ?_
        refine fh_put (own := "FormulaSetterModel") (ref := "FormulaSetterModel") (C := "FormulaSetterModel") (T := T_Mo) (N := 53) (v := .int ((nI (sk (A 0) L (a + ll (A 0) L a 1))) + 1)) (ty := .int) hx hb hT i_Mo t_Mo k_Mo n_Mo hown hK hP hS mkM_o rfl 3 (by decide) (hT _ w863) (fun _ h9 => h9) rfl (by decide +kernel) rfl rfl (Nat.le_of_ble_eq_true rfl) (fh_d d_Mo_obey 157 rfl) (fun H locs hP hS => ?_)
        replace hP := fh_P.eq (h' := mkM ct x g (rz_N A N O 9 7) th (nI L) ((nI (sk (A 0) L (a + ll (A 0) L a 1))) + 1) 0 (nI (N + 1)) (nI (U + 1)) (nI O) pi wi he de) hP mkM_ux
        rw [nI_1] at hP
        refine lv_aload_n hx hb (fh_d d_Mo_obey 158 rfl) rfl (lv_at hl 1 rfl) ?_
        refine lv_iload_n hx hb (fh_d d_Mo_obey 159 rfl) rfl (lv_at hl 0 rfl) ?_
        refine lv_iconst (v := 3) hx hb (fh_d d_Mo_obey 160 rfl) (by decide) ?_
        refine fh_callV (cc' := c_Mo_inside) (nL' := 4) (rest := []) (a := x) (As := [.int (nI N), .int 3]) X hR (m_Mo_inside l D ct b RO hR (r - 1) (by omega) n x g (rz_N A N O 9 7) th (nI L) (nI (sk (A 0) L (a + ll (A 0) L a 1) + 1)) 0 (nI (U + 1)) pi wi he de 3 (N + 1) O N (by omega) (by omega) (by omega)) w1096 w1093 w1095 v44 w9 ⟨by decide, by decide, by show _ = some 2; decide +kernel⟩ (by omega) (by decide) (fh_recv hK hP mkM_o rfl) hP hS hl.1 rfl (by exact Nat.le_of_ble_eq_true rfl) (fh_d d_Mo_obey 161 rfl) ⟨Nat.le_refl _, Nat.le_refl _⟩ (fun v9 h9 n9 H locs hq hP hS => ?_)
        obtain ⟨rfl, u116, u117⟩ := hq
        rw [u116, u117] at hP
        refine lv_goto (tgt := 315) hx hb (fh_d d_Mo_obey 162 rfl) rfl ?_
        refine fh_vret X hP hS (fh_d d_Mo_obey 166 rfl) ⟨rfl, ?_, rfl⟩
        have q9 : rz_obey A L a wr N U O 7168372 = rz_mat A L (a + ll (A 0) L a 1) wr N U O := rfl
        rw [q9]
        unfold rz_mat
        rw [qw]
        try rfl
      · refine lv_iconst (v := 1) hx hb (fh_d d_Mo_obey 148 rfl) (by decide) ?_
        refine lv_goto (tgt := 288) hx hb (fh_d d_Mo_obey 149 rfl) rfl ?_
        have qw : orw (rz_W A O U wr) (¬ hre (A 0) L (sk (A 0) L (a + ll (A 0) L a 1)) = 123) = 1 := if_pos (Or.inr (c115))
        refine fh_put (own := "FormulaSetterModel") (ref := "FormulaSetterModel") (C := "FormulaSetterModel") (T := T_Mo) (N := 53) (v := .int 1) (ty := .boolean) hx hb hT i_Mo t_Mo k_Mo n_Mo hown hK hP hS mkM_o rfl 4 (by decide) (hT _ w864) (fun _ h9 => h9) rfl (by decide +kernel) rfl rfl (Nat.le_of_ble_eq_true rfl) (fh_d d_Mo_obey 151 rfl) (fun H locs hP hS => ?_)
        replace hP := fh_P.eq (h' := mkM ct x g (rz_N A N O 9 7) th (nI L) (nI (sk (A 0) L (a + ll (A 0) L a 1))) 1 (nI (N + 1)) (nI (U + 1)) (nI O) pi wi he de) hP mkM_ux
        refine lv_aload_n hx hb (fh_d d_Mo_obey 152 rfl) rfl (lv_at hl 1 rfl) ?_
        refine lv_dup hx hb (fh_d d_Mo_obey 153 rfl) rfl ?_
        refine fh_get (own := "FormulaSetterModel") (ref := "FormulaSetterModel") (C := "FormulaSetterModel") (T := T_Mo) (N := 53) (v := .int (nI (sk (A 0) L (a + ll (A 0) L a 1)))) hx hb hT i_Mo hown hK hP mkM_o rfl 3 (by decide) (hT _ w863) (fun _ h9 => h9) rfl (fh_d d_Mo_obey 154 rfl) ?_
        refine lv_iconst (v := 1) hx hb (fh_d d_Mo_obey 155 rfl) (by decide) ?_
        refine lv_iadd hx hb (fh_d d_Mo_obey 156 rfl) ?_
        refine fh_put (own := "FormulaSetterModel") (ref := "FormulaSetterModel") (C := "FormulaSetterModel") (T := T_Mo) (N := 53) (v := .int ((nI (sk (A 0) L (a + ll (A 0) L a 1))) + 1)) (ty := .int) hx hb hT i_Mo t_Mo k_Mo n_Mo hown hK hP hS mkM_o rfl 3 (by decide) (hT _ w863) (fun _ h9 => h9) rfl (by decide +kernel) rfl rfl (Nat.le_of_ble_eq_true rfl) (fh_d d_Mo_obey 157 rfl) (fun H locs hP hS => ?_)
        replace hP := fh_P.eq (h' := mkM ct x g (rz_N A N O 9 7) th (nI L) ((nI (sk (A 0) L (a + ll (A 0) L a 1))) + 1) 1 (nI (N + 1)) (nI (U + 1)) (nI O) pi wi he de) hP mkM_ux
        rw [nI_1] at hP
        refine lv_aload_n hx hb (fh_d d_Mo_obey 158 rfl) rfl (lv_at hl 1 rfl) ?_
        refine lv_iload_n hx hb (fh_d d_Mo_obey 159 rfl) rfl (lv_at hl 0 rfl) ?_
        refine lv_iconst (v := 3) hx hb (fh_d d_Mo_obey 160 rfl) (by decide) ?_
        refine fh_callV (cc' := c_Mo_inside) (nL' := 4) (rest := []) (a := x) (As := [.int (nI N), .int 3]) X hR (m_Mo_inside l D ct b RO hR (r - 1) (by omega) n x g (rz_N A N O 9 7) th (nI L) (nI (sk (A 0) L (a + ll (A 0) L a 1) + 1)) 1 (nI (U + 1)) pi wi he de 3 (N + 1) O N (by omega) (by omega) (by omega)) w1096 w1093 w1095 v44 w9 ⟨by decide, by decide, by show _ = some 2; decide +kernel⟩ (by omega) (by decide) (fh_recv hK hP mkM_o rfl) hP hS hl.1 rfl (by exact Nat.le_of_ble_eq_true rfl) (fh_d d_Mo_obey 161 rfl) ⟨Nat.le_refl _, Nat.le_refl _⟩ (fun v9 h9 n9 H locs hq hP hS => ?_)
        obtain ⟨rfl, u118, u119⟩ := hq
        rw [u118, u119] at hP
        refine lv_goto (tgt := 315) hx hb (fh_d d_Mo_obey 162 rfl) rfl ?_
        refine fh_vret X hP hS (fh_d d_Mo_obey 166 rfl) ⟨rfl, ?_, rfl⟩
        have q9 : rz_obey A L a wr N U O 7168372 = rz_mat A L (a + ll (A 0) L a 1) wr N U O := rfl
        rw [q9]
        unfold rz_mat
        rw [qw]
        try rfl
  refine lv_lload_n hx hb (fh_d d_Mo_obey 7 rfl) rfl (lv_at hl 1 rfl) ?_
  refine lv_ldc2 (v := 7566701) hx hb hown (hT _ w1105) (fh_d d_Mo_obey 8 rfl) ?_
  refine W.lcmp hx hb (fh_d d_Mo_obey 9 rfl) ?_
  refine lv_if_eq (tgt := 37) hx hb (fh_d d_Mo_obey 10 rfl) rfl (fun c120 => absurd c120 (fun z => e7566701 ((lg_cmp_eq _ _).mp z))) (fun c120 => ?_)
  refine lv_lload_n hx hb (fh_d d_Mo_obey 11 rfl) rfl (lv_at hl 1 rfl) ?_
  refine lv_ldc2 (v := 1886547812) hx hb hown (hT _ w1106) (fh_d d_Mo_obey 12 rfl) ?_
  refine W.lcmp hx hb (fh_d d_Mo_obey 13 rfl) ?_
  refine lv_if_eq (tgt := 37) hx hb (fh_d d_Mo_obey 14 rfl) rfl (fun c121 => absurd c121 (fun z => e1886547812 ((lg_cmp_eq _ _).mp z))) (fun c121 => ?_)
  refine lv_lload_n hx hb (fh_d d_Mo_obey 15 rfl) rfl (lv_at hl 1 rfl) ?_
  refine lv_ldc2 (v := 6909556) hx hb hown (hT _ w1107) (fh_d d_Mo_obey 16 rfl) ?_
  refine W.lcmp hx hb (fh_d d_Mo_obey 17 rfl) ?_
  refine lv_if_ne (tgt := 86) hx hb (fh_d d_Mo_obey 18 rfl) rfl (fun c122 => ?_) (fun c122 => absurd c122 (fun z => e6909556 ((lg_cmp_eq _ _).mp z)))
  refine lv_lload_n hx hb (fh_d d_Mo_obey 45 rfl) rfl (lv_at hl 1 rfl) ?_
  refine lv_ldc2 (v := 1718772067) hx hb hown (hT _ w1108) (fh_d d_Mo_obey 46 rfl) ?_
  refine W.lcmp hx hb (fh_d d_Mo_obey 47 rfl) ?_
  refine lv_if_eq (tgt := 118) hx hb (fh_d d_Mo_obey 48 rfl) rfl (fun c123 => absurd c123 (fun z => e1718772067 ((lg_cmp_eq _ _).mp z))) (fun c123 => ?_)
  refine lv_lload_n hx hb (fh_d d_Mo_obey 49 rfl) rfl (lv_at hl 1 rfl) ?_
  refine lv_ldc2 (v := 1936814708) hx hb hown (hT _ w1109) (fh_d d_Mo_obey 50 rfl) ?_
  refine W.lcmp hx hb (fh_d d_Mo_obey 51 rfl) ?_
  refine lv_if_eq (tgt := 118) hx hb (fh_d d_Mo_obey 52 rfl) rfl (fun c124 => absurd c124 (fun z => e1936814708 ((lg_cmp_eq _ _).mp z))) (fun c124 => ?_)
  refine lv_lload_n hx hb (fh_d d_Mo_obey 53 rfl) rfl (lv_at hl 1 rfl) ?_
  refine lv_ldc2 (v := 6840692) hx hb hown (hT _ w1110) (fh_d d_Mo_obey 54 rfl) ?_
  refine W.lcmp hx hb (fh_d d_Mo_obey 55 rfl) ?_
  refine lv_if_eq (tgt := 118) hx hb (fh_d d_Mo_obey 56 rfl) rfl (fun c125 => absurd c125 (fun z => e6840692 ((lg_cmp_eq _ _).mp z))) (fun c125 => ?_)
  refine lv_lload_n hx hb (fh_d d_Mo_obey 57 rfl) rfl (lv_at hl 1 rfl) ?_
  refine lv_ldc2 (v := 6447474) hx hb hown (hT _ w1111) (fh_d d_Mo_obey 58 rfl) ?_
  refine W.lcmp hx hb (fh_d d_Mo_obey 59 rfl) ?_
  refine lv_if_ne (tgt := 183) hx hb (fh_d d_Mo_obey 60 rfl) rfl (fun c126 => ?_) (fun c126 => absurd c126 (fun z => e6447474 ((lg_cmp_eq _ _).mp z)))
  refine lv_lload_n hx hb (fh_d d_Mo_obey 95 rfl) rfl (lv_at hl 1 rfl) ?_
  refine lv_ldc2 (v := 1818584692) hx hb hown (hT _ w1112) (fh_d d_Mo_obey 96 rfl) ?_
  refine W.lcmp hx hb (fh_d d_Mo_obey 97 rfl) ?_
  refine lv_if_ne (tgt := 244) hx hb (fh_d d_Mo_obey 98 rfl) rfl (fun c127 => ?_) (fun c127 => absurd c127 (fun z => e1818584692 ((lg_cmp_eq _ _).mp z)))
  refine lv_lload_n hx hb (fh_d d_Mo_obey 128 rfl) rfl (lv_at hl 1 rfl) ?_
  refine lv_ldc2 (v := 7168372) hx hb hown (hT _ w1113) (fh_d d_Mo_obey 129 rfl) ?_
  refine W.lcmp hx hb (fh_d d_Mo_obey 130 rfl) ?_
  refine lv_if_ne (tgt := 310) hx hb (fh_d d_Mo_obey 131 rfl) rfl (fun c128 => ?_) (fun c128 => absurd c128 (fun z => e7168372 ((lg_cmp_eq _ _).mp z)))
  refine lv_aload_n hx hb (fh_d d_Mo_obey 163 rfl) rfl (lv_at hl 0 rfl) ?_
  refine lv_iconst (v := 1) hx hb (fh_d d_Mo_obey 164 rfl) (by decide) ?_
  refine fh_put (own := "FormulaSetterModel") (ref := "FormulaSetterModel") (C := "FormulaSetterModel") (T := T_Mo) (N := 53) (v := .int 1) (ty := .boolean) hx hb hT i_Mo t_Mo k_Mo n_Mo hown hK hP hS mkM_o rfl 4 (by decide) (hT _ w864) (fun _ h9 => h9) rfl (by decide +kernel) rfl rfl (Nat.le_of_ble_eq_true rfl) (fh_d d_Mo_obey 165 rfl) (fun H locs hP hS => ?_)
  replace hP := fh_P.eq (h' := mkM ct x g A th (nI L) (nI (a + ll (A 0) L a 1)) 1 (nI N) (nI U) (nI O) pi wi he de) hP mkM_ux
  refine fh_vret X hP hS (fh_d d_Mo_obey 166 rfl) ⟨rfl, ?_, rfl⟩
  have q9 : rz_obey A L a wr N U O nm = (A, a + ll (A 0) L a 1, 1, N, U, O) := by unfold rz_obey; rw [if_neg e7566701, if_neg e1886547812, if_neg e6909556, if_neg e1718772067, if_neg e1936814708, if_neg e6840692, if_neg e6447474, if_neg e1818584692, if_neg e7168372]
  rw [q9]
  try rfl
