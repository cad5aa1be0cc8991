/-! The reference: reading, nucleus, inside, cell, side, letters. Printed by wip/whole/gen/p23.py -/
/-- the level of a nucleus that begins in frame O - 1 -/
abbrev rf_lv (A : Nat → Nat → Int32) (O u : Nat) : Int32 := if A 16 (O - 1) = 0 then 0 else A 5 u + 1
/-- nucleus: a node N of a kind and a class -/
def rf_nuc (A : Nat → Nat → Int32) (N O u : Nat) (wh cl : Int32) : Nat → Nat → Int32 := up2 (up2 (rf_make A N wh) 5 (upd (A 5) N (rf_lv A O u))) 4 (upd (rf_make A N wh 4) N cl)
abbrev rf_nw (A : Nat → Nat → Int32) (O u U : Nat) (wr : Int32) : Int32 := if ¬ wr = 0 ∨ 60 < nI (U + 1) ∨ 6 < rf_lv A O u then 1 else 0
set_option maxHeartbeats 4000000 in
set_option maxRecDepth 100000 in
theorem m_Mo_nucleus (l : Launch) (D : va_G) (ct : Nat → ClassId) (b : Nat) (RO : State → Prop) (hR : fh_R b RO) (r : Nat) (hr : 1 ≤ r) (n x : Nat) (g : fh_H) (A : Nat → Nat → Int32) (th co at_ wr pi wi he de wh cl : Int32) (N O U u : Nat) (hN : N < 400) (hO : 1 ≤ O) (hO2 : O ≤ 40) (hu : ¬ A 16 (O - 1) = 0 → A 17 (O - 1) = nI u ∧ u < 400) : fh_C l D fh_cl (fh_tys ct) b RO y_Mo_nucleus (Cond.code y_Mo_nucleus c_Mo_nucleus 5 (Option.some FieldType.int) :: fh_T) (fh_rm r 0 0) [.ref x, .int wh, .int cl] (mkM ct x g A th co at_ wr (nI N) (nI U) (nI O) pi wi he de) n (fun v h' n' => v = some (.int (nI N)) ∧ h' = mkM ct x g (rf_nuc A N O u wh cl) th co at_ (rf_nw A O u U wr) (nI (N + 1)) (nI (U + 1)) (nI O) pi wi he de ∧ n' = n) 0 0 := by
  refine fh_enter (by decide) (Nat.le_of_ble_eq_true rfl) [(0, .ref x), (1, .int wh), (2, .int cl)] rfl ?_
  intro p e s m args below meth c H ls X hP hS hl
  have hx := X.1
  have hb := X.2.1
  have hml := X.2.2.1
  have hown : s.vm.findClass "FormulaSetterModel" = some m.cls := X.2.2.2.1
  have hT := X.2.2.2.2.1
  have hK := X.2.2.2.2.2.1
  have hRO := X.2.2.2.2.2.2.1
  have hnm : meth.name = "nucleus" := X.2.2.2.2.2.2.2.2.2.2
  have J2 : ∀ (lv v : Int32) (hlv : lv = rf_lv A O u) (hv : v = rf_nw A O u U wr) (hz : narrow .boolean (.int v) = .int v ∧ fits .boolean (.int v) = true) (H : Heap) (locs : List Loc) (ls : Array Slot), fh_P D fh_cl b (mkM ct x g (rf_make A N wh) th co at_ wr (nI (N + 1)) (nI (U + 1)) (nI O) pi wi he de) n H → va_S (fh_A b) s.heap H locs → lv_has ls 5 [(4, .int lv), (3, .int (nI N)), (0, .ref x), (1, .int wh), (2, .int cl)] → W p l e (fh_rm r 0 0) s m args below meth c H locs 0 0 (MQ below (fh_Post D fh_cl b (fun v h' n' => v = some (.int (nI N)) ∧ h' = mkM ct x g (rf_nuc A N O u wh cl) th co at_ (rf_nw A O u U wr) (nI (N + 1)) (nI (U + 1)) (nI O) pi wi he de ∧ n' = n)) args s 0 0 (fh_A b)) (F0 m 83 ls [.int v, .ref x]) := by
    intro lv v hlv hv hz H locs ls hP hS hl
    refine fh_put (own := "FormulaSetterModel") (ref := "FormulaSetterModel") (C := "FormulaSetterModel") (T := T_Mo) (N := 53) (v := .int v) (ty := .boolean) hx hb hT i_Mo t_Mo k_Mo n_Mo hown hK hP hS mkM_o rfl 4 (by decide) (hT _ w864) (fun _ h9 => h9) rfl (by decide +kernel) hz.1 hz.2 (Nat.le_of_ble_eq_true rfl) (fh_d d_Mo_nucleus 47 rfl) (fun H locs hP hS => ?_)
    replace hP := fh_P.eq (h' := mkM ct x g (rf_make A N wh) th co at_ v (nI (N + 1)) (nI (U + 1)) (nI O) pi wi he de) hP mkM_ux
    refine lv_aload_n hx hb (fh_d d_Mo_nucleus 48 rfl) rfl (lv_at hl 2 rfl) ?_
    refine fh_get (own := "FormulaSetterModel") (ref := "FormulaSetterModel") (C := "FormulaSetterModel") (T := T_Mo) (N := 53) (v := .ref (x + 6)) hx hb hT i_Mo hown hK hP mkM_o rfl 11 (by decide) (hT _ w871) (fun _ h9 => h9) rfl (fh_d d_Mo_nucleus 49 rfl) ?_
    refine lv_iload_n hx hb (fh_d d_Mo_nucleus 50 rfl) rfl (lv_at hl 1 rfl) ?_
    refine lv_iload hx hb (fh_d d_Mo_nucleus 51 rfl) (lv_at hl 0 rfl) ?_
    refine fn_iast (f := A 5) (k := N) hx hb hK hP hS 0 mkM_a5 rfl (rfl) (hN) (by decide) (fh_d d_Mo_nucleus 52 rfl) (fun H locs hP hS => ?_)
    replace hP := fh_P.eq (h' := mkM ct x g (up2 (rf_make A N wh) 5 (upd (A 5) N lv)) th co at_ v (nI (N + 1)) (nI (U + 1)) (nI O) pi wi he de) hP mkM_u5
    refine lv_aload_n hx hb (fh_d d_Mo_nucleus 53 rfl) rfl (lv_at hl 2 rfl) ?_
    refine fh_get (own := "FormulaSetterModel") (ref := "FormulaSetterModel") (C := "FormulaSetterModel") (T := T_Mo) (N := 53) (v := .ref (x + 5)) hx hb hT i_Mo hown hK hP mkM_o rfl 10 (by decide) (hT _ w870) (fun _ h9 => h9) rfl (fh_d d_Mo_nucleus 54 rfl) ?_
    refine lv_iload_n hx hb (fh_d d_Mo_nucleus 55 rfl) rfl (lv_at hl 1 rfl) ?_
    refine lv_iload_n hx hb (fh_d d_Mo_nucleus 56 rfl) rfl (lv_at hl 4 rfl) ?_
    refine fn_iast (f := rf_make A N wh 4) (k := N) hx hb hK hP hS 0 mkM_a4 rfl (rfl) (hN) (by decide) (fh_d d_Mo_nucleus 57 rfl) (fun H locs hP hS => ?_)
    replace hP := fh_P.eq (h' := mkM ct x g (up2 (up2 (rf_make A N wh) 5 (upd (A 5) N lv)) 4 (upd (rf_make A N wh 4) N cl)) th co at_ v (nI (N + 1)) (nI (U + 1)) (nI O) pi wi he de) hP mkM_u4
    refine lv_iload_n hx hb (fh_d d_Mo_nucleus 58 rfl) rfl (lv_at hl 1 rfl) ?_
    subst hlv; subst hv
    exact fh_iret X hP hS (fh_d d_Mo_nucleus 59 rfl) ⟨rfl, rfl, rfl⟩
  have J1 : ∀ (lv : Int32) (hlv : lv = rf_lv A O u) (H : Heap) (locs : List Loc) (ls : Array Slot), fh_P D fh_cl b (mkM ct x g (rf_make A N wh) th co at_ wr (nI (N + 1)) (nI U) (nI O) pi wi he de) n H → va_S (fh_A b) s.heap H locs → lv_has ls 5 [(3, .int (nI N)), (0, .ref x), (1, .int wh), (2, .int cl)] → W p l e (fh_rm r 0 0) s m args below meth c H locs 0 0 (MQ below (fh_Post D fh_cl b (fun v h' n' => v = some (.int (nI N)) ∧ h' = mkM ct x g (rf_nuc A N O u wh cl) th co at_ (rf_nw A O u U wr) (nI (N + 1)) (nI (U + 1)) (nI O) pi wi he de ∧ n' = n)) args s 0 0 (fh_A b)) (F0 m 42 ls [.int lv]) := by
    intro lv hlv H locs ls hP hS hl
    refine lv_istore (lv' := [(4, .int lv), (3, .int (nI N)), (0, .ref x), (1, .int wh), (2, .int cl)]) hx hb (fh_d d_Mo_nucleus 26 rfl) hl (by decide) rfl (fun ls hl => ?_)
    refine lv_aload_n hx hb (fh_d d_Mo_nucleus 27 rfl) rfl (lv_at hl 2 rfl) ?_
    refine lv_dup hx hb (fh_d d_Mo_nucleus 28 rfl) rfl ?_
    refine fh_get (own := "FormulaSetterModel") (ref := "FormulaSetterModel") (C := "FormulaSetterModel") (T := T_Mo) (N := 53) (v := .int (nI U)) hx hb hT i_Mo hown hK hP mkM_o rfl 6 (by decide) (hT _ w866) (fun _ h9 => h9) rfl (fh_d d_Mo_nucleus 29 rfl) ?_
    refine lv_iconst (v := 1) hx hb (fh_d d_Mo_nucleus 30 rfl) (by decide) ?_
    refine lv_iadd hx hb (fh_d d_Mo_nucleus 31 rfl) ?_
    refine fh_put (own := "FormulaSetterModel") (ref := "FormulaSetterModel") (C := "FormulaSetterModel") (T := T_Mo) (N := 53) (v := .int ((nI U) + 1)) (ty := .int) hx hb hT i_Mo t_Mo k_Mo n_Mo hown hK hP hS mkM_o rfl 6 (by decide) (hT _ w866) (fun _ h9 => h9) rfl (by decide +kernel) rfl rfl (Nat.le_of_ble_eq_true rfl) (fh_d d_Mo_nucleus 32 rfl) (fun H locs hP hS => ?_)
    replace hP := fh_P.eq (h' := mkM ct x g (rf_make A N wh) th co at_ wr (nI (N + 1)) ((nI U) + 1) (nI O) pi wi he de) hP mkM_ux
    rw [nI_1] at hP
    refine lv_aload_n hx hb (fh_d d_Mo_nucleus 33 rfl) rfl (lv_at hl 2 rfl) ?_
    refine lv_aload_n hx hb (fh_d d_Mo_nucleus 34 rfl) rfl (lv_at hl 2 rfl) ?_
    refine fh_get (own := "FormulaSetterModel") (ref := "FormulaSetterModel") (C := "FormulaSetterModel") (T := T_Mo) (N := 53) (v := .int wr) hx hb hT i_Mo hown hK hP mkM_o rfl 4 (by decide) (hT _ w864) (fun _ h9 => h9) rfl (fh_d d_Mo_nucleus 35 rfl) ?_
    refine lv_if_ne (tgt := 78) hx hb (fh_d d_Mo_nucleus 36 rfl) rfl (fun c1 => ?_) (fun c1 => ?_)
    · refine lv_iconst (v := 1) hx hb (fh_d d_Mo_nucleus 44 rfl) (by decide) ?_
      refine lv_goto (tgt := 83) hx hb (fh_d d_Mo_nucleus 45 rfl) rfl ?_
      refine J2 lv 1 hlv ?_ ⟨by decide, by decide⟩ H _ _ hP hS hl
      exact (if_pos (Or.inl c1)).symm
    · refine lv_aload_n hx hb (fh_d d_Mo_nucleus 37 rfl) rfl (lv_at hl 2 rfl) ?_
      refine fh_get (own := "FormulaSetterModel") (ref := "FormulaSetterModel") (C := "FormulaSetterModel") (T := T_Mo) (N := 53) (v := .int (nI (U + 1))) hx hb hT i_Mo hown hK hP mkM_o rfl 6 (by decide) (hT _ w866) (fun _ h9 => h9) rfl (fh_d d_Mo_nucleus 38 rfl) ?_
      refine lv_bipush (v := 60) hx hb (fh_d d_Mo_nucleus 39 rfl) (by decide) ?_
      refine lv_icmp_gt (tgt := 78) hx hb (fh_d d_Mo_nucleus 40 rfl) rfl (fun c2 => ?_) (fun c2 => ?_)
      · refine lv_iconst (v := 1) hx hb (fh_d d_Mo_nucleus 44 rfl) (by decide) ?_
        refine lv_goto (tgt := 83) hx hb (fh_d d_Mo_nucleus 45 rfl) rfl ?_
        refine J2 lv 1 hlv ?_ ⟨by decide, by decide⟩ H _ _ hP hS hl
        exact (if_pos (Or.inr (Or.inl (nI_1 U ▸ c2)))).symm
      · refine lv_iload hx hb (fh_d d_Mo_nucleus 41 rfl) (lv_at hl 0 rfl) ?_
        refine lv_bipush (v := 6) hx hb (fh_d d_Mo_nucleus 42 rfl) (by decide) ?_
        refine lv_icmp_le (tgt := 82) hx hb (fh_d d_Mo_nucleus 43 rfl) rfl (fun c3 => ?_) (fun c3 => ?_)
        · refine lv_iconst (v := 0) hx hb (fh_d d_Mo_nucleus 46 rfl) (by decide) ?_
          refine J2 lv 0 hlv ?_ ⟨by decide, by decide⟩ H _ _ hP hS hl
          refine (if_neg ?_).symm
          rintro (q | q | q)
          · exact q c1
          · exact c2 (nI_1 U ▸ q)
          · exact absurd c3 (Int32.not_le.mpr (hlv ▸ q))
        · refine lv_iconst (v := 1) hx hb (fh_d d_Mo_nucleus 44 rfl) (by decide) ?_
          refine lv_goto (tgt := 83) hx hb (fh_d d_Mo_nucleus 45 rfl) rfl ?_
          refine J2 lv 1 hlv ?_ ⟨by decide, by decide⟩ H _ _ hP hS hl
          exact (if_pos (Or.inr (Or.inr (hlv ▸ Int32.not_le.mp c3)))).symm
  refine lv_aload_n hx hb (fh_d d_Mo_nucleus 0 rfl) rfl (lv_at hl 0 rfl) ?_
  refine lv_iload_n hx hb (fh_d d_Mo_nucleus 1 rfl) rfl (lv_at hl 1 rfl) ?_
  refine fh_callV (cc' := c_Mo_make) (nL' := 3) (rest := []) (a := x) (As := [.int wh]) X hR (m_Mo_make l D ct b RO (r - 1) n x g A th co at_ wr (nI U) (nI O) pi wi he de wh (N) (hN)) w1048 w1045 w1047 v33 w9 ⟨by decide, by decide, by show _ = some 1; decide +kernel⟩ (by omega) (by decide) (fh_recv hK hP mkM_o rfl) hP hS hl.1 rfl (by exact Nat.le_of_ble_eq_true rfl) (fh_d d_Mo_nucleus 2 rfl) ⟨Nat.le_refl _, Nat.le_refl _⟩ (fun v9 h9 n9 H locs hq hP hS => ?_)
  obtain ⟨rfl, u4, u5⟩ := hq
  rw [u4, u5] at hP
  refine lv_istore_n (lv' := [(3, .int (nI N)), (0, .ref x), (1, .int wh), (2, .int cl)]) hx hb (fh_d d_Mo_nucleus 3 rfl) rfl hl (by decide) rfl (fun ls hl => ?_)
  refine lv_aload_n hx hb (fh_d d_Mo_nucleus 4 rfl) rfl (lv_at hl 1 rfl) ?_
  refine fh_get (own := "FormulaSetterModel") (ref := "FormulaSetterModel") (C := "FormulaSetterModel") (T := T_Mo) (N := 53) (v := .ref (x + 17)) hx hb hT i_Mo hown hK hP mkM_o rfl 23 (by decide) (hT _ w883) (fun _ h9 => h9) rfl (fh_d d_Mo_nucleus 5 rfl) ?_
  refine lv_aload_n hx hb (fh_d d_Mo_nucleus 6 rfl) rfl (lv_at hl 1 rfl) ?_
  refine fh_get (own := "FormulaSetterModel") (ref := "FormulaSetterModel") (C := "FormulaSetterModel") (T := T_Mo) (N := 53) (v := .int (nI O)) hx hb hT i_Mo hown hK hP mkM_o rfl 22 (by decide) (hT _ w882) (fun _ h9 => h9) rfl (fh_d d_Mo_nucleus 7 rfl) ?_
  refine lv_iconst (v := 1) hx hb (fh_d d_Mo_nucleus 8 rfl) (by decide) ?_
  refine lv_isub hx hb (fh_d d_Mo_nucleus 9 rfl) ?_
  refine fn_iald (f := A 16) (k := O - 1) hx hb hK hP 0 mkM_a16 rfl (nI_m1 hO) (by omega) (by decide) (fh_d d_Mo_nucleus 10 rfl) ?_
  refine lv_if_ne (tgt := 24) hx hb (fh_d d_Mo_nucleus 11 rfl) rfl (fun c6 => ?_) (fun c6 => ?_)
  · obtain ⟨hu1, hu2⟩ := hu c6
    refine lv_aload_n hx hb (fh_d d_Mo_nucleus 14 rfl) rfl (lv_at hl 1 rfl) ?_
    refine fh_get (own := "FormulaSetterModel") (ref := "FormulaSetterModel") (C := "FormulaSetterModel") (T := T_Mo) (N := 53) (v := .ref (x + 6)) hx hb hT i_Mo hown hK hP mkM_o rfl 11 (by decide) (hT _ w871) (fun _ h9 => h9) rfl (fh_d d_Mo_nucleus 15 rfl) ?_
    refine lv_aload_n hx hb (fh_d d_Mo_nucleus 16 rfl) rfl (lv_at hl 1 rfl) ?_
    refine fh_get (own := "FormulaSetterModel") (ref := "FormulaSetterModel") (C := "FormulaSetterModel") (T := T_Mo) (N := 53) (v := .ref (x + 18)) hx hb hT i_Mo hown hK hP mkM_o rfl 24 (by decide) (hT _ w884) (fun _ h9 => h9) rfl (fh_d d_Mo_nucleus 17 rfl) ?_
    refine lv_aload_n hx hb (fh_d d_Mo_nucleus 18 rfl) rfl (lv_at hl 1 rfl) ?_
    refine fh_get (own := "FormulaSetterModel") (ref := "FormulaSetterModel") (C := "FormulaSetterModel") (T := T_Mo) (N := 53) (v := .int (nI O)) hx hb hT i_Mo hown hK hP mkM_o rfl 22 (by decide) (hT _ w882) (fun _ h9 => h9) rfl (fh_d d_Mo_nucleus 19 rfl) ?_
    refine lv_iconst (v := 1) hx hb (fh_d d_Mo_nucleus 20 rfl) (by decide) ?_
    refine lv_isub hx hb (fh_d d_Mo_nucleus 21 rfl) ?_
    refine fn_iald (f := A 17) (k := O - 1) hx hb hK hP 0 mkM_a17 rfl (nI_m1 hO) (by omega) (by decide) (fh_d d_Mo_nucleus 22 rfl) ?_
    refine fn_iald (f := A 5) (k := u) hx hb hK hP 0 mkM_a5 rfl (hu1) (hu2) (by decide) (fh_d d_Mo_nucleus 23 rfl) ?_
    refine lv_iconst (v := 1) hx hb (fh_d d_Mo_nucleus 24 rfl) (by decide) ?_
    refine lv_iadd hx hb (fh_d d_Mo_nucleus 25 rfl) ?_
    exact J1 _ (if_neg c6).symm H _ _ hP hS hl
  · refine lv_iconst (v := 0) hx hb (fh_d d_Mo_nucleus 12 rfl) (by decide) ?_
    refine lv_goto (tgt := 42) hx hb (fh_d d_Mo_nucleus 13 rfl) rfl ?_
    exact J1 _ (if_pos (Classical.not_not.mp (fun z => z c6))).symm H _ _ hP hS hl
