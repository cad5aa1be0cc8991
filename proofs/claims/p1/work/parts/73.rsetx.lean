/-! The reference: set where it refuses, and on the empty text. Printed by wip/whole/gen/p73.py -/
set_option maxHeartbeats 4000000 in
set_option maxRecDepth 100000 in
theorem m_Mo_setBad (l : Launch) (D : va_G) (ct : Nat → ClassId) (b : Nat) (RO : State → Prop) (r : Nat) (n x : Nat) (g : fh_H) (A : Nat → Nat → Int32) (th co at_ wr no nu op pi wi he de : Int32) (s1 : Int32) (hbad : ¬ (¬ s1 < 0 ∧ s1 ≤ 3)) : fh_C l D fh_cl (fh_tys ct) b RO y_Mo_set (Cond.code y_Mo_set c_Mo_set 4 (Option.some FieldType.int) :: fh_T) (fh_rm r 0 0) [.ref x, .int s1] (mkM ct x g A th co at_ wr no nu op pi wi he de) n (fun v h' n' => v = some (.int 0) ∧ h' = mkM ct x g A 1 co at_ wr no nu op pi wi he de ∧ n' = n) 0 0 := by
  refine fh_enter (by decide) (Nat.le_of_ble_eq_true rfl) [(0, .ref x), (1, .int s1)] rfl ?_
  intro p e s m args below meth c H ls X hP hS hl
  have hx := X.1
  have hb := X.2.1
  have hml := X.2.2.1
  have hown : s.vm.findClass "FormulaSetterModel" = some m.cls := X.2.2.2.1
  have hT := X.2.2.2.2.1
  have hK := X.2.2.2.2.2.1
  have hRO := X.2.2.2.2.2.2.1
  have hnm : meth.name = "set" := X.2.2.2.2.2.2.2.2.2.2
  refine lv_aload_n hx hb (fh_d d_Mo_set 0 rfl) rfl (lv_at hl 0 rfl) ?_
  refine lv_iconst (v := 0) hx hb (fh_d d_Mo_set 1 rfl) (by decide) ?_
  refine fh_put (own := "FormulaSetterModel") (ref := "FormulaSetterModel") (C := "FormulaSetterModel") (T := T_Mo) (N := 53) (v := .int 0) (ty := .int) hx hb hT i_Mo t_Mo k_Mo n_Mo hown hK hP hS mkM_o rfl 0 (by decide) (hT _ w860) (fun _ h9 => h9) rfl (by decide +kernel) rfl rfl (Nat.le_of_ble_eq_true rfl) (fh_d d_Mo_set 2 rfl) (fun H locs hP hS => ?_)
  replace hP := fh_P.eq (h' := mkM ct x g A 0 co at_ wr no nu op pi wi he de) hP mkM_ux
  refine lv_iload_n hx hb (fh_d d_Mo_set 3 rfl) rfl (lv_at hl 1 rfl) ?_
  refine lv_if_lt (tgt := 21) hx hb (fh_d d_Mo_set 4 rfl) rfl (fun c1 => ?_) (fun c1 => ?_)
  · refine lv_aload_n hx hb (fh_d d_Mo_set 11 rfl) rfl (lv_at hl 0 rfl) ?_
    refine lv_iconst (v := 1) hx hb (fh_d d_Mo_set 12 rfl) (by decide) ?_
    refine fh_put (own := "FormulaSetterModel") (ref := "FormulaSetterModel") (C := "FormulaSetterModel") (T := T_Mo) (N := 53) (v := .int 1) (ty := .int) hx hb hT i_Mo t_Mo k_Mo n_Mo hown hK hP hS mkM_o rfl 0 (by decide) (hT _ w860) (fun _ h9 => h9) rfl (by decide +kernel) rfl rfl (Nat.le_of_ble_eq_true rfl) (fh_d d_Mo_set 13 rfl) (fun H locs hP hS => ?_)
    replace hP := fh_P.eq (h' := mkM ct x g A 1 co at_ wr no nu op pi wi he de) hP mkM_ux
    refine lv_iconst (v := 0) hx hb (fh_d d_Mo_set 14 rfl) (by decide) ?_
    exact fh_iret X hP hS (fh_d d_Mo_set 15 rfl) ⟨rfl, rfl, rfl⟩
  · refine lv_iload_n hx hb (fh_d d_Mo_set 5 rfl) rfl (lv_at hl 1 rfl) ?_
    refine lv_iconst (v := 3) hx hb (fh_d d_Mo_set 6 rfl) (by decide) ?_
    refine lv_icmp_gt (tgt := 21) hx hb (fh_d d_Mo_set 7 rfl) rfl (fun c2 => ?_) (fun c2 => ?_)
    · refine lv_aload_n hx hb (fh_d d_Mo_set 11 rfl) rfl (lv_at hl 0 rfl) ?_
      refine lv_iconst (v := 1) hx hb (fh_d d_Mo_set 12 rfl) (by decide) ?_
      refine fh_put (own := "FormulaSetterModel") (ref := "FormulaSetterModel") (C := "FormulaSetterModel") (T := T_Mo) (N := 53) (v := .int 1) (ty := .int) hx hb hT i_Mo t_Mo k_Mo n_Mo hown hK hP hS mkM_o rfl 0 (by decide) (hT _ w860) (fun _ h9 => h9) rfl (by decide +kernel) rfl rfl (Nat.le_of_ble_eq_true rfl) (fh_d d_Mo_set 13 rfl) (fun H locs hP hS => ?_)
      replace hP := fh_P.eq (h' := mkM ct x g A 1 co at_ wr no nu op pi wi he de) hP mkM_ux
      refine lv_iconst (v := 0) hx hb (fh_d d_Mo_set 14 rfl) (by decide) ?_
      exact fh_iret X hP hS (fh_d d_Mo_set 15 rfl) ⟨rfl, rfl, rfl⟩
    · exact absurd ⟨c1, Int32.not_lt.mp c2⟩ hbad

set_option maxHeartbeats 4000000 in
set_option maxRecDepth 100000 in
theorem m_Mo_setNo (l : Launch) (D : va_G) (ct : Nat → ClassId) (b : Nat) (RO : State → Prop) (hR : fh_R b RO) (r : Nat) (hr : 6 ≤ r) (n x : Nat) (g : fh_H) (A : Nat → Nat → Int32) (th at_ wr no nu op pi wi he de : Int32) (L : Nat) (hL : L ≤ 160) (s0 : Nat) (hs0 : s0 < 4) (hok : ¬ rz_ok (rz_read A L)) : fh_C l D fh_cl (fh_tys ct) b RO y_Mo_set (Cond.code y_Mo_set c_Mo_set 4 (Option.some FieldType.int) :: fh_T) (fh_rm r 0 0) [.ref x, .int (nI s0)] (mkM ct x g A th (nI L) at_ wr no nu op pi wi he de) n (fun v h' n' => v = some (.int 0) ∧ h' = mkS ct x g 1 L (rz_read A L) pi wi he de ∧ n' = n) 0 0 := by
  refine fh_enter (by decide) (Nat.le_of_ble_eq_true rfl) [(0, .ref x), (1, .int (nI s0))] rfl ?_
  intro p e s m args below meth c H ls X hP hS hl
  have hx := X.1
  have hb := X.2.1
  have hml := X.2.2.1
  have hown : s.vm.findClass "FormulaSetterModel" = some m.cls := X.2.2.2.1
  have hT := X.2.2.2.2.1
  have hK := X.2.2.2.2.2.1
  have hRO := X.2.2.2.2.2.2.1
  have hnm : meth.name = "set" := X.2.2.2.2.2.2.2.2.2.2
  refine lv_aload_n hx hb (fh_d d_Mo_set 0 rfl) rfl (lv_at hl 0 rfl) ?_
  refine lv_iconst (v := 0) hx hb (fh_d d_Mo_set 1 rfl) (by decide) ?_
  refine fh_put (own := "FormulaSetterModel") (ref := "FormulaSetterModel") (C := "FormulaSetterModel") (T := T_Mo) (N := 53) (v := .int 0) (ty := .int) hx hb hT i_Mo t_Mo k_Mo n_Mo hown hK hP hS mkM_o rfl 0 (by decide) (hT _ w860) (fun _ h9 => h9) rfl (by decide +kernel) rfl rfl (Nat.le_of_ble_eq_true rfl) (fh_d d_Mo_set 2 rfl) (fun H locs hP hS => ?_)
  replace hP := fh_P.eq (h' := mkM ct x g A 0 (nI L) at_ wr no nu op pi wi he de) hP mkM_ux
  refine lv_iload_n hx hb (fh_d d_Mo_set 3 rfl) rfl (lv_at hl 1 rfl) ?_
  refine lv_if_lt (tgt := 21) hx hb (fh_d d_Mo_set 4 rfl) rfl (fun c1 => absurd c1 (nI_pos (by omega))) (fun c1 => ?_)
  refine lv_iload_n hx hb (fh_d d_Mo_set 5 rfl) rfl (lv_at hl 1 rfl) ?_
  refine lv_iconst (v := 3) hx hb (fh_d d_Mo_set 6 rfl) (by decide) ?_
  refine lv_icmp_gt (tgt := 21) hx hb (fh_d d_Mo_set 7 rfl) rfl (fun c2 => absurd c2 (Int32.not_lt.mpr ((nI_leI (a := s0) (b := 3) (by omega) (by decide)).mpr (by omega)))) (fun c2 => ?_)
  refine lv_aload_n hx hb (fh_d d_Mo_set 8 rfl) rfl (lv_at hl 0 rfl) ?_
  refine fh_callV (cc' := c_Mo_read) (nL' := 3) (rest := []) (a := x) (As := []) X hR (m_Mo_read l D ct b RO hR (r - 1) (by omega) n x g A 0 at_ wr no nu op pi wi he de L hL (rz_J_ok hL) (rz_I_0 A L)) w1044 w1041 w1043 v32 w9 ⟨by decide, by decide, by show _ = some 0; decide +kernel⟩ (by omega) (by decide) (fh_recv hK hP mkM_o rfl) hP hS hl.1 rfl (by exact Nat.le_of_ble_eq_true rfl) (fh_d d_Mo_set 9 rfl) ⟨Nat.le_refl _, Nat.le_refl _⟩ (fun v9 h9 n9 H locs hq hP hS => ?_)
  obtain ⟨rfl, ua, ub⟩ := hq
  rw [ua, ub] at hP
  refine W.eq (g2 := F0 m 18 ls [.int (if rz_ok (rz_read A L) then 1 else 0)]) rfl ?_
  rw [if_neg hok]
  refine lv_if_ne (tgt := 28) hx hb (fh_d d_Mo_set 10 rfl) rfl (fun c3 => absurd c3 (Classical.not_not.mpr (by decide))) (fun c3 => ?_)
  refine lv_aload_n hx hb (fh_d d_Mo_set 11 rfl) rfl (lv_at hl 0 rfl) ?_
  refine lv_iconst (v := 1) hx hb (fh_d d_Mo_set 12 rfl) (by decide) ?_
  refine fh_put (own := "FormulaSetterModel") (ref := "FormulaSetterModel") (C := "FormulaSetterModel") (T := T_Mo) (N := 53) (v := .int 1) (ty := .int) hx hb hT i_Mo t_Mo k_Mo n_Mo hown hK hP hS mkM_o rfl 0 (by decide) (hT _ w860) (fun _ h9 => h9) rfl (by decide +kernel) rfl rfl (Nat.le_of_ble_eq_true rfl) (fh_d d_Mo_set 13 rfl) (fun H locs hP hS => ?_)
  replace hP := fh_P.eq (h' := mkM ct x g ((rz_read A L).1) 1 (nI L) (nI (rz_read A L).2.1) ((rz_read A L).2.2.1) (nI (rz_read A L).2.2.2.1) (nI (rz_read A L).2.2.2.2.1) (nI (rz_read A L).2.2.2.2.2) pi wi he de) hP mkM_ux
  refine lv_iconst (v := 0) hx hb (fh_d d_Mo_set 14 rfl) (by decide) ?_
  exact fh_iret X hP hS (fh_d d_Mo_set 15 rfl) ⟨rfl, rfl, rfl⟩

def rf_r0 (A : Nat → Nat → Int32) : Nat → Nat → Int32 := rf_push (rf_make A 0 0) 0 0 0 (nI 0)
theorem rz_read0 (A : Nat → Nat → Int32) : rz_read A 0 = (rf_r0 A, 0, 0, 1, 0, 1) := by
  have hsk : ∀ f : Nat → Int32, sk f 0 0 = 0 := fun f => by unfold sk; rw [if_neg (by omega)]
  show rz_run 0 2 (rz_z0 A) = _
  unfold rz_run
  rw [if_neg (by decide), hsk, if_neg (by omega)]
  rfl
def rf_q0 (A : Nat → Nat → Int32) (s0 : Nat) : Nat → Nat → Int32 := up2 (up2 (rf_r0 A) 20 (upd (rf_r0 A 20) 0 (nI s0))) 21 (upd (rf_r0 A 21) 0 0)
def rf_q1 (A : Nat → Nat → Int32) (s0 : Nat) : Nat → Nat → Int32 := rf_ss0 (rf_sl0 (rf_q0 A s0))
def rf_q2 (A : Nat → Nat → Int32) (s0 : Nat) : Nat → Nat → Int32 := rf_ent (up2 (up2 (rf_q1 A s0) 31 (upd (rf_q1 A s0 31) 0 0)) 32 (upd (rf_q1 A s0 32) 0 0)) 0 0
def rf_w0 (A : Nat → Nat → Int32) : Nat → Nat → Int32 := up2 (up2 A 40 (upd (A 40) 0 (A 6 0))) 39 (upd (A 39) 0 2)
def rf_w1 (A : Nat → Nat → Int32) : Nat → Nat → Int32 := up2 A 39 (upd (A 39) 0 ((A 39) 0 + 1))
set_option maxHeartbeats 4000000 in
set_option maxRecDepth 100000 in
theorem m_Mo_setE (l : Launch) (D : va_G) (ct : Nat → ClassId) (b : Nat) (RO : State → Prop) (hR : fh_R b RO) (r : Nat) (hr : 6 ≤ r) (n x : Nat) (g : fh_H) (A : Nat → Nat → Int32) (th at_ wr no nu op pi wi he de : Int32) (s0 : Nat) (hs0 : s0 < 4) : fh_C l D fh_cl (fh_tys ct) b RO y_Mo_set (Cond.code y_Mo_set c_Mo_set 4 (Option.some FieldType.int) :: fh_T) (fh_rm r 0 0) [.ref x, .int (nI s0)] (mkM ct x g A th (nI 0) at_ wr no nu op pi wi he de) n (fun v h' n' => v = some (.int 0) ∧ (∃ A' : Nat → Nat → Int32, h' = mkM ct x g A' 0 (nI 0) 0 0 1 0 0 0 0 0 0) ∧ n' = n) 0 0 := by
  refine fh_enter (by decide) (Nat.le_of_ble_eq_true rfl) [(0, .ref x), (1, .int (nI s0))] rfl ?_
  intro p e s m args below meth c H ls X hP hS hl
  have hx := X.1
  have hb := X.2.1
  have hml := X.2.2.1
  have hown : s.vm.findClass "FormulaSetterModel" = some m.cls := X.2.2.2.1
  have hT := X.2.2.2.2.1
  have hK := X.2.2.2.2.2.1
  have hRO := X.2.2.2.2.2.2.1
  have hnm : meth.name = "set" := X.2.2.2.2.2.2.2.2.2.2
  refine lv_aload_n hx hb (fh_d d_Mo_set 0 rfl) rfl (lv_at hl 0 rfl) ?_
  refine lv_iconst (v := 0) hx hb (fh_d d_Mo_set 1 rfl) (by decide) ?_
  refine fh_put (own := "FormulaSetterModel") (ref := "FormulaSetterModel") (C := "FormulaSetterModel") (T := T_Mo) (N := 53) (v := .int 0) (ty := .int) hx hb hT i_Mo t_Mo k_Mo n_Mo hown hK hP hS mkM_o rfl 0 (by decide) (hT _ w860) (fun _ h9 => h9) rfl (by decide +kernel) rfl rfl (Nat.le_of_ble_eq_true rfl) (fh_d d_Mo_set 2 rfl) (fun H locs hP hS => ?_)
  replace hP := fh_P.eq (h' := mkM ct x g A 0 (nI 0) at_ wr no nu op pi wi he de) hP mkM_ux
  refine lv_iload_n hx hb (fh_d d_Mo_set 3 rfl) rfl (lv_at hl 1 rfl) ?_
  refine lv_if_lt (tgt := 21) hx hb (fh_d d_Mo_set 4 rfl) rfl (fun c1 => absurd c1 (nI_pos (by omega))) (fun c1 => ?_)
  refine lv_iload_n hx hb (fh_d d_Mo_set 5 rfl) rfl (lv_at hl 1 rfl) ?_
  refine lv_iconst (v := 3) hx hb (fh_d d_Mo_set 6 rfl) (by decide) ?_
  refine lv_icmp_gt (tgt := 21) hx hb (fh_d d_Mo_set 7 rfl) rfl (fun c2 => absurd c2 (Int32.not_lt.mpr ((nI_leI (a := s0) (b := 3) (by omega) (by decide)).mpr (by omega)))) (fun c2 => ?_)
  refine lv_aload_n hx hb (fh_d d_Mo_set 8 rfl) rfl (lv_at hl 0 rfl) ?_
  refine fh_callV (cc' := c_Mo_read) (nL' := 3) (rest := []) (a := x) (As := []) X hR (m_Mo_read l D ct b RO hR (r - 1) (by omega) n x g A 0 at_ wr no nu op pi wi he de 0 (by omega) (rz_J_ok (by omega)) (rz_I_0 A 0)) w1044 w1041 w1043 v32 w9 ⟨by decide, by decide, by show _ = some 0; decide +kernel⟩ (by omega) (by decide) (fh_recv hK hP mkM_o rfl) hP hS hl.1 rfl (by exact Nat.le_of_ble_eq_true rfl) (fh_d d_Mo_set 9 rfl) ⟨Nat.le_refl _, Nat.le_refl _⟩ (fun v9 h9 n9 H locs hq hP hS => ?_)
  obtain ⟨rfl, ua, ub⟩ := hq
  rw [ua, ub, rz_read0] at hP
  refine W.eq (g2 := F0 m 18 ls [.int (if rz_ok (rz_read A 0) then 1 else 0)]) rfl ?_
  rw [if_pos (show rz_ok (rz_read A 0) by rw [rz_read0]; exact ⟨rfl, rfl⟩)]
  replace hP : fh_P D fh_cl b (mkM ct x g (rf_r0 A) 0 (nI 0) 0 0 1 0 1 pi wi he de) n H := hP
  refine lv_if_ne (tgt := 28) hx hb (fh_d d_Mo_set 10 rfl) rfl (fun c3 => ?_) (fun c3 => absurd c3 (by decide))
  refine lv_aload_n hx hb (fh_d d_Mo_set 16 rfl) rfl (lv_at hl 0 rfl) ?_
  refine fh_get (own := "FormulaSetterModel") (ref := "FormulaSetterModel") (C := "FormulaSetterModel") (T := T_Mo) (N := 53) (v := .ref (x + 21)) hx hb hT i_Mo hown hK hP mkM_o rfl 27 (by decide) (hT _ w887) (fun _ h9 => h9) rfl (fh_d d_Mo_set 17 rfl) ?_
  refine lv_iconst (v := 0) hx hb (fh_d d_Mo_set 18 rfl) (by decide) ?_
  refine lv_iload_n hx hb (fh_d d_Mo_set 19 rfl) rfl (lv_at hl 1 rfl) ?_
  refine fn_iast (f := (rf_r0 A) 20) (k := 0) hx hb hK hP hS 0 mkM_a20 rfl (rfl) (by decide) (by decide) (fh_d d_Mo_set 20 rfl) (fun H locs hP hS => ?_)
  replace hP := fh_P.eq (h' := mkM ct x g (up2 (rf_r0 A) 20 (upd ((rf_r0 A) 20) 0 (nI s0))) 0 (nI 0) 0 0 1 0 1 pi wi he de) hP mkM_u20
  refine lv_aload_n hx hb (fh_d d_Mo_set 21 rfl) rfl (lv_at hl 0 rfl) ?_
  refine fh_get (own := "FormulaSetterModel") (ref := "FormulaSetterModel") (C := "FormulaSetterModel") (T := T_Mo) (N := 53) (v := .ref (x + 22)) hx hb hT i_Mo hown hK hP mkM_o rfl 28 (by decide) (hT _ w888) (fun _ h9 => h9) rfl (fh_d d_Mo_set 22 rfl) ?_
  refine lv_iconst (v := 0) hx hb (fh_d d_Mo_set 23 rfl) (by decide) ?_
  refine lv_iconst (v := 0) hx hb (fh_d d_Mo_set 24 rfl) (by decide) ?_
  refine fn_zast (f := (rf_r0 A) 21) (k := 0) hx hb hK hP hS 3 mkM_a21 rfl (rfl) (by decide) (by decide) (by decide) (fh_d d_Mo_set 25 rfl) (fun H locs hP hS => ?_)
  replace hP := fh_P.eq (h' := mkM ct x g (up2 (up2 (rf_r0 A) 20 (upd ((rf_r0 A) 20) 0 (nI s0))) 21 (upd ((rf_r0 A) 21) 0 0)) 0 (nI 0) 0 0 1 0 1 pi wi he de) hP mkM_u21
  refine lv_iconst (v := 0) hx hb (fh_d d_Mo_set 26 rfl) (by decide) ?_
  refine lv_istore_n (lv' := [(2, .int 0), (0, .ref x), (1, .int (nI s0))]) hx hb (fh_d d_Mo_set 27 rfl) rfl hl (by decide) rfl (fun ls hl => ?_)
  refine lv_iload_n hx hb (fh_d d_Mo_set 28 rfl) rfl (lv_at hl 0 rfl) ?_
  refine lv_aload_n hx hb (fh_d d_Mo_set 29 rfl) rfl (lv_at hl 1 rfl) ?_
  refine fh_get (own := "FormulaSetterModel") (ref := "FormulaSetterModel") (C := "FormulaSetterModel") (T := T_Mo) (N := 53) (v := .int 1) hx hb hT i_Mo hown hK hP mkM_o rfl 5 (by decide) (hT _ w865) (fun _ h9 => h9) rfl (fh_d d_Mo_set 30 rfl) ?_
  refine lv_icmp_ge (tgt := 63) hx hb (fh_d d_Mo_set 31 rfl) rfl (fun c4 => absurd c4 (by decide)) (fun c4 => ?_)
  refine lv_aload_n hx hb (fh_d d_Mo_set 32 rfl) rfl (lv_at hl 1 rfl) ?_
  refine lv_iload_n hx hb (fh_d d_Mo_set 33 rfl) rfl (lv_at hl 0 rfl) ?_
  replace hP : fh_P D fh_cl b (mkM ct x g (rf_q0 A s0) 0 (nI 0) 0 0 1 0 1 pi wi he de) n H := hP
  refine fh_callV (cc' := c_Mo_handDown) (nL' := 6) (rest := []) (a := x) (As := [.int 0]) X hR (m_Mo_handDownE l D ct b RO (r - 1) n x g (rf_q0 A s0) 0 (nI 0) 0 0 1 0 1 pi wi he de rfl rfl) w1124 w1121 w1123 v47 w9 ⟨by decide, by decide, by show _ = some 1; decide +kernel⟩ (by omega) (by decide) (fh_recv hK hP mkM_o rfl) hP hS hl.1 rfl (by exact Nat.le_of_ble_eq_true rfl) (fh_d d_Mo_set 34 rfl) ⟨Nat.le_refl _, Nat.le_refl _⟩ (fun v9 h9 n9 H locs hq hP hS => ?_)
  obtain ⟨rfl, u5, u6⟩ := hq
  rw [u5, u6] at hP
  refine W.eq (g2 := F0 m 57 ls []) rfl ?_
  refine lv_iinc (k := 0) (v := 0 + 1) (lv' := [(2, .int (0 + 1)), (0, .ref x), (1, .int (nI s0))]) hx hb (fh_d d_Mo_set 35 rfl) hl rfl (by rfl) (by decide) rfl (fun ls hl => ?_)
  refine lv_goto (tgt := 44) hx hb (fh_d d_Mo_set 36 rfl) rfl ?_
  rw [show ((0 : Int32) + 1) = (1 : Int32) from by decide] at hl
  refine lv_iload_n hx hb (fh_d d_Mo_set 28 rfl) rfl (lv_at hl 0 rfl) ?_
  refine lv_aload_n hx hb (fh_d d_Mo_set 29 rfl) rfl (lv_at hl 1 rfl) ?_
  refine fh_get (own := "FormulaSetterModel") (ref := "FormulaSetterModel") (C := "FormulaSetterModel") (T := T_Mo) (N := 53) (v := .int 1) hx hb hT i_Mo hown hK hP mkM_o rfl 5 (by decide) (hT _ w865) (fun _ h9 => h9) rfl (fh_d d_Mo_set 30 rfl) ?_
  refine lv_icmp_ge (tgt := 63) hx hb (fh_d d_Mo_set 31 rfl) rfl (fun c7 => ?_) (fun c7 => absurd c7 (Classical.not_not.mpr (by decide)))
  refine lv_aload_n hx hb (fh_d d_Mo_set 37 rfl) rfl (lv_at hl 1 rfl) ?_
  refine fh_get (own := "FormulaSetterModel") (ref := "FormulaSetterModel") (C := "FormulaSetterModel") (T := T_Mo) (N := 53) (v := .int 1) hx hb hT i_Mo hown hK hP mkM_o rfl 5 (by decide) (hT _ w865) (fun _ h9 => h9) rfl (fh_d d_Mo_set 38 rfl) ?_
  refine lv_iconst (v := 1) hx hb (fh_d d_Mo_set 39 rfl) (by decide) ?_
  refine lv_isub hx hb (fh_d d_Mo_set 40 rfl) ?_
  refine lv_istore_n (lv' := [(2, .int (1 - 1)), (0, .ref x), (1, .int (nI s0))]) hx hb (fh_d d_Mo_set 41 rfl) rfl hl (by decide) rfl (fun ls hl => ?_)
  rw [show ((1 : Int32) - 1) = (0 : Int32) from by decide] at hl
  refine lv_iload_n hx hb (fh_d d_Mo_set 42 rfl) rfl (lv_at hl 0 rfl) ?_
  refine lv_if_lt (tgt := 85) hx hb (fh_d d_Mo_set 43 rfl) rfl (fun c8 => absurd c8 (by decide)) (fun c8 => ?_)
  refine lv_aload_n hx hb (fh_d d_Mo_set 44 rfl) rfl (lv_at hl 1 rfl) ?_
  refine lv_iload_n hx hb (fh_d d_Mo_set 45 rfl) rfl (lv_at hl 0 rfl) ?_
  refine fh_callV (cc' := c_Mo_measure) (nL' := 4) (rest := []) (a := x) (As := [.int 0]) X hR (m_Mo_measureE l D ct b RO hR (r - 1) (by omega) n x g (rf_q0 A s0) 0 (nI 0) 0 0 1 0 1 pi wi he de rfl rfl rfl rfl s0 hs0 rfl) w1132 w1129 w1131 v49 w9 ⟨by decide, by decide, by show _ = some 1; decide +kernel⟩ (by omega) (by decide) (fh_recv hK hP mkM_o rfl) hP hS hl.1 rfl (by exact Nat.le_of_ble_eq_true rfl) (fh_d d_Mo_set 46 rfl) ⟨Nat.le_refl _, Nat.le_refl _⟩ (fun v9 h9 n9 H locs hq hP hS => ?_)
  obtain ⟨rfl, u9, u10⟩ := hq
  rw [u9, u10] at hP
  replace hP : fh_P D fh_cl b (mkM ct x g (rf_q1 A s0) 0 (nI 0) 0 0 1 0 1 pi wi he de) n H := hP
  refine W.eq (g2 := F0 m 79 ls []) rfl ?_
  refine lv_iinc (k := 0) (v := 0 + (-1)) (lv' := [(2, .int (0 + (-1))), (0, .ref x), (1, .int (nI s0))]) hx hb (fh_d d_Mo_set 47 rfl) hl rfl (by rfl) (by decide) rfl (fun ls hl => ?_)
  refine lv_goto (tgt := 70) hx hb (fh_d d_Mo_set 48 rfl) rfl ?_
  rw [show ((0 : Int32) + (-1)) = ((-1) : Int32) from by decide] at hl
  refine lv_iload_n hx hb (fh_d d_Mo_set 42 rfl) rfl (lv_at hl 0 rfl) ?_
  refine lv_if_lt (tgt := 85) hx hb (fh_d d_Mo_set 43 rfl) rfl (fun c11 => ?_) (fun c11 => absurd c11 (Classical.not_not.mpr (by decide)))
  refine lv_aload_n hx hb (fh_d d_Mo_set 49 rfl) rfl (lv_at hl 1 rfl) ?_
  refine fh_get (own := "FormulaSetterModel") (ref := "FormulaSetterModel") (C := "FormulaSetterModel") (T := T_Mo) (N := 53) (v := .ref (x + 32)) hx hb hT i_Mo hown hK hP mkM_o rfl 38 (by decide) (hT _ w898) (fun _ h9 => h9) rfl (fh_d d_Mo_set 50 rfl) ?_
  refine lv_iconst (v := 0) hx hb (fh_d d_Mo_set 51 rfl) (by decide) ?_
  refine lv_iconst (v := 0) hx hb (fh_d d_Mo_set 52 rfl) (by decide) ?_
  refine fn_iast (f := (rf_q1 A s0) 31) (k := 0) hx hb hK hP hS 0 mkM_a31 rfl (rfl) (by decide) (by decide) (fh_d d_Mo_set 53 rfl) (fun H locs hP hS => ?_)
  replace hP := fh_P.eq (h' := mkM ct x g (up2 (rf_q1 A s0) 31 (upd ((rf_q1 A s0) 31) 0 0)) 0 (nI 0) 0 0 1 0 1 pi wi he de) hP mkM_u31
  refine lv_aload_n hx hb (fh_d d_Mo_set 54 rfl) rfl (lv_at hl 1 rfl) ?_
  refine fh_get (own := "FormulaSetterModel") (ref := "FormulaSetterModel") (C := "FormulaSetterModel") (T := T_Mo) (N := 53) (v := .ref (x + 33)) hx hb hT i_Mo hown hK hP mkM_o rfl 39 (by decide) (hT _ w899) (fun _ h9 => h9) rfl (fh_d d_Mo_set 55 rfl) ?_
  refine lv_iconst (v := 0) hx hb (fh_d d_Mo_set 56 rfl) (by decide) ?_
  refine lv_iconst (v := 0) hx hb (fh_d d_Mo_set 57 rfl) (by decide) ?_
  refine fn_iast (f := (rf_q1 A s0) 32) (k := 0) hx hb hK hP hS 0 mkM_a32 rfl (rfl) (by decide) (by decide) (fh_d d_Mo_set 58 rfl) (fun H locs hP hS => ?_)
  replace hP := fh_P.eq (h' := mkM ct x g (up2 (up2 (rf_q1 A s0) 31 (upd ((rf_q1 A s0) 31) 0 0)) 32 (upd ((rf_q1 A s0) 32) 0 0)) 0 (nI 0) 0 0 1 0 1 pi wi he de) hP mkM_u32
  refine lv_iconst (v := 1) hx hb (fh_d d_Mo_set 59 rfl) (by decide) ?_
  refine lv_istore_n (lv' := [(2, .int 1), (0, .ref x), (1, .int (nI s0))]) hx hb (fh_d d_Mo_set 60 rfl) rfl hl (by decide) rfl (fun ls hl => ?_)
  refine lv_iload_n hx hb (fh_d d_Mo_set 61 rfl) rfl (lv_at hl 0 rfl) ?_
  refine lv_aload_n hx hb (fh_d d_Mo_set 62 rfl) rfl (lv_at hl 1 rfl) ?_
  refine fh_get (own := "FormulaSetterModel") (ref := "FormulaSetterModel") (C := "FormulaSetterModel") (T := T_Mo) (N := 53) (v := .int 1) hx hb hT i_Mo hown hK hP mkM_o rfl 5 (by decide) (hT _ w865) (fun _ h9 => h9) rfl (fh_d d_Mo_set 63 rfl) ?_
  refine lv_icmp_ge (tgt := 189) hx hb (fh_d d_Mo_set 64 rfl) rfl (fun c12 => ?_) (fun c12 => absurd c12 (Classical.not_not.mpr (by decide)))
  refine lv_aload_n hx hb (fh_d d_Mo_set 115 rfl) rfl (lv_at hl 1 rfl) ?_
  refine lv_aload_n hx hb (fh_d d_Mo_set 116 rfl) rfl (lv_at hl 1 rfl) ?_
  refine fh_get (own := "FormulaSetterModel") (ref := "FormulaSetterModel") (C := "FormulaSetterModel") (T := T_Mo) (N := 53) (v := .ref (x + 23)) hx hb hT i_Mo hown hK hP mkM_o rfl 29 (by decide) (hT _ w889) (fun _ h9 => h9) rfl (fh_d d_Mo_set 117 rfl) ?_
  refine lv_iconst (v := 0) hx hb (fh_d d_Mo_set 118 rfl) (by decide) ?_
  refine fn_iald (f := (rf_q1 A s0) 22) (k := 0) hx hb hK hP 0 mkM_a22 rfl (rfl) (by decide) (by decide) (fh_d d_Mo_set 119 rfl) ?_
  refine fh_put (own := "FormulaSetterModel") (ref := "FormulaSetterModel") (C := "FormulaSetterModel") (T := T_Mo) (N := 53) (v := .int (((rf_q1 A s0) 22) 0)) (ty := .int) hx hb hT i_Mo t_Mo k_Mo n_Mo hown hK hP hS mkM_o rfl 50 (by decide) (hT _ w910) (fun _ h9 => h9) rfl (by decide +kernel) rfl rfl (Nat.le_of_ble_eq_true rfl) (fh_d d_Mo_set 120 rfl) (fun H locs hP hS => ?_)
  replace hP := fh_P.eq (h' := mkM ct x g (up2 (up2 (rf_q1 A s0) 31 (upd ((rf_q1 A s0) 31) 0 0)) 32 (upd ((rf_q1 A s0) 32) 0 0)) 0 (nI 0) 0 0 1 0 1 pi (((rf_q1 A s0) 22) 0) he de) hP mkM_ux
  refine lv_aload_n hx hb (fh_d d_Mo_set 121 rfl) rfl (lv_at hl 1 rfl) ?_
  refine lv_aload_n hx hb (fh_d d_Mo_set 122 rfl) rfl (lv_at hl 1 rfl) ?_
  refine fh_get (own := "FormulaSetterModel") (ref := "FormulaSetterModel") (C := "FormulaSetterModel") (T := T_Mo) (N := 53) (v := .ref (x + 24)) hx hb hT i_Mo hown hK hP mkM_o rfl 30 (by decide) (hT _ w890) (fun _ h9 => h9) rfl (fh_d d_Mo_set 123 rfl) ?_
  refine lv_iconst (v := 0) hx hb (fh_d d_Mo_set 124 rfl) (by decide) ?_
  refine fn_iald (f := (rf_q1 A s0) 23) (k := 0) hx hb hK hP 0 mkM_a23 rfl (rfl) (by decide) (by decide) (fh_d d_Mo_set 125 rfl) ?_
  refine fh_put (own := "FormulaSetterModel") (ref := "FormulaSetterModel") (C := "FormulaSetterModel") (T := T_Mo) (N := 53) (v := .int (((rf_q1 A s0) 23) 0)) (ty := .int) hx hb hT i_Mo t_Mo k_Mo n_Mo hown hK hP hS mkM_o rfl 51 (by decide) (hT _ w911) (fun _ h9 => h9) rfl (by decide +kernel) rfl rfl (Nat.le_of_ble_eq_true rfl) (fh_d d_Mo_set 126 rfl) (fun H locs hP hS => ?_)
  replace hP := fh_P.eq (h' := mkM ct x g (up2 (up2 (rf_q1 A s0) 31 (upd ((rf_q1 A s0) 31) 0 0)) 32 (upd ((rf_q1 A s0) 32) 0 0)) 0 (nI 0) 0 0 1 0 1 pi (((rf_q1 A s0) 22) 0) (((rf_q1 A s0) 23) 0) de) hP mkM_ux
  refine lv_aload_n hx hb (fh_d d_Mo_set 127 rfl) rfl (lv_at hl 1 rfl) ?_
  refine lv_aload_n hx hb (fh_d d_Mo_set 128 rfl) rfl (lv_at hl 1 rfl) ?_
  refine fh_get (own := "FormulaSetterModel") (ref := "FormulaSetterModel") (C := "FormulaSetterModel") (T := T_Mo) (N := 53) (v := .ref (x + 25)) hx hb hT i_Mo hown hK hP mkM_o rfl 31 (by decide) (hT _ w891) (fun _ h9 => h9) rfl (fh_d d_Mo_set 129 rfl) ?_
  refine lv_iconst (v := 0) hx hb (fh_d d_Mo_set 130 rfl) (by decide) ?_
  refine fn_iald (f := (rf_q1 A s0) 24) (k := 0) hx hb hK hP 0 mkM_a24 rfl (rfl) (by decide) (by decide) (fh_d d_Mo_set 131 rfl) ?_
  refine fh_put (own := "FormulaSetterModel") (ref := "FormulaSetterModel") (C := "FormulaSetterModel") (T := T_Mo) (N := 53) (v := .int (((rf_q1 A s0) 24) 0)) (ty := .int) hx hb hT i_Mo t_Mo k_Mo n_Mo hown hK hP hS mkM_o rfl 52 (by decide) (hT _ w912) (fun _ h9 => h9) rfl (by decide +kernel) rfl rfl (Nat.le_of_ble_eq_true rfl) (fh_d d_Mo_set 132 rfl) (fun H locs hP hS => ?_)
  replace hP := fh_P.eq (h' := mkM ct x g (up2 (up2 (rf_q1 A s0) 31 (upd ((rf_q1 A s0) 31) 0 0)) 32 (upd ((rf_q1 A s0) 32) 0 0)) 0 (nI 0) 0 0 1 0 1 pi (((rf_q1 A s0) 22) 0) (((rf_q1 A s0) 23) 0) (((rf_q1 A s0) 24) 0)) hP mkM_ux
  refine lv_aload_n hx hb (fh_d d_Mo_set 133 rfl) rfl (lv_at hl 1 rfl) ?_
  refine lv_iconst (v := 0) hx hb (fh_d d_Mo_set 134 rfl) (by decide) ?_
  refine fh_put (own := "FormulaSetterModel") (ref := "FormulaSetterModel") (C := "FormulaSetterModel") (T := T_Mo) (N := 53) (v := .int 0) (ty := .int) hx hb hT i_Mo t_Mo k_Mo n_Mo hown hK hP hS mkM_o rfl 48 (by decide) (hT _ w908) (fun _ h9 => h9) rfl (by decide +kernel) rfl rfl (Nat.le_of_ble_eq_true rfl) (fh_d d_Mo_set 135 rfl) (fun H locs hP hS => ?_)
  replace hP := fh_P.eq (h' := mkM ct x g (up2 (up2 (rf_q1 A s0) 31 (upd ((rf_q1 A s0) 31) 0 0)) 32 (upd ((rf_q1 A s0) 32) 0 0)) 0 (nI 0) 0 0 1 0 1 0 (((rf_q1 A s0) 22) 0) (((rf_q1 A s0) 23) 0) (((rf_q1 A s0) 24) 0)) hP mkM_ux
  refine lv_aload_n hx hb (fh_d d_Mo_set 136 rfl) rfl (lv_at hl 1 rfl) ?_
  refine lv_iconst (v := 0) hx hb (fh_d d_Mo_set 137 rfl) (by decide) ?_
  refine fh_put (own := "FormulaSetterModel") (ref := "FormulaSetterModel") (C := "FormulaSetterModel") (T := T_Mo) (N := 53) (v := .int 0) (ty := .int) hx hb hT i_Mo t_Mo k_Mo n_Mo hown hK hP hS mkM_o rfl 22 (by decide) (hT _ w882) (fun _ h9 => h9) rfl (by decide +kernel) rfl rfl (Nat.le_of_ble_eq_true rfl) (fh_d d_Mo_set 138 rfl) (fun H locs hP hS => ?_)
  replace hP := fh_P.eq (h' := mkM ct x g (up2 (up2 (rf_q1 A s0) 31 (upd ((rf_q1 A s0) 31) 0 0)) 32 (upd ((rf_q1 A s0) 32) 0 0)) 0 (nI 0) 0 0 1 0 0 0 (((rf_q1 A s0) 22) 0) (((rf_q1 A s0) 23) 0) (((rf_q1 A s0) 24) 0)) hP mkM_ux
  refine lv_aload_n hx hb (fh_d d_Mo_set 139 rfl) rfl (lv_at hl 1 rfl) ?_
  refine lv_iconst (v := 0) hx hb (fh_d d_Mo_set 140 rfl) (by decide) ?_
  replace hP : fh_P D fh_cl b (mkM ct x g (up2 (up2 (rf_q1 A s0) 31 (upd ((rf_q1 A s0) 31) 0 0)) 32 (upd ((rf_q1 A s0) 32) 0 0)) 0 (nI 0) 0 0 1 0 (nI 0) 0 (((rf_q1 A s0) 22) 0) (((rf_q1 A s0) 23) 0) (((rf_q1 A s0) 24) 0)) n H := hP
  refine fh_callV (cc' := c_Mo_enter) (nL' := 2) (rest := []) (a := x) (As := [.int 0]) X hR (m_Mo_enter l D ct b RO (r - 1) n x g (up2 (up2 (rf_q1 A s0) 31 (upd ((rf_q1 A s0) 31) 0 0)) 32 (upd ((rf_q1 A s0) 32) 0 0)) 0 (nI 0) 0 0 1 0 0 (((rf_q1 A s0) 22) 0) (((rf_q1 A s0) 23) 0) (((rf_q1 A s0) 24) 0) 0 0 (by omega)) w1201 w1198 w1200 v58 w9 ⟨by decide, by decide, by show _ = some 1; decide +kernel⟩ (by omega) (by decide) (fh_recv hK hP mkM_o rfl) hP hS hl.1 rfl (by exact Nat.le_of_ble_eq_true rfl) (fh_d d_Mo_set 141 rfl) ⟨Nat.le_refl _, Nat.le_refl _⟩ (fun v9 h9 n9 H locs hq hP hS => ?_)
  obtain ⟨rfl, u13, u14⟩ := hq
  rw [u13, u14] at hP
  replace hP : fh_P D fh_cl b (mkM ct x g (rf_q2 A s0) 0 (nI 0) 0 0 1 0 1 0 0 0 0) n H := hP
  refine W.eq (g2 := F0 m 234 ls []) rfl ?_
  refine lv_aload_n hx hb (fh_d d_Mo_set 142 rfl) rfl (lv_at hl 1 rfl) ?_
  refine fh_get (own := "FormulaSetterModel") (ref := "FormulaSetterModel") (C := "FormulaSetterModel") (T := T_Mo) (N := 53) (v := .int 1) hx hb hT i_Mo hown hK hP mkM_o rfl 22 (by decide) (hT _ w882) (fun _ h9 => h9) rfl (fh_d d_Mo_set 143 rfl) ?_
  refine lv_if_le (tgt := 248) hx hb (fh_d d_Mo_set 144 rfl) rfl (fun c15 => absurd c15 (by decide)) (fun c15 => ?_)
  refine lv_aload_n hx hb (fh_d d_Mo_set 145 rfl) rfl (lv_at hl 1 rfl) ?_
  refine fh_callV (cc' := c_Mo_walk) (nL' := 5) (rest := []) (a := x) (As := []) X hR (m_Mo_walkE0 l D ct b RO (r - 1) n x g (rf_q2 A s0) 0 (nI 0) 0 0 1 0 0 0 0 0 rfl rfl rfl rfl rfl) w1205 w1202 w1204 v59 w9 ⟨by decide, by decide, by show _ = some 0; decide +kernel⟩ (by omega) (by decide) (fh_recv hK hP mkM_o rfl) hP hS hl.1 rfl (by exact Nat.le_of_ble_eq_true rfl) (fh_d d_Mo_set 146 rfl) ⟨Nat.le_refl _, Nat.le_refl _⟩ (fun v9 h9 n9 H locs hq hP hS => ?_)
  obtain ⟨rfl, u16, u17⟩ := hq
  rw [u16, u17] at hP
  replace hP : fh_P D fh_cl b (mkM ct x g (rf_w0 (rf_q2 A s0)) 0 (nI 0) 0 0 1 0 1 0 0 0 0) n H := hP
  refine W.eq (g2 := F0 m 245 ls []) rfl ?_
  refine lv_goto (tgt := 234) hx hb (fh_d d_Mo_set 147 rfl) rfl ?_
  refine lv_aload_n hx hb (fh_d d_Mo_set 142 rfl) rfl (lv_at hl 1 rfl) ?_
  refine fh_get (own := "FormulaSetterModel") (ref := "FormulaSetterModel") (C := "FormulaSetterModel") (T := T_Mo) (N := 53) (v := .int 1) hx hb hT i_Mo hown hK hP mkM_o rfl 22 (by decide) (hT _ w882) (fun _ h9 => h9) rfl (fh_d d_Mo_set 143 rfl) ?_
  refine lv_if_le (tgt := 248) hx hb (fh_d d_Mo_set 144 rfl) rfl (fun c18 => absurd c18 (by decide)) (fun c18 => ?_)
  refine lv_aload_n hx hb (fh_d d_Mo_set 145 rfl) rfl (lv_at hl 1 rfl) ?_
  refine fh_callV (cc' := c_Mo_walk) (nL' := 5) (rest := []) (a := x) (As := []) X hR (m_Mo_walkE2 l D ct b RO (r - 1) n x g (rf_w0 (rf_q2 A s0)) 0 (nI 0) 0 0 1 0 0 0 0 0 rfl rfl rfl rfl) w1205 w1202 w1204 v59 w9 ⟨by decide, by decide, by show _ = some 0; decide +kernel⟩ (by omega) (by decide) (fh_recv hK hP mkM_o rfl) hP hS hl.1 rfl (by exact Nat.le_of_ble_eq_true rfl) (fh_d d_Mo_set 146 rfl) ⟨Nat.le_refl _, Nat.le_refl _⟩ (fun v9 h9 n9 H locs hq hP hS => ?_)
  obtain ⟨rfl, u19, u20⟩ := hq
  rw [u19, u20] at hP
  replace hP : fh_P D fh_cl b (mkM ct x g (rf_w1 (rf_w0 (rf_q2 A s0))) 0 (nI 0) 0 0 1 0 1 0 0 0 0) n H := hP
  refine W.eq (g2 := F0 m 245 ls []) rfl ?_
  refine lv_goto (tgt := 234) hx hb (fh_d d_Mo_set 147 rfl) rfl ?_
  refine lv_aload_n hx hb (fh_d d_Mo_set 142 rfl) rfl (lv_at hl 1 rfl) ?_
  refine fh_get (own := "FormulaSetterModel") (ref := "FormulaSetterModel") (C := "FormulaSetterModel") (T := T_Mo) (N := 53) (v := .int 1) hx hb hT i_Mo hown hK hP mkM_o rfl 22 (by decide) (hT _ w882) (fun _ h9 => h9) rfl (fh_d d_Mo_set 143 rfl) ?_
  refine lv_if_le (tgt := 248) hx hb (fh_d d_Mo_set 144 rfl) rfl (fun c21 => absurd c21 (by decide)) (fun c21 => ?_)
  refine lv_aload_n hx hb (fh_d d_Mo_set 145 rfl) rfl (lv_at hl 1 rfl) ?_
  refine fh_callV (cc' := c_Mo_walk) (nL' := 5) (rest := []) (a := x) (As := []) X hR (m_Mo_walkE3 l D ct b RO (r - 1) n x g (rf_w1 (rf_w0 (rf_q2 A s0))) 0 (nI 0) 0 0 1 0 0 0 0 0 rfl rfl rfl rfl) w1205 w1202 w1204 v59 w9 ⟨by decide, by decide, by show _ = some 0; decide +kernel⟩ (by omega) (by decide) (fh_recv hK hP mkM_o rfl) hP hS hl.1 rfl (by exact Nat.le_of_ble_eq_true rfl) (fh_d d_Mo_set 146 rfl) ⟨Nat.le_refl _, Nat.le_refl _⟩ (fun v9 h9 n9 H locs hq hP hS => ?_)
  obtain ⟨rfl, u22, u23⟩ := hq
  rw [u22, u23] at hP
  replace hP : fh_P D fh_cl b (mkM ct x g (rf_w1 (rf_w1 (rf_w0 (rf_q2 A s0)))) 0 (nI 0) 0 0 1 0 1 0 0 0 0) n H := hP
  refine W.eq (g2 := F0 m 245 ls []) rfl ?_
  refine lv_goto (tgt := 234) hx hb (fh_d d_Mo_set 147 rfl) rfl ?_
  refine lv_aload_n hx hb (fh_d d_Mo_set 142 rfl) rfl (lv_at hl 1 rfl) ?_
  refine fh_get (own := "FormulaSetterModel") (ref := "FormulaSetterModel") (C := "FormulaSetterModel") (T := T_Mo) (N := 53) (v := .int 1) hx hb hT i_Mo hown hK hP mkM_o rfl 22 (by decide) (hT _ w882) (fun _ h9 => h9) rfl (fh_d d_Mo_set 143 rfl) ?_
  refine lv_if_le (tgt := 248) hx hb (fh_d d_Mo_set 144 rfl) rfl (fun c24 => absurd c24 (by decide)) (fun c24 => ?_)
  refine lv_aload_n hx hb (fh_d d_Mo_set 145 rfl) rfl (lv_at hl 1 rfl) ?_
  refine fh_callV (cc' := c_Mo_walk) (nL' := 5) (rest := []) (a := x) (As := []) X hR (m_Mo_walkE4 l D ct b RO (r - 1) n x g (rf_w1 (rf_w1 (rf_w0 (rf_q2 A s0)))) 0 (nI 0) 0 0 1 0 0 0 0 0 rfl rfl rfl rfl) w1205 w1202 w1204 v59 w9 ⟨by decide, by decide, by show _ = some 0; decide +kernel⟩ (by omega) (by decide) (fh_recv hK hP mkM_o rfl) hP hS hl.1 rfl (by exact Nat.le_of_ble_eq_true rfl) (fh_d d_Mo_set 146 rfl) ⟨Nat.le_refl _, Nat.le_refl _⟩ (fun v9 h9 n9 H locs hq hP hS => ?_)
  obtain ⟨rfl, u25, u26⟩ := hq
  rw [u25, u26] at hP
  replace hP : fh_P D fh_cl b (mkM ct x g (rf_w1 (rf_w1 (rf_w1 (rf_w0 (rf_q2 A s0))))) 0 (nI 0) 0 0 1 0 0 0 0 0 0) n H := hP
  refine W.eq (g2 := F0 m 245 ls []) rfl ?_
  refine lv_goto (tgt := 234) hx hb (fh_d d_Mo_set 147 rfl) rfl ?_
  refine lv_aload_n hx hb (fh_d d_Mo_set 142 rfl) rfl (lv_at hl 1 rfl) ?_
  refine fh_get (own := "FormulaSetterModel") (ref := "FormulaSetterModel") (C := "FormulaSetterModel") (T := T_Mo) (N := 53) (v := .int 0) hx hb hT i_Mo hown hK hP mkM_o rfl 22 (by decide) (hT _ w882) (fun _ h9 => h9) rfl (fh_d d_Mo_set 143 rfl) ?_
  refine lv_if_le (tgt := 248) hx hb (fh_d d_Mo_set 144 rfl) rfl (fun c27 => ?_) (fun c27 => absurd c27 (Classical.not_not.mpr (by decide)))
  refine lv_aload_n hx hb (fh_d d_Mo_set 148 rfl) rfl (lv_at hl 1 rfl) ?_
  refine fh_get (own := "FormulaSetterModel") (ref := "FormulaSetterModel") (C := "FormulaSetterModel") (T := T_Mo) (N := 53) (v := .int 0) hx hb hT i_Mo hown hK hP mkM_o rfl 48 (by decide) (hT _ w908) (fun _ h9 => h9) rfl (fh_d d_Mo_set 149 rfl) ?_
  exact fh_iret X hP hS (fh_d d_Mo_set 150 rfl) ⟨rfl, ⟨_, rfl⟩, rfl⟩
