/-! The reference: isFormula; piece. Printed by wip/whole/gen/p34.py -/
set_option maxHeartbeats 4000000 in
set_option maxRecDepth 100000 in
theorem m_Mo_isFormula (l : Launch) (D : va_G) (ct : Nat → ClassId) (b : Nat) (RO : State → Prop) (hR : fh_R b RO) (r : Nat) (hr : 6 ≤ r) (n x : Nat) (g : fh_H) (A : Nat → Nat → Int32) (th at_ wr no nu op pi wi he de : Int32) (L : Nat) (hL : L ≤ 160) : fh_C l D fh_cl (fh_tys ct) b RO y_Mo_isFormula (Cond.code y_Mo_isFormula c_Mo_isFormula 1 (Option.some FieldType.boolean) :: fh_T) (fh_rm r 0 0) [.ref x] (mkM ct x g A th (nI L) at_ wr no nu op pi wi he de) n (fun v h' n' => v = some (.int (if rz_ok (rz_read A L) then 1 else 0)) ∧ h' = mkS ct x g 0 L (rz_read A L) pi wi he de ∧ n' = n) 0 0 := by
  refine fh_enter (by decide) (Nat.le_of_ble_eq_true rfl) [(0, .ref x)] rfl ?_
  intro p e s m args below meth c H ls X hP hS hl
  have hx := X.1
  have hb := X.2.1
  have hml := X.2.2.1
  have hown : s.vm.findClass "FormulaSetterModel" = some m.cls := X.2.2.2.1
  have hT := X.2.2.2.2.1
  have hK := X.2.2.2.2.2.1
  have hRO := X.2.2.2.2.2.2.1
  have hnm : meth.name = "isFormula" := X.2.2.2.2.2.2.2.2.2.2
  refine lv_aload_n hx hb (fh_d d_Mo_isFormula 0 rfl) rfl (lv_at hl 0 rfl) ?_
  refine lv_iconst (v := 0) hx hb (fh_d d_Mo_isFormula 1 rfl) (by decide) ?_
  refine fh_put (own := "FormulaSetterModel") (ref := "FormulaSetterModel") (C := "FormulaSetterModel") (T := T_Mo) (N := 53) (v := .int 0) (ty := .int) hx hb hT i_Mo t_Mo k_Mo n_Mo hown hK hP hS mkM_o rfl 0 (by decide) (hT _ w860) (fun _ h9 => h9) rfl (by decide +kernel) rfl rfl (Nat.le_of_ble_eq_true rfl) (fh_d d_Mo_isFormula 2 rfl) (fun H locs hP hS => ?_)
  replace hP := fh_P.eq (h' := mkM ct x g A 0 (nI L) at_ wr no nu op pi wi he de) hP mkM_ux
  refine lv_aload_n hx hb (fh_d d_Mo_isFormula 3 rfl) rfl (lv_at hl 0 rfl) ?_
  refine fh_callV (cc' := c_Mo_read) (nL' := 3) (rest := []) (a := x) (As := []) X hR (m_Mo_read l D ct b RO hR (r - 1) (by omega) n x g A 0 at_ wr no nu op pi wi he de L hL (rz_J_ok hL) (rz_I_0 A L)) w1044 w1041 w1043 v32 w9 ⟨by decide, by decide, by show _ = some 0; decide +kernel⟩ (by omega) (by decide) (fh_recv hK hP mkM_o rfl) hP hS hl.1 rfl (by exact Nat.le_of_ble_eq_true rfl) (fh_d d_Mo_isFormula 4 rfl) ⟨Nat.le_refl _, Nat.le_refl _⟩ (fun v9 h9 n9 H locs hq hP hS => ?_)
  obtain ⟨rfl, ua, ub⟩ := hq
  rw [ua, ub] at hP
  refine fh_zret X hP hS (fh_d d_Mo_isFormula 5 rfl) ?_ ⟨rfl, rfl, rfl⟩
  by_cases q : rz_ok (rz_read A L)
  · rw [if_pos q]; decide
  · rw [if_neg q]; decide

set_option maxHeartbeats 4000000 in
set_option maxRecDepth 100000 in
theorem m_Mo_piece (l : Launch) (D : va_G) (ct : Nat → ClassId) (b : Nat) (RO : State → Prop) (r : Nat) (n x : Nat) (g : fh_H) (A : Nat → Nat → Int32) (th co at_ wr no nu op wi he de i wt : Int32) (P : Nat) (hP9 : P ≤ 200) : fh_C l D fh_cl (fh_tys ct) b RO y_Mo_piece (Cond.code y_Mo_piece c_Mo_piece 3 (Option.some FieldType.int) :: fh_T) (fh_rm r 0 0) [.ref x, .int i, .int wt] (mkM ct x g A th co at_ wr no nu op (nI P) wi he de) n (fun v h' n' => n' = n ∧ ((∃ a c : Nat, i = nI a ∧ wt = nI c ∧ a < P ∧ c ≤ 5 ∧ v = some (.int (A 41 (6 * a + c))) ∧ h' = mkM ct x g A 0 co at_ wr no nu op (nI P) wi he de) ∨ ((∀ a c : Nat, i = nI a → wt = nI c → a < P → ¬ c ≤ 5) ∧ v = some (.int 0) ∧ h' = mkM ct x g A 1 co at_ wr no nu op (nI P) wi he de))) 0 0 := by
  refine fh_enter (by decide) (Nat.le_of_ble_eq_true rfl) [(0, .ref x), (1, .int i), (2, .int wt)] rfl ?_
  intro p e s m args below meth c H ls X hP hS hl
  have hx := X.1
  have hb := X.2.1
  have hml := X.2.2.1
  have hown : s.vm.findClass "FormulaSetterModel" = some m.cls := X.2.2.2.1
  have hT := X.2.2.2.2.1
  have hK := X.2.2.2.2.2.1
  have hRO := X.2.2.2.2.2.2.1
  have hnm : meth.name = "piece" := X.2.2.2.2.2.2.2.2.2.2
  refine lv_aload_n hx hb (fh_d d_Mo_piece 0 rfl) rfl (lv_at hl 0 rfl) ?_
  refine lv_iconst (v := 0) hx hb (fh_d d_Mo_piece 1 rfl) (by decide) ?_
  refine fh_put (own := "FormulaSetterModel") (ref := "FormulaSetterModel") (C := "FormulaSetterModel") (T := T_Mo) (N := 53) (v := .int 0) (ty := .int) hx hb hT i_Mo t_Mo k_Mo n_Mo hown hK hP hS mkM_o rfl 0 (by decide) (hT _ w860) (fun _ h9 => h9) rfl (by decide +kernel) rfl rfl (Nat.le_of_ble_eq_true rfl) (fh_d d_Mo_piece 2 rfl) (fun H locs hP hS => ?_)
  replace hP := fh_P.eq (h' := mkM ct x g A 0 co at_ wr no nu op (nI P) wi he de) hP mkM_ux
  refine lv_iload_n hx hb (fh_d d_Mo_piece 3 rfl) rfl (lv_at hl 1 rfl) ?_
  refine lv_if_lt (tgt := 26) hx hb (fh_d d_Mo_piece 4 rfl) rfl (fun c1 => ?_) (fun c1 => ?_)
  · refine lv_aload_n hx hb (fh_d d_Mo_piece 14 rfl) rfl (lv_at hl 0 rfl) ?_
    refine lv_iconst (v := 1) hx hb (fh_d d_Mo_piece 15 rfl) (by decide) ?_
    refine fh_put (own := "FormulaSetterModel") (ref := "FormulaSetterModel") (C := "FormulaSetterModel") (T := T_Mo) (N := 53) (v := .int 1) (ty := .int) hx hb hT i_Mo t_Mo k_Mo n_Mo hown hK hP hS mkM_o rfl 0 (by decide) (hT _ w860) (fun _ h9 => h9) rfl (by decide +kernel) rfl rfl (Nat.le_of_ble_eq_true rfl) (fh_d d_Mo_piece 16 rfl) (fun H locs hP hS => ?_)
    replace hP := fh_P.eq (h' := mkM ct x g A 1 co at_ wr no nu op (nI P) wi he de) hP mkM_ux
    refine lv_iconst (v := 0) hx hb (fh_d d_Mo_piece 17 rfl) (by decide) ?_
    refine fh_iret X hP hS (fh_d d_Mo_piece 18 rfl) ⟨rfl, Or.inr ⟨?_, rfl, rfl⟩⟩
    intro a cz e1 e2 q1 q2
    subst e1; subst e2
    exact nI_pos (n := a) (by omega) c1
  · refine lv_iload_n hx hb (fh_d d_Mo_piece 5 rfl) rfl (lv_at hl 1 rfl) ?_
    refine lv_aload_n hx hb (fh_d d_Mo_piece 6 rfl) rfl (lv_at hl 0 rfl) ?_
    refine fh_get (own := "FormulaSetterModel") (ref := "FormulaSetterModel") (C := "FormulaSetterModel") (T := T_Mo) (N := 53) (v := .int (nI P)) hx hb hT i_Mo hown hK hP mkM_o rfl 48 (by decide) (hT _ w908) (fun _ h9 => h9) rfl (fh_d d_Mo_piece 7 rfl) ?_
    refine lv_icmp_ge (tgt := 26) hx hb (fh_d d_Mo_piece 8 rfl) rfl (fun c2 => ?_) (fun c2 => ?_)
    · refine lv_aload_n hx hb (fh_d d_Mo_piece 14 rfl) rfl (lv_at hl 0 rfl) ?_
      refine lv_iconst (v := 1) hx hb (fh_d d_Mo_piece 15 rfl) (by decide) ?_
      refine fh_put (own := "FormulaSetterModel") (ref := "FormulaSetterModel") (C := "FormulaSetterModel") (T := T_Mo) (N := 53) (v := .int 1) (ty := .int) hx hb hT i_Mo t_Mo k_Mo n_Mo hown hK hP hS mkM_o rfl 0 (by decide) (hT _ w860) (fun _ h9 => h9) rfl (by decide +kernel) rfl rfl (Nat.le_of_ble_eq_true rfl) (fh_d d_Mo_piece 16 rfl) (fun H locs hP hS => ?_)
      replace hP := fh_P.eq (h' := mkM ct x g A 1 co at_ wr no nu op (nI P) wi he de) hP mkM_ux
      refine lv_iconst (v := 0) hx hb (fh_d d_Mo_piece 17 rfl) (by decide) ?_
      refine fh_iret X hP hS (fh_d d_Mo_piece 18 rfl) ⟨rfl, Or.inr ⟨?_, rfl, rfl⟩⟩
      intro a cz e1 e2 q1 q2
      subst e1; subst e2
      exact absurd ((nI_leI (a := P) (b := a) (by omega) (by omega)).mp c2) (by omega)
    · refine lv_iload_n hx hb (fh_d d_Mo_piece 9 rfl) rfl (lv_at hl 2 rfl) ?_
      refine lv_if_lt (tgt := 26) hx hb (fh_d d_Mo_piece 10 rfl) rfl (fun c3 => ?_) (fun c3 => ?_)
      · refine lv_aload_n hx hb (fh_d d_Mo_piece 14 rfl) rfl (lv_at hl 0 rfl) ?_
        refine lv_iconst (v := 1) hx hb (fh_d d_Mo_piece 15 rfl) (by decide) ?_
        refine fh_put (own := "FormulaSetterModel") (ref := "FormulaSetterModel") (C := "FormulaSetterModel") (T := T_Mo) (N := 53) (v := .int 1) (ty := .int) hx hb hT i_Mo t_Mo k_Mo n_Mo hown hK hP hS mkM_o rfl 0 (by decide) (hT _ w860) (fun _ h9 => h9) rfl (by decide +kernel) rfl rfl (Nat.le_of_ble_eq_true rfl) (fh_d d_Mo_piece 16 rfl) (fun H locs hP hS => ?_)
        replace hP := fh_P.eq (h' := mkM ct x g A 1 co at_ wr no nu op (nI P) wi he de) hP mkM_ux
        refine lv_iconst (v := 0) hx hb (fh_d d_Mo_piece 17 rfl) (by decide) ?_
        refine fh_iret X hP hS (fh_d d_Mo_piece 18 rfl) ⟨rfl, Or.inr ⟨?_, rfl, rfl⟩⟩
        intro a cz e1 e2 q1 q2
        subst e1; subst e2
        exact nI_pos (n := cz) (by omega) c3
      · refine lv_iload_n hx hb (fh_d d_Mo_piece 11 rfl) rfl (lv_at hl 2 rfl) ?_
        refine lv_iconst (v := 5) hx hb (fh_d d_Mo_piece 12 rfl) (by decide) ?_
        refine lv_icmp_le (tgt := 33) hx hb (fh_d d_Mo_piece 13 rfl) rfl (fun c4 => ?_) (fun c4 => ?_)
        · obtain ⟨a, ga, rfl⟩ := nI_of c1
          obtain ⟨cz, gc, rfl⟩ := nI_of c3
          have qa : a < P := Nat.not_le.mp fun q => c2 ((nI_leI (a := P) (b := a) (by omega) ga).mpr q)
          have qc : cz ≤ 5 := (nI_leI (a := cz) (b := 5) gc (by decide)).mp c4
          refine lv_aload_n hx hb (fh_d d_Mo_piece 19 rfl) rfl (lv_at hl 0 rfl) ?_
          refine fh_get (own := "FormulaSetterModel") (ref := "FormulaSetterModel") (C := "FormulaSetterModel") (T := T_Mo) (N := 53) (v := .ref (x + 42)) hx hb hT i_Mo hown hK hP mkM_o rfl 49 (by decide) (hT _ w909) (fun _ h9 => h9) rfl (fh_d d_Mo_piece 20 rfl) ?_
          refine lv_bipush (v := 6) hx hb (fh_d d_Mo_piece 21 rfl) (by decide) ?_
          refine lv_iload_n hx hb (fh_d d_Mo_piece 22 rfl) rfl (lv_at hl 1 rfl) ?_
          refine lv_imul hx hb (fh_d d_Mo_piece 23 rfl) ?_
          refine lv_iload_n hx hb (fh_d d_Mo_piece 24 rfl) rfl (lv_at hl 2 rfl) ?_
          refine lv_iadd hx hb (fh_d d_Mo_piece 25 rfl) ?_
          refine fn_iald (f := A 41) (k := 6 * a + cz) hx hb hK hP 0 mkM_a41 rfl (by rw [← nI_add, ← pk_mul]; rfl) (by omega) (by decide) (fh_d d_Mo_piece 26 rfl) ?_
          exact fh_iret X hP hS (fh_d d_Mo_piece 27 rfl) ⟨rfl, Or.inl ⟨a, cz, rfl, rfl, qa, qc, rfl, rfl⟩⟩
        · refine lv_aload_n hx hb (fh_d d_Mo_piece 14 rfl) rfl (lv_at hl 0 rfl) ?_
          refine lv_iconst (v := 1) hx hb (fh_d d_Mo_piece 15 rfl) (by decide) ?_
          refine fh_put (own := "FormulaSetterModel") (ref := "FormulaSetterModel") (C := "FormulaSetterModel") (T := T_Mo) (N := 53) (v := .int 1) (ty := .int) hx hb hT i_Mo t_Mo k_Mo n_Mo hown hK hP hS mkM_o rfl 0 (by decide) (hT _ w860) (fun _ h9 => h9) rfl (by decide +kernel) rfl rfl (Nat.le_of_ble_eq_true rfl) (fh_d d_Mo_piece 16 rfl) (fun H locs hP hS => ?_)
          replace hP := fh_P.eq (h' := mkM ct x g A 1 co at_ wr no nu op (nI P) wi he de) hP mkM_ux
          refine lv_iconst (v := 0) hx hb (fh_d d_Mo_piece 17 rfl) (by decide) ?_
          refine fh_iret X hP hS (fh_d d_Mo_piece 18 rfl) ⟨rfl, Or.inr ⟨?_, rfl, rfl⟩⟩
          intro a cz e1 e2 q1 q2
          subst e1; subst e2
          exact c4 ((nI_leI (a := cz) (b := 5) (by omega) (by decide)).mpr q2)
