/-! The reference: deliver. Printed by wip/whole/gen/p27.py -/
set_option maxHeartbeats 4000000 in
set_option maxRecDepth 100000 in
theorem m_Mo_deliver (l : Launch) (D : va_G) (ct : Nat → ClassId) (b : Nat) (RO : State → Prop) (r : Nat) (n x : Nat) (g : fh_H) (A : Nat → Nat → Int32) (th co at_ wr no nu pi wi he de : Int32) (O n0 : Nat) (hn0 : n0 < 400) (hO : 1 ≤ O) (hO2 : O ≤ 40) (hf : okf A O) : fh_C l D fh_cl (fh_tys ct) b RO y_Mo_deliver (Cond.code y_Mo_deliver c_Mo_deliver 6 (Option.none : Option FieldType) :: fh_T) (fh_rm r 0 0) [.ref x, .int (nI n0)] (mkM ct x g A th co at_ wr no nu (nI O) pi wi he de) n (fun v h' n' => v = none ∧ h' = mkM ct x g ((rf_del O A n0).1) th co at_ wr no nu (nI (rf_del O A n0).2) pi wi he de ∧ n' = n) 0 0 := by
  refine fh_enter (by decide) (Nat.le_of_ble_eq_true rfl) [(0, .ref x), (1, .int (nI n0))] rfl ?_
  intro p e s m args below meth c H ls X hP hS hl
  have hx := X.1
  have hb := X.2.1
  have hml := X.2.2.1
  have hown : s.vm.findClass "FormulaSetterModel" = some m.cls := X.2.2.2.1
  have hT := X.2.2.2.2.1
  have hK := X.2.2.2.2.2.1
  have hRO := X.2.2.2.2.2.2.1
  have hnm : meth.name = "deliver" := X.2.2.2.2.2.2.2.2.2.2
  have loop : ∀ (t : Nat) (B : Nat → Nat → Int32) (k : Nat), t + 1 ≤ 40 → k < 400 → okf B (t + 1) → rf_del (t + 1) B k = rf_del O A n0 → ∀ (H : Heap) (locs : List Loc) (ls : Array Slot), fh_P D fh_cl b (mkM ct x g B th co at_ wr no nu (nI (t + 1)) pi wi he de) n H → va_S (fh_A b) s.heap H locs → lv_has ls 6 [(3, .int 1), (2, .int (nI k)), (0, .ref x)] → W p l e (fh_rm r 0 0) s m args below meth c H locs 0 0 (MQ below (fh_Post D fh_cl b (fun v h' n' => v = none ∧ h' = mkM ct x g ((rf_del O A n0).1) th co at_ wr no nu (nI (rf_del O A n0).2) pi wi he de ∧ n' = n)) args s 0 0 (fh_A b)) (F0 m 4 ls []) := by
    intro t
    induction t with
    | zero =>
      intro B k ht9 hk hfB hres H locs ls hP hS hl
      obtain ⟨⟨g1, g2⟩, ⟨g3, g4⟩, ⟨g5, g6⟩⟩ := hfB.1 0 (by omega)
      refine lv_iload_n hx hb (fh_d d_Mo_deliver 4 rfl) rfl (lv_at hl 0 rfl) ?_
      refine lv_if_eq (tgt := 328) hx hb (fh_d d_Mo_deliver 5 rfl) rfl (fun c1 => absurd c1 (by decide)) (fun c1 => ?_)
      refine lv_aload_n hx hb (fh_d d_Mo_deliver 6 rfl) rfl (lv_at hl 2 rfl) ?_
      refine fh_get (own := "FormulaSetterModel") (ref := "FormulaSetterModel") (C := "FormulaSetterModel") (T := T_Mo) (N := 53) (v := .int (nI (0 + 1))) hx hb hT i_Mo hown hK hP mkM_o rfl 22 (by decide) (hT _ w882) (fun _ h9 => h9) rfl (fh_d d_Mo_deliver 7 rfl) ?_
      refine lv_iconst (v := 1) hx hb (fh_d d_Mo_deliver 8 rfl) (by decide) ?_
      refine lv_isub hx hb (fh_d d_Mo_deliver 9 rfl) ?_
      refine lv_istore (lv' := [(4, .int ((nI (0 + 1)) - 1)), (3, .int 1), (2, .int (nI k)), (0, .ref x)]) hx hb (fh_d d_Mo_deliver 10 rfl) hl (by decide) rfl (fun ls hl => ?_)
      refine lv_iconst (v := 0) hx hb (fh_d d_Mo_deliver 11 rfl) (by decide) ?_
      refine lv_istore_n (lv' := [(3, .int 0), (4, .int ((nI (0 + 1)) - 1)), (2, .int (nI k)), (0, .ref x)]) hx hb (fh_d d_Mo_deliver 12 rfl) rfl hl (by decide) rfl (fun ls hl => ?_)
      refine lv_aload_n hx hb (fh_d d_Mo_deliver 13 rfl) rfl (lv_at hl 3 rfl) ?_
      refine fh_get (own := "FormulaSetterModel") (ref := "FormulaSetterModel") (C := "FormulaSetterModel") (T := T_Mo) (N := 53) (v := .ref (x + 17)) hx hb hT i_Mo hown hK hP mkM_o rfl 23 (by decide) (hT _ w883) (fun _ h9 => h9) rfl (fh_d d_Mo_deliver 14 rfl) ?_
      refine lv_iload hx hb (fh_d d_Mo_deliver 15 rfl) (lv_at hl 1 rfl) ?_
      refine fn_iald (f := B 16) (k := 0) hx hb hK hP 0 mkM_a16 rfl (nI_pred _) (by omega) (by decide) (fh_d d_Mo_deliver 16 rfl) ?_
      refine lv_iconst (v := 3) hx hb (fh_d d_Mo_deliver 17 rfl) (by decide) ?_
      refine lv_icmp_gt (tgt := 90) hx hb (fh_d d_Mo_deliver 18 rfl) rfl (fun c2 => ?_) (fun c2 => ?_)
      · refine lv_aload_n hx hb (fh_d d_Mo_deliver 55 rfl) rfl (lv_at hl 3 rfl) ?_
        refine fh_get (own := "FormulaSetterModel") (ref := "FormulaSetterModel") (C := "FormulaSetterModel") (T := T_Mo) (N := 53) (v := .ref (x + 18)) hx hb hT i_Mo hown hK hP mkM_o rfl 24 (by decide) (hT _ w884) (fun _ h9 => h9) rfl (fh_d d_Mo_deliver 56 rfl) ?_
        refine lv_iload hx hb (fh_d d_Mo_deliver 57 rfl) (lv_at hl 1 rfl) ?_
        refine fn_iald (f := B 17) (k := 0) hx hb hK hP 0 mkM_a17 rfl (nI_pred _) (by omega) (by decide) (fh_d d_Mo_deliver 58 rfl) ?_
        refine lv_istore (lv' := [(5, .int ((B 17) 0)), (3, .int 0), (4, .int ((nI (0 + 1)) - 1)), (2, .int (nI k)), (0, .ref x)]) hx hb (fh_d d_Mo_deliver 59 rfl) hl (by decide) rfl (fun ls hl => ?_)
        refine lv_aload_n hx hb (fh_d d_Mo_deliver 60 rfl) rfl (lv_at hl 4 rfl) ?_
        refine fh_get (own := "FormulaSetterModel") (ref := "FormulaSetterModel") (C := "FormulaSetterModel") (T := T_Mo) (N := 53) (v := .ref (x + 15)) hx hb hT i_Mo hown hK hP mkM_o rfl 20 (by decide) (hT _ w880) (fun _ h9 => h9) rfl (fh_d d_Mo_deliver 61 rfl) ?_
        refine lv_iload_n hx hb (fh_d d_Mo_deliver 62 rfl) rfl (lv_at hl 3 rfl) ?_
        refine lv_iload hx hb (fh_d d_Mo_deliver 63 rfl) (lv_at hl 0 rfl) ?_
        refine fn_iast (f := B 14) (k := k) hx hb hK hP hS 0 mkM_a14 rfl (rfl) (hk) (by decide) (fh_d d_Mo_deliver 64 rfl) (fun H locs hP hS => ?_)
        replace hP := fh_P.eq (h' := mkM ct x g (up2 B 14 (upd (B 14) k ((B 17) 0))) th co at_ wr no nu (nI (0 + 1)) pi wi he de) hP mkM_u14
        have qn : ¬ B 16 0 ≤ 3 := Int32.not_le.mpr c2
        refine lv_aload_n hx hb (fh_d d_Mo_deliver 65 rfl) rfl (lv_at hl 4 rfl) ?_
        refine fh_get (own := "FormulaSetterModel") (ref := "FormulaSetterModel") (C := "FormulaSetterModel") (T := T_Mo) (N := 53) (v := .ref (x + 17)) hx hb hT i_Mo hown hK hP mkM_o rfl 23 (by decide) (hT _ w883) (fun _ h9 => h9) rfl (fh_d d_Mo_deliver 66 rfl) ?_
        refine lv_iload hx hb (fh_d d_Mo_deliver 67 rfl) (lv_at hl 2 rfl) ?_
        refine fn_iald (f := B 16) (k := 0) hx hb hK hP 0 mkM_a16 rfl (nI_pred _) (by omega) (by decide) (fh_d d_Mo_deliver 68 rfl) ?_
        refine lv_bipush (v := 6) hx hb (fh_d d_Mo_deliver 69 rfl) (by decide) ?_
        refine lv_icmp_eq (tgt := 131) hx hb (fh_d d_Mo_deliver 70 rfl) rfl (fun c3 => ?_) (fun c3 => ?_)
        · have q6 : B 16 0 = 6 := c3
          refine lv_aload_n hx hb (fh_d d_Mo_deliver 77 rfl) rfl (lv_at hl 4 rfl) ?_
          refine fh_get (own := "FormulaSetterModel") (ref := "FormulaSetterModel") (C := "FormulaSetterModel") (T := T_Mo) (N := 53) (v := .ref (x + 16)) hx hb hT i_Mo hown hK hP mkM_o rfl 21 (by decide) (hT _ w881) (fun _ h9 => h9) rfl (fh_d d_Mo_deliver 78 rfl) ?_
          refine lv_iload_n hx hb (fh_d d_Mo_deliver 79 rfl) rfl (lv_at hl 3 rfl) ?_
          refine lv_iconst (v := 1) hx hb (fh_d d_Mo_deliver 80 rfl) (by decide) ?_
          refine fn_zast (f := B 15) (k := k) hx hb hK hP hS 3 mkM_a15 rfl (rfl) (hk) (by decide) (by decide) (fh_d d_Mo_deliver 81 rfl) (fun H locs hP hS => ?_)
          replace hP := fh_P.eq (h' := mkM ct x g (up2 (up2 B 14 (upd (B 14) k ((B 17) 0))) 15 (upd (B 15) k 1)) th co at_ wr no nu (nI (0 + 1)) pi wi he de) hP mkM_u15
          refine lv_aload_n hx hb (fh_d d_Mo_deliver 82 rfl) rfl (lv_at hl 4 rfl) ?_
          refine fh_get (own := "FormulaSetterModel") (ref := "FormulaSetterModel") (C := "FormulaSetterModel") (T := T_Mo) (N := 53) (v := .ref (x + 13)) hx hb hT i_Mo hown hK hP mkM_o rfl 18 (by decide) (hT _ w878) (fun _ h9 => h9) rfl (fh_d d_Mo_deliver 83 rfl) ?_
          refine lv_iload hx hb (fh_d d_Mo_deliver 84 rfl) (lv_at hl 0 rfl) ?_
          refine lv_aload_n hx hb (fh_d d_Mo_deliver 85 rfl) rfl (lv_at hl 4 rfl) ?_
          refine fh_get (own := "FormulaSetterModel") (ref := "FormulaSetterModel") (C := "FormulaSetterModel") (T := T_Mo) (N := 53) (v := .ref (x + 17)) hx hb hT i_Mo hown hK hP mkM_o rfl 23 (by decide) (hT _ w883) (fun _ h9 => h9) rfl (fh_d d_Mo_deliver 86 rfl) ?_
          refine lv_iload hx hb (fh_d d_Mo_deliver 87 rfl) (lv_at hl 2 rfl) ?_
          refine fn_iald (f := B 16) (k := 0) hx hb hK hP 0 mkM_a16 rfl (nI_pred _) (by omega) (by decide) (fh_d d_Mo_deliver 88 rfl) ?_
          refine lv_bipush (v := 6) hx hb (fh_d d_Mo_deliver 89 rfl) (by decide) ?_
          refine lv_icmp_ne (tgt := 160) hx hb (fh_d d_Mo_deliver 90 rfl) rfl (fun c4 => absurd c4 (Classical.not_not.mpr q6)) (fun c4 => ?_)
          refine lv_iload_n hx hb (fh_d d_Mo_deliver 91 rfl) rfl (lv_at hl 3 rfl) ?_
          refine lv_goto (tgt := 167) hx hb (fh_d d_Mo_deliver 92 rfl) rfl ?_
          refine fn_iast (f := B 12) (k := ixI (B 17 0)) hx hb hK hP hS 0 mkM_a12 rfl (g1) (g2) (by decide) (fh_d d_Mo_deliver 97 rfl) (fun H locs hP hS => ?_)
          replace hP := fh_P.eq (h' := mkM ct x g (up2 (up2 (up2 B 14 (upd (B 14) k ((B 17) 0))) 15 (upd (B 15) k 1)) 12 (upd (B 12) (ixI (B 17 0)) (nI k))) th co at_ wr no nu (nI (0 + 1)) pi wi he de) hP mkM_u12
          refine lv_aload_n hx hb (fh_d d_Mo_deliver 98 rfl) rfl (lv_at hl 4 rfl) ?_
          refine fh_get (own := "FormulaSetterModel") (ref := "FormulaSetterModel") (C := "FormulaSetterModel") (T := T_Mo) (N := 53) (v := .ref (x + 14)) hx hb hT i_Mo hown hK hP mkM_o rfl 19 (by decide) (hT _ w879) (fun _ h9 => h9) rfl (fh_d d_Mo_deliver 99 rfl) ?_
          refine lv_iload hx hb (fh_d d_Mo_deliver 100 rfl) (lv_at hl 0 rfl) ?_
          refine lv_aload_n hx hb (fh_d d_Mo_deliver 101 rfl) rfl (lv_at hl 4 rfl) ?_
          refine fh_get (own := "FormulaSetterModel") (ref := "FormulaSetterModel") (C := "FormulaSetterModel") (T := T_Mo) (N := 53) (v := .ref (x + 17)) hx hb hT i_Mo hown hK hP mkM_o rfl 23 (by decide) (hT _ w883) (fun _ h9 => h9) rfl (fh_d d_Mo_deliver 102 rfl) ?_
          refine lv_iload hx hb (fh_d d_Mo_deliver 103 rfl) (lv_at hl 2 rfl) ?_
          refine fn_iald (f := B 16) (k := 0) hx hb hK hP 0 mkM_a16 rfl (nI_pred _) (by omega) (by decide) (fh_d d_Mo_deliver 104 rfl) ?_
          refine lv_bipush (v := 7) hx hb (fh_d d_Mo_deliver 105 rfl) (by decide) ?_
          refine lv_icmp_ne (tgt := 190) hx hb (fh_d d_Mo_deliver 106 rfl) rfl (fun c5 => ?_) (fun c5 => absurd c5 (by rw [q6]; decide))
          refine lv_aload_n hx hb (fh_d d_Mo_deliver 109 rfl) rfl (lv_at hl 4 rfl) ?_
          refine fh_get (own := "FormulaSetterModel") (ref := "FormulaSetterModel") (C := "FormulaSetterModel") (T := T_Mo) (N := 53) (v := .ref (x + 14)) hx hb hT i_Mo hown hK hP mkM_o rfl 19 (by decide) (hT _ w879) (fun _ h9 => h9) rfl (fh_d d_Mo_deliver 110 rfl) ?_
          refine lv_iload hx hb (fh_d d_Mo_deliver 111 rfl) (lv_at hl 0 rfl) ?_
          refine fn_iald (f := B 13) (k := ixI (B 17 0)) hx hb hK hP 0 mkM_a13 rfl (g1) (g2) (by decide) (fh_d d_Mo_deliver 112 rfl) ?_
          refine fn_iast (f := B 13) (k := ixI (B 17 0)) hx hb hK hP hS 0 mkM_a13 rfl (g1) (g2) (by decide) (fh_d d_Mo_deliver 113 rfl) (fun H locs hP hS => ?_)
          replace hP := fh_P.eq (h' := mkM ct x g (up2 (up2 (up2 (up2 B 14 (upd (B 14) k ((B 17) 0))) 15 (upd (B 15) k 1)) 12 (upd (B 12) (ixI (B 17 0)) (nI k))) 13 (upd (B 13) (ixI (B 17 0)) ((B 13) (ixI (B 17 0))))) th co at_ wr no nu (nI (0 + 1)) pi wi he de) hP mkM_u13
          refine lv_aload_n hx hb (fh_d d_Mo_deliver 114 rfl) rfl (lv_at hl 4 rfl) ?_
          refine lv_dup hx hb (fh_d d_Mo_deliver 115 rfl) rfl ?_
          refine fh_get (own := "FormulaSetterModel") (ref := "FormulaSetterModel") (C := "FormulaSetterModel") (T := T_Mo) (N := 53) (v := .int (nI (0 + 1))) hx hb hT i_Mo hown hK hP mkM_o rfl 22 (by decide) (hT _ w882) (fun _ h9 => h9) rfl (fh_d d_Mo_deliver 116 rfl) ?_
          refine lv_iconst (v := 1) hx hb (fh_d d_Mo_deliver 117 rfl) (by decide) ?_
          refine lv_isub hx hb (fh_d d_Mo_deliver 118 rfl) ?_
          refine fh_put (own := "FormulaSetterModel") (ref := "FormulaSetterModel") (C := "FormulaSetterModel") (T := T_Mo) (N := 53) (v := .int ((nI (0 + 1)) - 1)) (ty := .int) hx hb hT i_Mo t_Mo k_Mo n_Mo hown hK hP hS mkM_o rfl 22 (by decide) (hT _ w882) (fun _ h9 => h9) rfl (by decide +kernel) rfl rfl (Nat.le_of_ble_eq_true rfl) (fh_d d_Mo_deliver 119 rfl) (fun H locs hP hS => ?_)
          replace hP := fh_P.eq (h' := mkM ct x g (up2 (up2 (up2 (up2 B 14 (upd (B 14) k ((B 17) 0))) 15 (upd (B 15) k 1)) 12 (upd (B 12) (ixI (B 17 0)) (nI k))) 13 (upd (B 13) (ixI (B 17 0)) ((B 13) (ixI (B 17 0))))) th co at_ wr no nu ((nI (0 + 1)) - 1) pi wi he de) hP mkM_ux
          refine lv_goto (tgt := 325) hx hb (fh_d d_Mo_deliver 120 rfl) rfl ?_
          refine lv_goto (tgt := 4) hx hb (fh_d d_Mo_deliver 186 rfl) rfl ?_
          refine lv_iload_n hx hb (fh_d d_Mo_deliver 4 rfl) rfl (lv_at hl 1 rfl) ?_
          refine lv_if_eq (tgt := 328) hx hb (fh_d d_Mo_deliver 5 rfl) rfl (fun c6 => ?_) (fun c6 => absurd c6 (Classical.not_not.mpr rfl))
          have q9 : rf_del (0 + 1) B k = (rf_ds B 0 k, 0) := by
            show (if _ then _ else _) = _
            rw [if_neg qn, if_pos (Or.inl q6)]
          rw [hres] at q9
          refine fh_vret X hP hS (fh_d d_Mo_deliver 187 rfl) ⟨rfl, ?_, rfl⟩
          rw [q9]
          rw [nI_pred]
          unfold rf_ds
          rw [q6]
          rfl
        · refine lv_aload_n hx hb (fh_d d_Mo_deliver 71 rfl) rfl (lv_at hl 4 rfl) ?_
          refine fh_get (own := "FormulaSetterModel") (ref := "FormulaSetterModel") (C := "FormulaSetterModel") (T := T_Mo) (N := 53) (v := .ref (x + 17)) hx hb hT i_Mo hown hK hP mkM_o rfl 23 (by decide) (hT _ w883) (fun _ h9 => h9) rfl (fh_d d_Mo_deliver 72 rfl) ?_
          refine lv_iload hx hb (fh_d d_Mo_deliver 73 rfl) (lv_at hl 2 rfl) ?_
          refine fn_iald (f := B 16) (k := 0) hx hb hK hP 0 mkM_a16 rfl (nI_pred _) (by omega) (by decide) (fh_d d_Mo_deliver 74 rfl) ?_
          refine lv_bipush (v := 7) hx hb (fh_d d_Mo_deliver 75 rfl) (by decide) ?_
          refine lv_icmp_ne (tgt := 211) hx hb (fh_d d_Mo_deliver 76 rfl) rfl (fun c7 => ?_) (fun c7 => ?_)
          · have qs : ¬ (B 16 0 = 6 ∨ B 16 0 = 7) := fun z => z.elim c3 c7
            refine lv_aload_n hx hb (fh_d d_Mo_deliver 121 rfl) rfl (lv_at hl 4 rfl) ?_
            refine fh_get (own := "FormulaSetterModel") (ref := "FormulaSetterModel") (C := "FormulaSetterModel") (T := T_Mo) (N := 53) (v := .ref (x + 17)) hx hb hT i_Mo hown hK hP mkM_o rfl 23 (by decide) (hT _ w883) (fun _ h9 => h9) rfl (fh_d d_Mo_deliver 122 rfl) ?_
            refine lv_iload hx hb (fh_d d_Mo_deliver 123 rfl) (lv_at hl 2 rfl) ?_
            refine fn_iald (f := B 16) (k := 0) hx hb hK hP 0 mkM_a16 rfl (nI_pred _) (by omega) (by decide) (fh_d d_Mo_deliver 124 rfl) ?_
            refine lv_iconst (v := 4) hx hb (fh_d d_Mo_deliver 125 rfl) (by decide) ?_
            refine lv_icmp_ne (tgt := 252) hx hb (fh_d d_Mo_deliver 126 rfl) rfl (fun c8 => ?_) (fun c8 => ?_)
            · have qf : ¬ (B 16 0 = 4 ∧ B 1 (ixI (B 17 0)) = 4) := fun z => c8 z.1
              exact absurd hfB.2 qn
            · refine lv_aload_n hx hb (fh_d d_Mo_deliver 127 rfl) rfl (lv_at hl 4 rfl) ?_
              refine fh_get (own := "FormulaSetterModel") (ref := "FormulaSetterModel") (C := "FormulaSetterModel") (T := T_Mo) (N := 53) (v := .ref (x + 2)) hx hb hT i_Mo hown hK hP mkM_o rfl 7 (by decide) (hT _ w867) (fun _ h9 => h9) rfl (fh_d d_Mo_deliver 128 rfl) ?_
              refine lv_iload hx hb (fh_d d_Mo_deliver 129 rfl) (lv_at hl 0 rfl) ?_
              refine fn_iald (f := B 1) (k := ixI (B 17 0)) hx hb hK hP 0 mkM_a1 rfl (g1) (g2) (by decide) (fh_d d_Mo_deliver 130 rfl) ?_
              refine lv_iconst (v := 4) hx hb (fh_d d_Mo_deliver 131 rfl) (by decide) ?_
              refine lv_icmp_ne (tgt := 252) hx hb (fh_d d_Mo_deliver 132 rfl) rfl (fun c9 => ?_) (fun c9 => ?_)
              · have qf : ¬ (B 16 0 = 4 ∧ B 1 (ixI (B 17 0)) = 4) := fun z => c9 z.2
                exact absurd hfB.2 qn
              · refine lv_aload_n hx hb (fh_d d_Mo_deliver 133 rfl) rfl (lv_at hl 4 rfl) ?_
                refine fh_get (own := "FormulaSetterModel") (ref := "FormulaSetterModel") (C := "FormulaSetterModel") (T := T_Mo) (N := 53) (v := .ref (x + 11)) hx hb hT i_Mo hown hK hP mkM_o rfl 16 (by decide) (hT _ w876) (fun _ h9 => h9) rfl (fh_d d_Mo_deliver 134 rfl) ?_
                refine lv_iload hx hb (fh_d d_Mo_deliver 135 rfl) (lv_at hl 0 rfl) ?_
                refine lv_iload_n hx hb (fh_d d_Mo_deliver 136 rfl) rfl (lv_at hl 3 rfl) ?_
                refine fn_iast (f := B 10) (k := ixI (B 17 0)) hx hb hK hP hS 0 mkM_a10 rfl (g1) (g2) (by decide) (fh_d d_Mo_deliver 137 rfl) (fun H locs hP hS => ?_)
                replace hP := fh_P.eq (h' := mkM ct x g (up2 (up2 B 14 (upd (B 14) k ((B 17) 0))) 10 (upd (B 10) (ixI (B 17 0)) (nI k))) th co at_ wr no nu (nI (0 + 1)) pi wi he de) hP mkM_u10
                refine lv_aload_n hx hb (fh_d d_Mo_deliver 138 rfl) rfl (lv_at hl 4 rfl) ?_
                refine fh_get (own := "FormulaSetterModel") (ref := "FormulaSetterModel") (C := "FormulaSetterModel") (T := T_Mo) (N := 53) (v := .ref (x + 17)) hx hb hT i_Mo hown hK hP mkM_o rfl 23 (by decide) (hT _ w883) (fun _ h9 => h9) rfl (fh_d d_Mo_deliver 139 rfl) ?_
                refine lv_iload hx hb (fh_d d_Mo_deliver 140 rfl) (lv_at hl 2 rfl) ?_
                refine lv_iconst (v := 5) hx hb (fh_d d_Mo_deliver 141 rfl) (by decide) ?_
                refine fn_iast (f := B 16) (k := 0) hx hb hK hP hS 0 mkM_a16 rfl (nI_pred _) (by omega) (by decide) (fh_d d_Mo_deliver 142 rfl) (fun H locs hP hS => ?_)
                replace hP := fh_P.eq (h' := mkM ct x g (up2 (up2 (up2 B 14 (upd (B 14) k ((B 17) 0))) 10 (upd (B 10) (ixI (B 17 0)) (nI k))) 16 (upd (B 16) 0 5)) th co at_ wr no nu (nI (0 + 1)) pi wi he de) hP mkM_u16
                refine lv_goto (tgt := 325) hx hb (fh_d d_Mo_deliver 143 rfl) rfl ?_
                refine lv_goto (tgt := 4) hx hb (fh_d d_Mo_deliver 186 rfl) rfl ?_
                refine lv_iload_n hx hb (fh_d d_Mo_deliver 4 rfl) rfl (lv_at hl 1 rfl) ?_
                refine lv_if_eq (tgt := 328) hx hb (fh_d d_Mo_deliver 5 rfl) rfl (fun c10 => ?_) (fun c10 => absurd c10 (Classical.not_not.mpr rfl))
                have q9 : rf_del (0 + 1) B k = (rf_df B 0 k, (0 + 1)) := by
                  show (if _ then _ else _) = _
                  rw [if_neg qn, if_neg qs, if_pos ⟨Classical.not_not.mp (fun z => z c8), Classical.not_not.mp (fun z => z c9)⟩]
                rw [hres] at q9
                refine fh_vret X hP hS (fh_d d_Mo_deliver 187 rfl) ⟨rfl, ?_, rfl⟩
                rw [q9]
                rfl
          · have q6 : B 16 0 = 7 := Classical.not_not.mp (fun z => z c7)
            refine lv_aload_n hx hb (fh_d d_Mo_deliver 77 rfl) rfl (lv_at hl 4 rfl) ?_
            refine fh_get (own := "FormulaSetterModel") (ref := "FormulaSetterModel") (C := "FormulaSetterModel") (T := T_Mo) (N := 53) (v := .ref (x + 16)) hx hb hT i_Mo hown hK hP mkM_o rfl 21 (by decide) (hT _ w881) (fun _ h9 => h9) rfl (fh_d d_Mo_deliver 78 rfl) ?_
            refine lv_iload_n hx hb (fh_d d_Mo_deliver 79 rfl) rfl (lv_at hl 3 rfl) ?_
            refine lv_iconst (v := 1) hx hb (fh_d d_Mo_deliver 80 rfl) (by decide) ?_
            refine fn_zast (f := B 15) (k := k) hx hb hK hP hS 3 mkM_a15 rfl (rfl) (hk) (by decide) (by decide) (fh_d d_Mo_deliver 81 rfl) (fun H locs hP hS => ?_)
            replace hP := fh_P.eq (h' := mkM ct x g (up2 (up2 B 14 (upd (B 14) k ((B 17) 0))) 15 (upd (B 15) k 1)) th co at_ wr no nu (nI (0 + 1)) pi wi he de) hP mkM_u15
            refine lv_aload_n hx hb (fh_d d_Mo_deliver 82 rfl) rfl (lv_at hl 4 rfl) ?_
            refine fh_get (own := "FormulaSetterModel") (ref := "FormulaSetterModel") (C := "FormulaSetterModel") (T := T_Mo) (N := 53) (v := .ref (x + 13)) hx hb hT i_Mo hown hK hP mkM_o rfl 18 (by decide) (hT _ w878) (fun _ h9 => h9) rfl (fh_d d_Mo_deliver 83 rfl) ?_
            refine lv_iload hx hb (fh_d d_Mo_deliver 84 rfl) (lv_at hl 0 rfl) ?_
            refine lv_aload_n hx hb (fh_d d_Mo_deliver 85 rfl) rfl (lv_at hl 4 rfl) ?_
            refine fh_get (own := "FormulaSetterModel") (ref := "FormulaSetterModel") (C := "FormulaSetterModel") (T := T_Mo) (N := 53) (v := .ref (x + 17)) hx hb hT i_Mo hown hK hP mkM_o rfl 23 (by decide) (hT _ w883) (fun _ h9 => h9) rfl (fh_d d_Mo_deliver 86 rfl) ?_
            refine lv_iload hx hb (fh_d d_Mo_deliver 87 rfl) (lv_at hl 2 rfl) ?_
            refine fn_iald (f := B 16) (k := 0) hx hb hK hP 0 mkM_a16 rfl (nI_pred _) (by omega) (by decide) (fh_d d_Mo_deliver 88 rfl) ?_
            refine lv_bipush (v := 6) hx hb (fh_d d_Mo_deliver 89 rfl) (by decide) ?_
            refine lv_icmp_ne (tgt := 160) hx hb (fh_d d_Mo_deliver 90 rfl) rfl (fun c11 => ?_) (fun c11 => absurd c11 (by rw [q6]; decide))
            refine lv_aload_n hx hb (fh_d d_Mo_deliver 93 rfl) rfl (lv_at hl 4 rfl) ?_
            refine fh_get (own := "FormulaSetterModel") (ref := "FormulaSetterModel") (C := "FormulaSetterModel") (T := T_Mo) (N := 53) (v := .ref (x + 13)) hx hb hT i_Mo hown hK hP mkM_o rfl 18 (by decide) (hT _ w878) (fun _ h9 => h9) rfl (fh_d d_Mo_deliver 94 rfl) ?_
            refine lv_iload hx hb (fh_d d_Mo_deliver 95 rfl) (lv_at hl 0 rfl) ?_
            refine fn_iald (f := B 12) (k := ixI (B 17 0)) hx hb hK hP 0 mkM_a12 rfl (g1) (g2) (by decide) (fh_d d_Mo_deliver 96 rfl) ?_
            refine fn_iast (f := B 12) (k := ixI (B 17 0)) hx hb hK hP hS 0 mkM_a12 rfl (g1) (g2) (by decide) (fh_d d_Mo_deliver 97 rfl) (fun H locs hP hS => ?_)
            replace hP := fh_P.eq (h' := mkM ct x g (up2 (up2 (up2 B 14 (upd (B 14) k ((B 17) 0))) 15 (upd (B 15) k 1)) 12 (upd (B 12) (ixI (B 17 0)) ((B 12) (ixI (B 17 0))))) th co at_ wr no nu (nI (0 + 1)) pi wi he de) hP mkM_u12
            refine lv_aload_n hx hb (fh_d d_Mo_deliver 98 rfl) rfl (lv_at hl 4 rfl) ?_
            refine fh_get (own := "FormulaSetterModel") (ref := "FormulaSetterModel") (C := "FormulaSetterModel") (T := T_Mo) (N := 53) (v := .ref (x + 14)) hx hb hT i_Mo hown hK hP mkM_o rfl 19 (by decide) (hT _ w879) (fun _ h9 => h9) rfl (fh_d d_Mo_deliver 99 rfl) ?_
            refine lv_iload hx hb (fh_d d_Mo_deliver 100 rfl) (lv_at hl 0 rfl) ?_
            refine lv_aload_n hx hb (fh_d d_Mo_deliver 101 rfl) rfl (lv_at hl 4 rfl) ?_
            refine fh_get (own := "FormulaSetterModel") (ref := "FormulaSetterModel") (C := "FormulaSetterModel") (T := T_Mo) (N := 53) (v := .ref (x + 17)) hx hb hT i_Mo hown hK hP mkM_o rfl 23 (by decide) (hT _ w883) (fun _ h9 => h9) rfl (fh_d d_Mo_deliver 102 rfl) ?_
            refine lv_iload hx hb (fh_d d_Mo_deliver 103 rfl) (lv_at hl 2 rfl) ?_
            refine fn_iald (f := B 16) (k := 0) hx hb hK hP 0 mkM_a16 rfl (nI_pred _) (by omega) (by decide) (fh_d d_Mo_deliver 104 rfl) ?_
            refine lv_bipush (v := 7) hx hb (fh_d d_Mo_deliver 105 rfl) (by decide) ?_
            refine lv_icmp_ne (tgt := 190) hx hb (fh_d d_Mo_deliver 106 rfl) rfl (fun c12 => absurd c12 (Classical.not_not.mpr q6)) (fun c12 => ?_)
            refine lv_iload_n hx hb (fh_d d_Mo_deliver 107 rfl) rfl (lv_at hl 3 rfl) ?_
            refine lv_goto (tgt := 197) hx hb (fh_d d_Mo_deliver 108 rfl) rfl ?_
            refine fn_iast (f := B 13) (k := ixI (B 17 0)) hx hb hK hP hS 0 mkM_a13 rfl (g1) (g2) (by decide) (fh_d d_Mo_deliver 113 rfl) (fun H locs hP hS => ?_)
            replace hP := fh_P.eq (h' := mkM ct x g (up2 (up2 (up2 (up2 B 14 (upd (B 14) k ((B 17) 0))) 15 (upd (B 15) k 1)) 12 (upd (B 12) (ixI (B 17 0)) ((B 12) (ixI (B 17 0))))) 13 (upd (B 13) (ixI (B 17 0)) (nI k))) th co at_ wr no nu (nI (0 + 1)) pi wi he de) hP mkM_u13
            refine lv_aload_n hx hb (fh_d d_Mo_deliver 114 rfl) rfl (lv_at hl 4 rfl) ?_
            refine lv_dup hx hb (fh_d d_Mo_deliver 115 rfl) rfl ?_
            refine fh_get (own := "FormulaSetterModel") (ref := "FormulaSetterModel") (C := "FormulaSetterModel") (T := T_Mo) (N := 53) (v := .int (nI (0 + 1))) hx hb hT i_Mo hown hK hP mkM_o rfl 22 (by decide) (hT _ w882) (fun _ h9 => h9) rfl (fh_d d_Mo_deliver 116 rfl) ?_
            refine lv_iconst (v := 1) hx hb (fh_d d_Mo_deliver 117 rfl) (by decide) ?_
            refine lv_isub hx hb (fh_d d_Mo_deliver 118 rfl) ?_
            refine fh_put (own := "FormulaSetterModel") (ref := "FormulaSetterModel") (C := "FormulaSetterModel") (T := T_Mo) (N := 53) (v := .int ((nI (0 + 1)) - 1)) (ty := .int) hx hb hT i_Mo t_Mo k_Mo n_Mo hown hK hP hS mkM_o rfl 22 (by decide) (hT _ w882) (fun _ h9 => h9) rfl (by decide +kernel) rfl rfl (Nat.le_of_ble_eq_true rfl) (fh_d d_Mo_deliver 119 rfl) (fun H locs hP hS => ?_)
            replace hP := fh_P.eq (h' := mkM ct x g (up2 (up2 (up2 (up2 B 14 (upd (B 14) k ((B 17) 0))) 15 (upd (B 15) k 1)) 12 (upd (B 12) (ixI (B 17 0)) ((B 12) (ixI (B 17 0))))) 13 (upd (B 13) (ixI (B 17 0)) (nI k))) th co at_ wr no nu ((nI (0 + 1)) - 1) pi wi he de) hP mkM_ux
            refine lv_goto (tgt := 325) hx hb (fh_d d_Mo_deliver 120 rfl) rfl ?_
            refine lv_goto (tgt := 4) hx hb (fh_d d_Mo_deliver 186 rfl) rfl ?_
            refine lv_iload_n hx hb (fh_d d_Mo_deliver 4 rfl) rfl (lv_at hl 1 rfl) ?_
            refine lv_if_eq (tgt := 328) hx hb (fh_d d_Mo_deliver 5 rfl) rfl (fun c13 => ?_) (fun c13 => absurd c13 (Classical.not_not.mpr rfl))
            have q9 : rf_del (0 + 1) B k = (rf_ds B 0 k, 0) := by
              show (if _ then _ else _) = _
              rw [if_neg qn, if_pos (Or.inr q6)]
            rw [hres] at q9
            refine fh_vret X hP hS (fh_d d_Mo_deliver 187 rfl) ⟨rfl, ?_, rfl⟩
            rw [q9]
            rw [nI_pred]
            unfold rf_ds
            rw [q6]
            rfl
      · refine lv_aload_n hx hb (fh_d d_Mo_deliver 19 rfl) rfl (lv_at hl 3 rfl) ?_
        refine fh_get (own := "FormulaSetterModel") (ref := "FormulaSetterModel") (C := "FormulaSetterModel") (T := T_Mo) (N := 53) (v := .ref (x + 15)) hx hb hT i_Mo hown hK hP mkM_o rfl 20 (by decide) (hT _ w880) (fun _ h9 => h9) rfl (fh_d d_Mo_deliver 20 rfl) ?_
        refine lv_iload_n hx hb (fh_d d_Mo_deliver 21 rfl) rfl (lv_at hl 2 rfl) ?_
        refine lv_aload_n hx hb (fh_d d_Mo_deliver 22 rfl) rfl (lv_at hl 3 rfl) ?_
        refine fh_get (own := "FormulaSetterModel") (ref := "FormulaSetterModel") (C := "FormulaSetterModel") (T := T_Mo) (N := 53) (v := .ref (x + 19)) hx hb hT i_Mo hown hK hP mkM_o rfl 25 (by decide) (hT _ w885) (fun _ h9 => h9) rfl (fh_d d_Mo_deliver 23 rfl) ?_
        refine lv_iload hx hb (fh_d d_Mo_deliver 24 rfl) (lv_at hl 1 rfl) ?_
        refine fn_iald (f := B 18) (k := 0) hx hb hK hP 0 mkM_a18 rfl (nI_pred _) (by omega) (by decide) (fh_d d_Mo_deliver 25 rfl) ?_
        refine fn_iast (f := B 14) (k := k) hx hb hK hP hS 0 mkM_a14 rfl (rfl) (hk) (by decide) (fh_d d_Mo_deliver 26 rfl) (fun H locs hP hS => ?_)
        replace hP := fh_P.eq (h' := mkM ct x g (up2 B 14 (upd (B 14) k ((B 18) 0))) th co at_ wr no nu (nI (0 + 1)) pi wi he de) hP mkM_u14
        refine lv_aload_n hx hb (fh_d d_Mo_deliver 27 rfl) rfl (lv_at hl 3 rfl) ?_
        refine fh_get (own := "FormulaSetterModel") (ref := "FormulaSetterModel") (C := "FormulaSetterModel") (T := T_Mo) (N := 53) (v := .ref (x + 20)) hx hb hT i_Mo hown hK hP mkM_o rfl 26 (by decide) (hT _ w886) (fun _ h9 => h9) rfl (fh_d d_Mo_deliver 28 rfl) ?_
        refine lv_iload hx hb (fh_d d_Mo_deliver 29 rfl) (lv_at hl 1 rfl) ?_
        refine fn_iald (f := B 19) (k := 0) hx hb hK hP 0 mkM_a19 rfl (nI_pred _) (by omega) (by decide) (fh_d d_Mo_deliver 30 rfl) ?_
        refine lv_if_ne (tgt := 68) hx hb (fh_d d_Mo_deliver 31 rfl) rfl (fun c14 => ?_) (fun c14 => ?_)
        · refine lv_aload_n hx hb (fh_d d_Mo_deliver 41 rfl) rfl (lv_at hl 3 rfl) ?_
          refine fh_get (own := "FormulaSetterModel") (ref := "FormulaSetterModel") (C := "FormulaSetterModel") (T := T_Mo) (N := 53) (v := .ref (x + 8)) hx hb hT i_Mo hown hK hP mkM_o rfl 13 (by decide) (hT _ w873) (fun _ h9 => h9) rfl (fh_d d_Mo_deliver 42 rfl) ?_
          refine lv_aload_n hx hb (fh_d d_Mo_deliver 43 rfl) rfl (lv_at hl 3 rfl) ?_
          refine fh_get (own := "FormulaSetterModel") (ref := "FormulaSetterModel") (C := "FormulaSetterModel") (T := T_Mo) (N := 53) (v := .ref (x + 20)) hx hb hT i_Mo hown hK hP mkM_o rfl 26 (by decide) (hT _ w886) (fun _ h9 => h9) rfl (fh_d d_Mo_deliver 44 rfl) ?_
          refine lv_iload hx hb (fh_d d_Mo_deliver 45 rfl) (lv_at hl 1 rfl) ?_
          refine fn_iald (f := B 19) (k := 0) hx hb hK hP 0 mkM_a19 rfl (nI_pred _) (by omega) (by decide) (fh_d d_Mo_deliver 46 rfl) ?_
          refine lv_iload_n hx hb (fh_d d_Mo_deliver 47 rfl) rfl (lv_at hl 2 rfl) ?_
          refine fn_iast (f := B 7) (k := ixI (B 19 0)) hx hb hK hP hS 0 mkM_a7 rfl (g5) (g6) (by decide) (fh_d d_Mo_deliver 48 rfl) (fun H locs hP hS => ?_)
          replace hP := fh_P.eq (h' := mkM ct x g (up2 (up2 B 14 (upd (B 14) k ((B 18) 0))) 7 (upd (B 7) (ixI (B 19 0)) (nI k))) th co at_ wr no nu (nI (0 + 1)) pi wi he de) hP mkM_u7
          refine lv_aload_n hx hb (fh_d d_Mo_deliver 49 rfl) rfl (lv_at hl 3 rfl) ?_
          refine fh_get (own := "FormulaSetterModel") (ref := "FormulaSetterModel") (C := "FormulaSetterModel") (T := T_Mo) (N := 53) (v := .ref (x + 20)) hx hb hT i_Mo hown hK hP mkM_o rfl 26 (by decide) (hT _ w886) (fun _ h9 => h9) rfl (fh_d d_Mo_deliver 50 rfl) ?_
          refine lv_iload hx hb (fh_d d_Mo_deliver 51 rfl) (lv_at hl 1 rfl) ?_
          refine lv_iload_n hx hb (fh_d d_Mo_deliver 52 rfl) rfl (lv_at hl 2 rfl) ?_
          refine fn_iast (f := B 19) (k := 0) hx hb hK hP hS 0 mkM_a19 rfl (nI_pred _) (by omega) (by decide) (fh_d d_Mo_deliver 53 rfl) (fun H locs hP hS => ?_)
          replace hP := fh_P.eq (h' := mkM ct x g (up2 (up2 (up2 B 14 (upd (B 14) k ((B 18) 0))) 7 (upd (B 7) (ixI (B 19 0)) (nI k))) 19 (upd (B 19) 0 (nI k))) th co at_ wr no nu (nI (0 + 1)) pi wi he de) hP mkM_u19
          have q9 : rf_del (0 + 1) B k = (rf_dl B 0 k, (0 + 1)) := by
            show (if _ then _ else _) = _
            rw [if_pos (Int32.not_lt.mp c2)]
          rw [hres] at q9
          refine fh_vret X hP hS (fh_d d_Mo_deliver 54 rfl) ⟨rfl, ?_, rfl⟩
          rw [q9]
          unfold rf_dl
          rw [if_neg c14]
          rfl
        · refine lv_aload_n hx hb (fh_d d_Mo_deliver 32 rfl) rfl (lv_at hl 3 rfl) ?_
          refine fh_get (own := "FormulaSetterModel") (ref := "FormulaSetterModel") (C := "FormulaSetterModel") (T := T_Mo) (N := 53) (v := .ref (x + 7)) hx hb hT i_Mo hown hK hP mkM_o rfl 12 (by decide) (hT _ w872) (fun _ h9 => h9) rfl (fh_d d_Mo_deliver 33 rfl) ?_
          refine lv_aload_n hx hb (fh_d d_Mo_deliver 34 rfl) rfl (lv_at hl 3 rfl) ?_
          refine fh_get (own := "FormulaSetterModel") (ref := "FormulaSetterModel") (C := "FormulaSetterModel") (T := T_Mo) (N := 53) (v := .ref (x + 19)) hx hb hT i_Mo hown hK hP mkM_o rfl 25 (by decide) (hT _ w885) (fun _ h9 => h9) rfl (fh_d d_Mo_deliver 35 rfl) ?_
          refine lv_iload hx hb (fh_d d_Mo_deliver 36 rfl) (lv_at hl 1 rfl) ?_
          refine fn_iald (f := B 18) (k := 0) hx hb hK hP 0 mkM_a18 rfl (nI_pred _) (by omega) (by decide) (fh_d d_Mo_deliver 37 rfl) ?_
          refine lv_iload_n hx hb (fh_d d_Mo_deliver 38 rfl) rfl (lv_at hl 2 rfl) ?_
          refine fn_iast (f := B 6) (k := ixI (B 18 0)) hx hb hK hP hS 0 mkM_a6 rfl (g3) (g4) (by decide) (fh_d d_Mo_deliver 39 rfl) (fun H locs hP hS => ?_)
          replace hP := fh_P.eq (h' := mkM ct x g (up2 (up2 B 14 (upd (B 14) k ((B 18) 0))) 6 (upd (B 6) (ixI (B 18 0)) (nI k))) th co at_ wr no nu (nI (0 + 1)) pi wi he de) hP mkM_u6
          refine lv_goto (tgt := 81) hx hb (fh_d d_Mo_deliver 40 rfl) rfl ?_
          refine lv_aload_n hx hb (fh_d d_Mo_deliver 49 rfl) rfl (lv_at hl 3 rfl) ?_
          refine fh_get (own := "FormulaSetterModel") (ref := "FormulaSetterModel") (C := "FormulaSetterModel") (T := T_Mo) (N := 53) (v := .ref (x + 20)) hx hb hT i_Mo hown hK hP mkM_o rfl 26 (by decide) (hT _ w886) (fun _ h9 => h9) rfl (fh_d d_Mo_deliver 50 rfl) ?_
          refine lv_iload hx hb (fh_d d_Mo_deliver 51 rfl) (lv_at hl 1 rfl) ?_
          refine lv_iload_n hx hb (fh_d d_Mo_deliver 52 rfl) rfl (lv_at hl 2 rfl) ?_
          refine fn_iast (f := B 19) (k := 0) hx hb hK hP hS 0 mkM_a19 rfl (nI_pred _) (by omega) (by decide) (fh_d d_Mo_deliver 53 rfl) (fun H locs hP hS => ?_)
          replace hP := fh_P.eq (h' := mkM ct x g (up2 (up2 (up2 B 14 (upd (B 14) k ((B 18) 0))) 6 (upd (B 6) (ixI (B 18 0)) (nI k))) 19 (upd (B 19) 0 (nI k))) th co at_ wr no nu (nI (0 + 1)) pi wi he de) hP mkM_u19
          have q9 : rf_del (0 + 1) B k = (rf_dl B 0 k, (0 + 1)) := by
            show (if _ then _ else _) = _
            rw [if_pos (Int32.not_lt.mp c2)]
          rw [hres] at q9
          refine fh_vret X hP hS (fh_d d_Mo_deliver 54 rfl) ⟨rfl, ?_, rfl⟩
          rw [q9]
          unfold rf_dl
          rw [if_pos (Classical.not_not.mp (fun z => z c14))]
          rfl
    | succ t ih =>
      intro B k ht9 hk hfB hres H locs ls hP hS hl
      obtain ⟨⟨g1, g2⟩, ⟨g3, g4⟩, ⟨g5, g6⟩⟩ := hfB.1 (t + 1) (by omega)
      refine lv_iload_n hx hb (fh_d d_Mo_deliver 4 rfl) rfl (lv_at hl 0 rfl) ?_
      refine lv_if_eq (tgt := 328) hx hb (fh_d d_Mo_deliver 5 rfl) rfl (fun c15 => absurd c15 (by decide)) (fun c15 => ?_)
      refine lv_aload_n hx hb (fh_d d_Mo_deliver 6 rfl) rfl (lv_at hl 2 rfl) ?_
      refine fh_get (own := "FormulaSetterModel") (ref := "FormulaSetterModel") (C := "FormulaSetterModel") (T := T_Mo) (N := 53) (v := .int (nI (t + 1 + 1))) hx hb hT i_Mo hown hK hP mkM_o rfl 22 (by decide) (hT _ w882) (fun _ h9 => h9) rfl (fh_d d_Mo_deliver 7 rfl) ?_
      refine lv_iconst (v := 1) hx hb (fh_d d_Mo_deliver 8 rfl) (by decide) ?_
      refine lv_isub hx hb (fh_d d_Mo_deliver 9 rfl) ?_
      refine lv_istore (lv' := [(4, .int ((nI (t + 1 + 1)) - 1)), (3, .int 1), (2, .int (nI k)), (0, .ref x)]) hx hb (fh_d d_Mo_deliver 10 rfl) hl (by decide) rfl (fun ls hl => ?_)
      refine lv_iconst (v := 0) hx hb (fh_d d_Mo_deliver 11 rfl) (by decide) ?_
      refine lv_istore_n (lv' := [(3, .int 0), (4, .int ((nI (t + 1 + 1)) - 1)), (2, .int (nI k)), (0, .ref x)]) hx hb (fh_d d_Mo_deliver 12 rfl) rfl hl (by decide) rfl (fun ls hl => ?_)
      refine lv_aload_n hx hb (fh_d d_Mo_deliver 13 rfl) rfl (lv_at hl 3 rfl) ?_
      refine fh_get (own := "FormulaSetterModel") (ref := "FormulaSetterModel") (C := "FormulaSetterModel") (T := T_Mo) (N := 53) (v := .ref (x + 17)) hx hb hT i_Mo hown hK hP mkM_o rfl 23 (by decide) (hT _ w883) (fun _ h9 => h9) rfl (fh_d d_Mo_deliver 14 rfl) ?_
      refine lv_iload hx hb (fh_d d_Mo_deliver 15 rfl) (lv_at hl 1 rfl) ?_
      refine fn_iald (f := B 16) (k := (t + 1)) hx hb hK hP 0 mkM_a16 rfl (nI_pred _) (by omega) (by decide) (fh_d d_Mo_deliver 16 rfl) ?_
      refine lv_iconst (v := 3) hx hb (fh_d d_Mo_deliver 17 rfl) (by decide) ?_
      refine lv_icmp_gt (tgt := 90) hx hb (fh_d d_Mo_deliver 18 rfl) rfl (fun c16 => ?_) (fun c16 => ?_)
      · refine lv_aload_n hx hb (fh_d d_Mo_deliver 55 rfl) rfl (lv_at hl 3 rfl) ?_
        refine fh_get (own := "FormulaSetterModel") (ref := "FormulaSetterModel") (C := "FormulaSetterModel") (T := T_Mo) (N := 53) (v := .ref (x + 18)) hx hb hT i_Mo hown hK hP mkM_o rfl 24 (by decide) (hT _ w884) (fun _ h9 => h9) rfl (fh_d d_Mo_deliver 56 rfl) ?_
        refine lv_iload hx hb (fh_d d_Mo_deliver 57 rfl) (lv_at hl 1 rfl) ?_
        refine fn_iald (f := B 17) (k := (t + 1)) hx hb hK hP 0 mkM_a17 rfl (nI_pred _) (by omega) (by decide) (fh_d d_Mo_deliver 58 rfl) ?_
        refine lv_istore (lv' := [(5, .int ((B 17) (t + 1))), (3, .int 0), (4, .int ((nI (t + 1 + 1)) - 1)), (2, .int (nI k)), (0, .ref x)]) hx hb (fh_d d_Mo_deliver 59 rfl) hl (by decide) rfl (fun ls hl => ?_)
        refine lv_aload_n hx hb (fh_d d_Mo_deliver 60 rfl) rfl (lv_at hl 4 rfl) ?_
        refine fh_get (own := "FormulaSetterModel") (ref := "FormulaSetterModel") (C := "FormulaSetterModel") (T := T_Mo) (N := 53) (v := .ref (x + 15)) hx hb hT i_Mo hown hK hP mkM_o rfl 20 (by decide) (hT _ w880) (fun _ h9 => h9) rfl (fh_d d_Mo_deliver 61 rfl) ?_
        refine lv_iload_n hx hb (fh_d d_Mo_deliver 62 rfl) rfl (lv_at hl 3 rfl) ?_
        refine lv_iload hx hb (fh_d d_Mo_deliver 63 rfl) (lv_at hl 0 rfl) ?_
        refine fn_iast (f := B 14) (k := k) hx hb hK hP hS 0 mkM_a14 rfl (rfl) (hk) (by decide) (fh_d d_Mo_deliver 64 rfl) (fun H locs hP hS => ?_)
        replace hP := fh_P.eq (h' := mkM ct x g (up2 B 14 (upd (B 14) k ((B 17) (t + 1)))) th co at_ wr no nu (nI (t + 1 + 1)) pi wi he de) hP mkM_u14
        have qn : ¬ B 16 (t + 1) ≤ 3 := Int32.not_le.mpr c16
        refine lv_aload_n hx hb (fh_d d_Mo_deliver 65 rfl) rfl (lv_at hl 4 rfl) ?_
        refine fh_get (own := "FormulaSetterModel") (ref := "FormulaSetterModel") (C := "FormulaSetterModel") (T := T_Mo) (N := 53) (v := .ref (x + 17)) hx hb hT i_Mo hown hK hP mkM_o rfl 23 (by decide) (hT _ w883) (fun _ h9 => h9) rfl (fh_d d_Mo_deliver 66 rfl) ?_
        refine lv_iload hx hb (fh_d d_Mo_deliver 67 rfl) (lv_at hl 2 rfl) ?_
        refine fn_iald (f := B 16) (k := (t + 1)) hx hb hK hP 0 mkM_a16 rfl (nI_pred _) (by omega) (by decide) (fh_d d_Mo_deliver 68 rfl) ?_
        refine lv_bipush (v := 6) hx hb (fh_d d_Mo_deliver 69 rfl) (by decide) ?_
        refine lv_icmp_eq (tgt := 131) hx hb (fh_d d_Mo_deliver 70 rfl) rfl (fun c17 => ?_) (fun c17 => ?_)
        · have q6 : B 16 (t + 1) = 6 := c17
          refine lv_aload_n hx hb (fh_d d_Mo_deliver 77 rfl) rfl (lv_at hl 4 rfl) ?_
          refine fh_get (own := "FormulaSetterModel") (ref := "FormulaSetterModel") (C := "FormulaSetterModel") (T := T_Mo) (N := 53) (v := .ref (x + 16)) hx hb hT i_Mo hown hK hP mkM_o rfl 21 (by decide) (hT _ w881) (fun _ h9 => h9) rfl (fh_d d_Mo_deliver 78 rfl) ?_
          refine lv_iload_n hx hb (fh_d d_Mo_deliver 79 rfl) rfl (lv_at hl 3 rfl) ?_
          refine lv_iconst (v := 1) hx hb (fh_d d_Mo_deliver 80 rfl) (by decide) ?_
          refine fn_zast (f := B 15) (k := k) hx hb hK hP hS 3 mkM_a15 rfl (rfl) (hk) (by decide) (by decide) (fh_d d_Mo_deliver 81 rfl) (fun H locs hP hS => ?_)
          replace hP := fh_P.eq (h' := mkM ct x g (up2 (up2 B 14 (upd (B 14) k ((B 17) (t + 1)))) 15 (upd (B 15) k 1)) th co at_ wr no nu (nI (t + 1 + 1)) pi wi he de) hP mkM_u15
          refine lv_aload_n hx hb (fh_d d_Mo_deliver 82 rfl) rfl (lv_at hl 4 rfl) ?_
          refine fh_get (own := "FormulaSetterModel") (ref := "FormulaSetterModel") (C := "FormulaSetterModel") (T := T_Mo) (N := 53) (v := .ref (x + 13)) hx hb hT i_Mo hown hK hP mkM_o rfl 18 (by decide) (hT _ w878) (fun _ h9 => h9) rfl (fh_d d_Mo_deliver 83 rfl) ?_
          refine lv_iload hx hb (fh_d d_Mo_deliver 84 rfl) (lv_at hl 0 rfl) ?_
          refine lv_aload_n hx hb (fh_d d_Mo_deliver 85 rfl) rfl (lv_at hl 4 rfl) ?_
          refine fh_get (own := "FormulaSetterModel") (ref := "FormulaSetterModel") (C := "FormulaSetterModel") (T := T_Mo) (N := 53) (v := .ref (x + 17)) hx hb hT i_Mo hown hK hP mkM_o rfl 23 (by decide) (hT _ w883) (fun _ h9 => h9) rfl (fh_d d_Mo_deliver 86 rfl) ?_
          refine lv_iload hx hb (fh_d d_Mo_deliver 87 rfl) (lv_at hl 2 rfl) ?_
          refine fn_iald (f := B 16) (k := (t + 1)) hx hb hK hP 0 mkM_a16 rfl (nI_pred _) (by omega) (by decide) (fh_d d_Mo_deliver 88 rfl) ?_
          refine lv_bipush (v := 6) hx hb (fh_d d_Mo_deliver 89 rfl) (by decide) ?_
          refine lv_icmp_ne (tgt := 160) hx hb (fh_d d_Mo_deliver 90 rfl) rfl (fun c18 => absurd c18 (Classical.not_not.mpr q6)) (fun c18 => ?_)
          refine lv_iload_n hx hb (fh_d d_Mo_deliver 91 rfl) rfl (lv_at hl 3 rfl) ?_
          refine lv_goto (tgt := 167) hx hb (fh_d d_Mo_deliver 92 rfl) rfl ?_
          refine fn_iast (f := B 12) (k := ixI (B 17 (t + 1))) hx hb hK hP hS 0 mkM_a12 rfl (g1) (g2) (by decide) (fh_d d_Mo_deliver 97 rfl) (fun H locs hP hS => ?_)
          replace hP := fh_P.eq (h' := mkM ct x g (up2 (up2 (up2 B 14 (upd (B 14) k ((B 17) (t + 1)))) 15 (upd (B 15) k 1)) 12 (upd (B 12) (ixI (B 17 (t + 1))) (nI k))) th co at_ wr no nu (nI (t + 1 + 1)) pi wi he de) hP mkM_u12
          refine lv_aload_n hx hb (fh_d d_Mo_deliver 98 rfl) rfl (lv_at hl 4 rfl) ?_
          refine fh_get (own := "FormulaSetterModel") (ref := "FormulaSetterModel") (C := "FormulaSetterModel") (T := T_Mo) (N := 53) (v := .ref (x + 14)) hx hb hT i_Mo hown hK hP mkM_o rfl 19 (by decide) (hT _ w879) (fun _ h9 => h9) rfl (fh_d d_Mo_deliver 99 rfl) ?_
          refine lv_iload hx hb (fh_d d_Mo_deliver 100 rfl) (lv_at hl 0 rfl) ?_
          refine lv_aload_n hx hb (fh_d d_Mo_deliver 101 rfl) rfl (lv_at hl 4 rfl) ?_
          refine fh_get (own := "FormulaSetterModel") (ref := "FormulaSetterModel") (C := "FormulaSetterModel") (T := T_Mo) (N := 53) (v := .ref (x + 17)) hx hb hT i_Mo hown hK hP mkM_o rfl 23 (by decide) (hT _ w883) (fun _ h9 => h9) rfl (fh_d d_Mo_deliver 102 rfl) ?_
          refine lv_iload hx hb (fh_d d_Mo_deliver 103 rfl) (lv_at hl 2 rfl) ?_
          refine fn_iald (f := B 16) (k := (t + 1)) hx hb hK hP 0 mkM_a16 rfl (nI_pred _) (by omega) (by decide) (fh_d d_Mo_deliver 104 rfl) ?_
          refine lv_bipush (v := 7) hx hb (fh_d d_Mo_deliver 105 rfl) (by decide) ?_
          refine lv_icmp_ne (tgt := 190) hx hb (fh_d d_Mo_deliver 106 rfl) rfl (fun c19 => ?_) (fun c19 => absurd c19 (by rw [q6]; decide))
          refine lv_aload_n hx hb (fh_d d_Mo_deliver 109 rfl) rfl (lv_at hl 4 rfl) ?_
          refine fh_get (own := "FormulaSetterModel") (ref := "FormulaSetterModel") (C := "FormulaSetterModel") (T := T_Mo) (N := 53) (v := .ref (x + 14)) hx hb hT i_Mo hown hK hP mkM_o rfl 19 (by decide) (hT _ w879) (fun _ h9 => h9) rfl (fh_d d_Mo_deliver 110 rfl) ?_
          refine lv_iload hx hb (fh_d d_Mo_deliver 111 rfl) (lv_at hl 0 rfl) ?_
          refine fn_iald (f := B 13) (k := ixI (B 17 (t + 1))) hx hb hK hP 0 mkM_a13 rfl (g1) (g2) (by decide) (fh_d d_Mo_deliver 112 rfl) ?_
          refine fn_iast (f := B 13) (k := ixI (B 17 (t + 1))) hx hb hK hP hS 0 mkM_a13 rfl (g1) (g2) (by decide) (fh_d d_Mo_deliver 113 rfl) (fun H locs hP hS => ?_)
          replace hP := fh_P.eq (h' := mkM ct x g (up2 (up2 (up2 (up2 B 14 (upd (B 14) k ((B 17) (t + 1)))) 15 (upd (B 15) k 1)) 12 (upd (B 12) (ixI (B 17 (t + 1))) (nI k))) 13 (upd (B 13) (ixI (B 17 (t + 1))) ((B 13) (ixI (B 17 (t + 1)))))) th co at_ wr no nu (nI (t + 1 + 1)) pi wi he de) hP mkM_u13
          refine lv_aload_n hx hb (fh_d d_Mo_deliver 114 rfl) rfl (lv_at hl 4 rfl) ?_
          refine lv_dup hx hb (fh_d d_Mo_deliver 115 rfl) rfl ?_
          refine fh_get (own := "FormulaSetterModel") (ref := "FormulaSetterModel") (C := "FormulaSetterModel") (T := T_Mo) (N := 53) (v := .int (nI (t + 1 + 1))) hx hb hT i_Mo hown hK hP mkM_o rfl 22 (by decide) (hT _ w882) (fun _ h9 => h9) rfl (fh_d d_Mo_deliver 116 rfl) ?_
          refine lv_iconst (v := 1) hx hb (fh_d d_Mo_deliver 117 rfl) (by decide) ?_
          refine lv_isub hx hb (fh_d d_Mo_deliver 118 rfl) ?_
          refine fh_put (own := "FormulaSetterModel") (ref := "FormulaSetterModel") (C := "FormulaSetterModel") (T := T_Mo) (N := 53) (v := .int ((nI (t + 1 + 1)) - 1)) (ty := .int) hx hb hT i_Mo t_Mo k_Mo n_Mo hown hK hP hS mkM_o rfl 22 (by decide) (hT _ w882) (fun _ h9 => h9) rfl (by decide +kernel) rfl rfl (Nat.le_of_ble_eq_true rfl) (fh_d d_Mo_deliver 119 rfl) (fun H locs hP hS => ?_)
          replace hP := fh_P.eq (h' := mkM ct x g (up2 (up2 (up2 (up2 B 14 (upd (B 14) k ((B 17) (t + 1)))) 15 (upd (B 15) k 1)) 12 (upd (B 12) (ixI (B 17 (t + 1))) (nI k))) 13 (upd (B 13) (ixI (B 17 (t + 1))) ((B 13) (ixI (B 17 (t + 1)))))) th co at_ wr no nu ((nI (t + 1 + 1)) - 1) pi wi he de) hP mkM_ux
          refine lv_goto (tgt := 325) hx hb (fh_d d_Mo_deliver 120 rfl) rfl ?_
          refine lv_goto (tgt := 4) hx hb (fh_d d_Mo_deliver 186 rfl) rfl ?_
          refine lv_iload_n hx hb (fh_d d_Mo_deliver 4 rfl) rfl (lv_at hl 1 rfl) ?_
          refine lv_if_eq (tgt := 328) hx hb (fh_d d_Mo_deliver 5 rfl) rfl (fun c20 => ?_) (fun c20 => absurd c20 (Classical.not_not.mpr rfl))
          have q9 : rf_del (t + 1 + 1) B k = (rf_ds B (t + 1) k, (t + 1)) := by
            show (if _ then _ else _) = _
            rw [if_neg qn, if_pos (Or.inl q6)]
          rw [hres] at q9
          refine fh_vret X hP hS (fh_d d_Mo_deliver 187 rfl) ⟨rfl, ?_, rfl⟩
          rw [q9]
          rw [nI_pred]
          unfold rf_ds
          rw [q6]
          rfl
        · refine lv_aload_n hx hb (fh_d d_Mo_deliver 71 rfl) rfl (lv_at hl 4 rfl) ?_
          refine fh_get (own := "FormulaSetterModel") (ref := "FormulaSetterModel") (C := "FormulaSetterModel") (T := T_Mo) (N := 53) (v := .ref (x + 17)) hx hb hT i_Mo hown hK hP mkM_o rfl 23 (by decide) (hT _ w883) (fun _ h9 => h9) rfl (fh_d d_Mo_deliver 72 rfl) ?_
          refine lv_iload hx hb (fh_d d_Mo_deliver 73 rfl) (lv_at hl 2 rfl) ?_
          refine fn_iald (f := B 16) (k := (t + 1)) hx hb hK hP 0 mkM_a16 rfl (nI_pred _) (by omega) (by decide) (fh_d d_Mo_deliver 74 rfl) ?_
          refine lv_bipush (v := 7) hx hb (fh_d d_Mo_deliver 75 rfl) (by decide) ?_
          refine lv_icmp_ne (tgt := 211) hx hb (fh_d d_Mo_deliver 76 rfl) rfl (fun c21 => ?_) (fun c21 => ?_)
          · have qs : ¬ (B 16 (t + 1) = 6 ∨ B 16 (t + 1) = 7) := fun z => z.elim c17 c21
            refine lv_aload_n hx hb (fh_d d_Mo_deliver 121 rfl) rfl (lv_at hl 4 rfl) ?_
            refine fh_get (own := "FormulaSetterModel") (ref := "FormulaSetterModel") (C := "FormulaSetterModel") (T := T_Mo) (N := 53) (v := .ref (x + 17)) hx hb hT i_Mo hown hK hP mkM_o rfl 23 (by decide) (hT _ w883) (fun _ h9 => h9) rfl (fh_d d_Mo_deliver 122 rfl) ?_
            refine lv_iload hx hb (fh_d d_Mo_deliver 123 rfl) (lv_at hl 2 rfl) ?_
            refine fn_iald (f := B 16) (k := (t + 1)) hx hb hK hP 0 mkM_a16 rfl (nI_pred _) (by omega) (by decide) (fh_d d_Mo_deliver 124 rfl) ?_
            refine lv_iconst (v := 4) hx hb (fh_d d_Mo_deliver 125 rfl) (by decide) ?_
            refine lv_icmp_ne (tgt := 252) hx hb (fh_d d_Mo_deliver 126 rfl) rfl (fun c22 => ?_) (fun c22 => ?_)
            · have qf : ¬ (B 16 (t + 1) = 4 ∧ B 1 (ixI (B 17 (t + 1))) = 4) := fun z => c22 z.1
              refine lv_aload_n hx hb (fh_d d_Mo_deliver 144 rfl) rfl (lv_at hl 4 rfl) ?_
              refine fh_get (own := "FormulaSetterModel") (ref := "FormulaSetterModel") (C := "FormulaSetterModel") (T := T_Mo) (N := 53) (v := .ref (x + 11)) hx hb hT i_Mo hown hK hP mkM_o rfl 16 (by decide) (hT _ w876) (fun _ h9 => h9) rfl (fh_d d_Mo_deliver 145 rfl) ?_
              refine lv_iload hx hb (fh_d d_Mo_deliver 146 rfl) (lv_at hl 0 rfl) ?_
              refine lv_aload_n hx hb (fh_d d_Mo_deliver 147 rfl) rfl (lv_at hl 4 rfl) ?_
              refine fh_get (own := "FormulaSetterModel") (ref := "FormulaSetterModel") (C := "FormulaSetterModel") (T := T_Mo) (N := 53) (v := .ref (x + 17)) hx hb hT i_Mo hown hK hP mkM_o rfl 23 (by decide) (hT _ w883) (fun _ h9 => h9) rfl (fh_d d_Mo_deliver 148 rfl) ?_
              refine lv_iload hx hb (fh_d d_Mo_deliver 149 rfl) (lv_at hl 2 rfl) ?_
              refine fn_iald (f := B 16) (k := (t + 1)) hx hb hK hP 0 mkM_a16 rfl (nI_pred _) (by omega) (by decide) (fh_d d_Mo_deliver 150 rfl) ?_
              refine lv_iconst (v := 4) hx hb (fh_d d_Mo_deliver 151 rfl) (by decide) ?_
              refine lv_icmp_ne (tgt := 273) hx hb (fh_d d_Mo_deliver 152 rfl) rfl (fun c23 => ?_) (fun c23 => ?_)
              · refine lv_aload_n hx hb (fh_d d_Mo_deliver 155 rfl) rfl (lv_at hl 4 rfl) ?_
                refine fh_get (own := "FormulaSetterModel") (ref := "FormulaSetterModel") (C := "FormulaSetterModel") (T := T_Mo) (N := 53) (v := .ref (x + 11)) hx hb hT i_Mo hown hK hP mkM_o rfl 16 (by decide) (hT _ w876) (fun _ h9 => h9) rfl (fh_d d_Mo_deliver 156 rfl) ?_
                refine lv_iload hx hb (fh_d d_Mo_deliver 157 rfl) (lv_at hl 0 rfl) ?_
                refine fn_iald (f := B 10) (k := ixI (B 17 (t + 1))) hx hb hK hP 0 mkM_a10 rfl (g1) (g2) (by decide) (fh_d d_Mo_deliver 158 rfl) ?_
                refine fn_iast (f := B 10) (k := ixI (B 17 (t + 1))) hx hb hK hP hS 0 mkM_a10 rfl (g1) (g2) (by decide) (fh_d d_Mo_deliver 159 rfl) (fun H locs hP hS => ?_)
                replace hP := fh_P.eq (h' := mkM ct x g (up2 (up2 B 14 (upd (B 14) k ((B 17) (t + 1)))) 10 (upd (B 10) (ixI (B 17 (t + 1))) ((B 10) (ixI (B 17 (t + 1)))))) th co at_ wr no nu (nI (t + 1 + 1)) pi wi he de) hP mkM_u10
                refine lv_aload_n hx hb (fh_d d_Mo_deliver 160 rfl) rfl (lv_at hl 4 rfl) ?_
                refine fh_get (own := "FormulaSetterModel") (ref := "FormulaSetterModel") (C := "FormulaSetterModel") (T := T_Mo) (N := 53) (v := .ref (x + 12)) hx hb hT i_Mo hown hK hP mkM_o rfl 17 (by decide) (hT _ w877) (fun _ h9 => h9) rfl (fh_d d_Mo_deliver 161 rfl) ?_
                refine lv_iload hx hb (fh_d d_Mo_deliver 162 rfl) (lv_at hl 0 rfl) ?_
                refine lv_aload_n hx hb (fh_d d_Mo_deliver 163 rfl) rfl (lv_at hl 4 rfl) ?_
                refine fh_get (own := "FormulaSetterModel") (ref := "FormulaSetterModel") (C := "FormulaSetterModel") (T := T_Mo) (N := 53) (v := .ref (x + 17)) hx hb hT i_Mo hown hK hP mkM_o rfl 23 (by decide) (hT _ w883) (fun _ h9 => h9) rfl (fh_d d_Mo_deliver 164 rfl) ?_
                refine lv_iload hx hb (fh_d d_Mo_deliver 165 rfl) (lv_at hl 2 rfl) ?_
                refine fn_iald (f := B 16) (k := (t + 1)) hx hb hK hP 0 mkM_a16 rfl (nI_pred _) (by omega) (by decide) (fh_d d_Mo_deliver 166 rfl) ?_
                refine lv_iconst (v := 5) hx hb (fh_d d_Mo_deliver 167 rfl) (by decide) ?_
                refine lv_icmp_ne (tgt := 302) hx hb (fh_d d_Mo_deliver 168 rfl) rfl (fun c24 => ?_) (fun c24 => ?_)
                · refine lv_aload_n hx hb (fh_d d_Mo_deliver 171 rfl) rfl (lv_at hl 4 rfl) ?_
                  refine fh_get (own := "FormulaSetterModel") (ref := "FormulaSetterModel") (C := "FormulaSetterModel") (T := T_Mo) (N := 53) (v := .ref (x + 12)) hx hb hT i_Mo hown hK hP mkM_o rfl 17 (by decide) (hT _ w877) (fun _ h9 => h9) rfl (fh_d d_Mo_deliver 172 rfl) ?_
                  refine lv_iload hx hb (fh_d d_Mo_deliver 173 rfl) (lv_at hl 0 rfl) ?_
                  refine fn_iald (f := B 11) (k := ixI (B 17 (t + 1))) hx hb hK hP 0 mkM_a11 rfl (g1) (g2) (by decide) (fh_d d_Mo_deliver 174 rfl) ?_
                  refine fn_iast (f := B 11) (k := ixI (B 17 (t + 1))) hx hb hK hP hS 0 mkM_a11 rfl (g1) (g2) (by decide) (fh_d d_Mo_deliver 175 rfl) (fun H locs hP hS => ?_)
                  replace hP := fh_P.eq (h' := mkM ct x g (up2 (up2 (up2 B 14 (upd (B 14) k ((B 17) (t + 1)))) 10 (upd (B 10) (ixI (B 17 (t + 1))) ((B 10) (ixI (B 17 (t + 1)))))) 11 (upd (B 11) (ixI (B 17 (t + 1))) ((B 11) (ixI (B 17 (t + 1)))))) th co at_ wr no nu (nI (t + 1 + 1)) pi wi he de) hP mkM_u11
                  refine lv_aload_n hx hb (fh_d d_Mo_deliver 176 rfl) rfl (lv_at hl 4 rfl) ?_
                  refine lv_dup hx hb (fh_d d_Mo_deliver 177 rfl) rfl ?_
                  refine fh_get (own := "FormulaSetterModel") (ref := "FormulaSetterModel") (C := "FormulaSetterModel") (T := T_Mo) (N := 53) (v := .int (nI (t + 1 + 1))) hx hb hT i_Mo hown hK hP mkM_o rfl 22 (by decide) (hT _ w882) (fun _ h9 => h9) rfl (fh_d d_Mo_deliver 178 rfl) ?_
                  refine lv_iconst (v := 1) hx hb (fh_d d_Mo_deliver 179 rfl) (by decide) ?_
                  refine lv_isub hx hb (fh_d d_Mo_deliver 180 rfl) ?_
                  refine fh_put (own := "FormulaSetterModel") (ref := "FormulaSetterModel") (C := "FormulaSetterModel") (T := T_Mo) (N := 53) (v := .int ((nI (t + 1 + 1)) - 1)) (ty := .int) hx hb hT i_Mo t_Mo k_Mo n_Mo hown hK hP hS mkM_o rfl 22 (by decide) (hT _ w882) (fun _ h9 => h9) rfl (by decide +kernel) rfl rfl (Nat.le_of_ble_eq_true rfl) (fh_d d_Mo_deliver 181 rfl) (fun H locs hP hS => ?_)
                  replace hP := fh_P.eq (h' := mkM ct x g (up2 (up2 (up2 B 14 (upd (B 14) k ((B 17) (t + 1)))) 10 (upd (B 10) (ixI (B 17 (t + 1))) ((B 10) (ixI (B 17 (t + 1)))))) 11 (upd (B 11) (ixI (B 17 (t + 1))) ((B 11) (ixI (B 17 (t + 1)))))) th co at_ wr no nu ((nI (t + 1 + 1)) - 1) pi wi he de) hP mkM_ux
                  refine lv_iload hx hb (fh_d d_Mo_deliver 182 rfl) (lv_at hl 0 rfl) ?_
                  refine lv_istore_n (lv' := [(2, .int ((B 17) (t + 1))), (5, .int ((B 17) (t + 1))), (3, .int 0), (4, .int ((nI (t + 1 + 1)) - 1)), (0, .ref x)]) hx hb (fh_d d_Mo_deliver 183 rfl) rfl hl (by decide) rfl (fun ls hl => ?_)
                  refine lv_iconst (v := 1) hx hb (fh_d d_Mo_deliver 184 rfl) (by decide) ?_
                  refine lv_istore_n (lv' := [(3, .int 1), (2, .int ((B 17) (t + 1))), (5, .int ((B 17) (t + 1))), (4, .int ((nI (t + 1 + 1)) - 1)), (0, .ref x)]) hx hb (fh_d d_Mo_deliver 185 rfl) rfl hl (by decide) rfl (fun ls hl => ?_)
                  refine lv_goto (tgt := 4) hx hb (fh_d d_Mo_deliver 186 rfl) rfl ?_
                  rw [nI_pred] at hP
                  have q9 : rf_del (t + 1 + 1) B k = rf_del (t + 1) (rf_dx B (t + 1) k) (ixI (B 17 (t + 1))) := by
                    show (if _ then _ else _) = _
                    rw [if_neg qn, if_neg qs, if_neg qf]
                  have q8 : rf_dx B (t + 1) k = up2 (up2 (up2 B 14 (upd (B 14) k ((B 17) (t + 1)))) 10 (upd (B 10) (ixI (B 17 (t + 1))) ((B 10) (ixI (B 17 (t + 1)))))) 11 (upd (B 11) (ixI (B 17 (t + 1))) ((B 11) (ixI (B 17 (t + 1))))) := by
                    unfold rf_dx
                    rw [if_neg c23, if_neg c24]
                    rfl
                  rw [← q8] at hP
                  have hl := lv_sub hl [0, 1, 4] (l' := [(3, .int 1), (2, .int (B 17 (t + 1))), (0, .ref x)]) rfl
                  rw [g1] at hl
                  exact ih (rf_dx B (t + 1) k) (ixI (B 17 (t + 1))) (by omega) g2 ⟨fun j hj => hfB.1 j (by omega), hfB.2⟩ (q9.symm.trans hres) H _ _ hP hS hl
                · refine lv_iload_n hx hb (fh_d d_Mo_deliver 169 rfl) rfl (lv_at hl 3 rfl) ?_
                  refine lv_goto (tgt := 309) hx hb (fh_d d_Mo_deliver 170 rfl) rfl ?_
                  refine fn_iast (f := B 11) (k := ixI (B 17 (t + 1))) hx hb hK hP hS 0 mkM_a11 rfl (g1) (g2) (by decide) (fh_d d_Mo_deliver 175 rfl) (fun H locs hP hS => ?_)
                  replace hP := fh_P.eq (h' := mkM ct x g (up2 (up2 (up2 B 14 (upd (B 14) k ((B 17) (t + 1)))) 10 (upd (B 10) (ixI (B 17 (t + 1))) ((B 10) (ixI (B 17 (t + 1)))))) 11 (upd (B 11) (ixI (B 17 (t + 1))) (nI k))) th co at_ wr no nu (nI (t + 1 + 1)) pi wi he de) hP mkM_u11
                  refine lv_aload_n hx hb (fh_d d_Mo_deliver 176 rfl) rfl (lv_at hl 4 rfl) ?_
                  refine lv_dup hx hb (fh_d d_Mo_deliver 177 rfl) rfl ?_
                  refine fh_get (own := "FormulaSetterModel") (ref := "FormulaSetterModel") (C := "FormulaSetterModel") (T := T_Mo) (N := 53) (v := .int (nI (t + 1 + 1))) hx hb hT i_Mo hown hK hP mkM_o rfl 22 (by decide) (hT _ w882) (fun _ h9 => h9) rfl (fh_d d_Mo_deliver 178 rfl) ?_
                  refine lv_iconst (v := 1) hx hb (fh_d d_Mo_deliver 179 rfl) (by decide) ?_
                  refine lv_isub hx hb (fh_d d_Mo_deliver 180 rfl) ?_
                  refine fh_put (own := "FormulaSetterModel") (ref := "FormulaSetterModel") (C := "FormulaSetterModel") (T := T_Mo) (N := 53) (v := .int ((nI (t + 1 + 1)) - 1)) (ty := .int) hx hb hT i_Mo t_Mo k_Mo n_Mo hown hK hP hS mkM_o rfl 22 (by decide) (hT _ w882) (fun _ h9 => h9) rfl (by decide +kernel) rfl rfl (Nat.le_of_ble_eq_true rfl) (fh_d d_Mo_deliver 181 rfl) (fun H locs hP hS => ?_)
                  replace hP := fh_P.eq (h' := mkM ct x g (up2 (up2 (up2 B 14 (upd (B 14) k ((B 17) (t + 1)))) 10 (upd (B 10) (ixI (B 17 (t + 1))) ((B 10) (ixI (B 17 (t + 1)))))) 11 (upd (B 11) (ixI (B 17 (t + 1))) (nI k))) th co at_ wr no nu ((nI (t + 1 + 1)) - 1) pi wi he de) hP mkM_ux
                  refine lv_iload hx hb (fh_d d_Mo_deliver 182 rfl) (lv_at hl 0 rfl) ?_
                  refine lv_istore_n (lv' := [(2, .int ((B 17) (t + 1))), (5, .int ((B 17) (t + 1))), (3, .int 0), (4, .int ((nI (t + 1 + 1)) - 1)), (0, .ref x)]) hx hb (fh_d d_Mo_deliver 183 rfl) rfl hl (by decide) rfl (fun ls hl => ?_)
                  refine lv_iconst (v := 1) hx hb (fh_d d_Mo_deliver 184 rfl) (by decide) ?_
                  refine lv_istore_n (lv' := [(3, .int 1), (2, .int ((B 17) (t + 1))), (5, .int ((B 17) (t + 1))), (4, .int ((nI (t + 1 + 1)) - 1)), (0, .ref x)]) hx hb (fh_d d_Mo_deliver 185 rfl) rfl hl (by decide) rfl (fun ls hl => ?_)
                  refine lv_goto (tgt := 4) hx hb (fh_d d_Mo_deliver 186 rfl) rfl ?_
                  rw [nI_pred] at hP
                  have q9 : rf_del (t + 1 + 1) B k = rf_del (t + 1) (rf_dx B (t + 1) k) (ixI (B 17 (t + 1))) := by
                    show (if _ then _ else _) = _
                    rw [if_neg qn, if_neg qs, if_neg qf]
                  have q8 : rf_dx B (t + 1) k = up2 (up2 (up2 B 14 (upd (B 14) k ((B 17) (t + 1)))) 10 (upd (B 10) (ixI (B 17 (t + 1))) ((B 10) (ixI (B 17 (t + 1)))))) 11 (upd (B 11) (ixI (B 17 (t + 1))) (nI k)) := by
                    unfold rf_dx
                    rw [if_neg c23, if_pos (Classical.not_not.mp (fun z => z c24))]
                    rfl
                  rw [← q8] at hP
                  have hl := lv_sub hl [0, 1, 4] (l' := [(3, .int 1), (2, .int (B 17 (t + 1))), (0, .ref x)]) rfl
                  rw [g1] at hl
                  exact ih (rf_dx B (t + 1) k) (ixI (B 17 (t + 1))) (by omega) g2 ⟨fun j hj => hfB.1 j (by omega), hfB.2⟩ (q9.symm.trans hres) H _ _ hP hS hl
              · refine lv_iload_n hx hb (fh_d d_Mo_deliver 153 rfl) rfl (lv_at hl 3 rfl) ?_
                refine lv_goto (tgt := 280) hx hb (fh_d d_Mo_deliver 154 rfl) rfl ?_
                refine fn_iast (f := B 10) (k := ixI (B 17 (t + 1))) hx hb hK hP hS 0 mkM_a10 rfl (g1) (g2) (by decide) (fh_d d_Mo_deliver 159 rfl) (fun H locs hP hS => ?_)
                replace hP := fh_P.eq (h' := mkM ct x g (up2 (up2 B 14 (upd (B 14) k ((B 17) (t + 1)))) 10 (upd (B 10) (ixI (B 17 (t + 1))) (nI k))) th co at_ wr no nu (nI (t + 1 + 1)) pi wi he de) hP mkM_u10
                refine lv_aload_n hx hb (fh_d d_Mo_deliver 160 rfl) rfl (lv_at hl 4 rfl) ?_
                refine fh_get (own := "FormulaSetterModel") (ref := "FormulaSetterModel") (C := "FormulaSetterModel") (T := T_Mo) (N := 53) (v := .ref (x + 12)) hx hb hT i_Mo hown hK hP mkM_o rfl 17 (by decide) (hT _ w877) (fun _ h9 => h9) rfl (fh_d d_Mo_deliver 161 rfl) ?_
                refine lv_iload hx hb (fh_d d_Mo_deliver 162 rfl) (lv_at hl 0 rfl) ?_
                refine lv_aload_n hx hb (fh_d d_Mo_deliver 163 rfl) rfl (lv_at hl 4 rfl) ?_
                refine fh_get (own := "FormulaSetterModel") (ref := "FormulaSetterModel") (C := "FormulaSetterModel") (T := T_Mo) (N := 53) (v := .ref (x + 17)) hx hb hT i_Mo hown hK hP mkM_o rfl 23 (by decide) (hT _ w883) (fun _ h9 => h9) rfl (fh_d d_Mo_deliver 164 rfl) ?_
                refine lv_iload hx hb (fh_d d_Mo_deliver 165 rfl) (lv_at hl 2 rfl) ?_
                refine fn_iald (f := B 16) (k := (t + 1)) hx hb hK hP 0 mkM_a16 rfl (nI_pred _) (by omega) (by decide) (fh_d d_Mo_deliver 166 rfl) ?_
                refine lv_iconst (v := 5) hx hb (fh_d d_Mo_deliver 167 rfl) (by decide) ?_
                refine lv_icmp_ne (tgt := 302) hx hb (fh_d d_Mo_deliver 168 rfl) rfl (fun c25 => ?_) (fun c25 => ?_)
                · refine lv_aload_n hx hb (fh_d d_Mo_deliver 171 rfl) rfl (lv_at hl 4 rfl) ?_
                  refine fh_get (own := "FormulaSetterModel") (ref := "FormulaSetterModel") (C := "FormulaSetterModel") (T := T_Mo) (N := 53) (v := .ref (x + 12)) hx hb hT i_Mo hown hK hP mkM_o rfl 17 (by decide) (hT _ w877) (fun _ h9 => h9) rfl (fh_d d_Mo_deliver 172 rfl) ?_
                  refine lv_iload hx hb (fh_d d_Mo_deliver 173 rfl) (lv_at hl 0 rfl) ?_
                  refine fn_iald (f := B 11) (k := ixI (B 17 (t + 1))) hx hb hK hP 0 mkM_a11 rfl (g1) (g2) (by decide) (fh_d d_Mo_deliver 174 rfl) ?_
                  refine fn_iast (f := B 11) (k := ixI (B 17 (t + 1))) hx hb hK hP hS 0 mkM_a11 rfl (g1) (g2) (by decide) (fh_d d_Mo_deliver 175 rfl) (fun H locs hP hS => ?_)
                  replace hP := fh_P.eq (h' := mkM ct x g (up2 (up2 (up2 B 14 (upd (B 14) k ((B 17) (t + 1)))) 10 (upd (B 10) (ixI (B 17 (t + 1))) (nI k))) 11 (upd (B 11) (ixI (B 17 (t + 1))) ((B 11) (ixI (B 17 (t + 1)))))) th co at_ wr no nu (nI (t + 1 + 1)) pi wi he de) hP mkM_u11
                  refine lv_aload_n hx hb (fh_d d_Mo_deliver 176 rfl) rfl (lv_at hl 4 rfl) ?_
                  refine lv_dup hx hb (fh_d d_Mo_deliver 177 rfl) rfl ?_
                  refine fh_get (own := "FormulaSetterModel") (ref := "FormulaSetterModel") (C := "FormulaSetterModel") (T := T_Mo) (N := 53) (v := .int (nI (t + 1 + 1))) hx hb hT i_Mo hown hK hP mkM_o rfl 22 (by decide) (hT _ w882) (fun _ h9 => h9) rfl (fh_d d_Mo_deliver 178 rfl) ?_
                  refine lv_iconst (v := 1) hx hb (fh_d d_Mo_deliver 179 rfl) (by decide) ?_
                  refine lv_isub hx hb (fh_d d_Mo_deliver 180 rfl) ?_
                  refine fh_put (own := "FormulaSetterModel") (ref := "FormulaSetterModel") (C := "FormulaSetterModel") (T := T_Mo) (N := 53) (v := .int ((nI (t + 1 + 1)) - 1)) (ty := .int) hx hb hT i_Mo t_Mo k_Mo n_Mo hown hK hP hS mkM_o rfl 22 (by decide) (hT _ w882) (fun _ h9 => h9) rfl (by decide +kernel) rfl rfl (Nat.le_of_ble_eq_true rfl) (fh_d d_Mo_deliver 181 rfl) (fun H locs hP hS => ?_)
                  replace hP := fh_P.eq (h' := mkM ct x g (up2 (up2 (up2 B 14 (upd (B 14) k ((B 17) (t + 1)))) 10 (upd (B 10) (ixI (B 17 (t + 1))) (nI k))) 11 (upd (B 11) (ixI (B 17 (t + 1))) ((B 11) (ixI (B 17 (t + 1)))))) th co at_ wr no nu ((nI (t + 1 + 1)) - 1) pi wi he de) hP mkM_ux
                  refine lv_iload hx hb (fh_d d_Mo_deliver 182 rfl) (lv_at hl 0 rfl) ?_
                  refine lv_istore_n (lv' := [(2, .int ((B 17) (t + 1))), (5, .int ((B 17) (t + 1))), (3, .int 0), (4, .int ((nI (t + 1 + 1)) - 1)), (0, .ref x)]) hx hb (fh_d d_Mo_deliver 183 rfl) rfl hl (by decide) rfl (fun ls hl => ?_)
                  refine lv_iconst (v := 1) hx hb (fh_d d_Mo_deliver 184 rfl) (by decide) ?_
                  refine lv_istore_n (lv' := [(3, .int 1), (2, .int ((B 17) (t + 1))), (5, .int ((B 17) (t + 1))), (4, .int ((nI (t + 1 + 1)) - 1)), (0, .ref x)]) hx hb (fh_d d_Mo_deliver 185 rfl) rfl hl (by decide) rfl (fun ls hl => ?_)
                  refine lv_goto (tgt := 4) hx hb (fh_d d_Mo_deliver 186 rfl) rfl ?_
                  rw [nI_pred] at hP
                  have q9 : rf_del (t + 1 + 1) B k = rf_del (t + 1) (rf_dx B (t + 1) k) (ixI (B 17 (t + 1))) := by
                    show (if _ then _ else _) = _
                    rw [if_neg qn, if_neg qs, if_neg qf]
                  have q8 : rf_dx B (t + 1) k = up2 (up2 (up2 B 14 (upd (B 14) k ((B 17) (t + 1)))) 10 (upd (B 10) (ixI (B 17 (t + 1))) (nI k))) 11 (upd (B 11) (ixI (B 17 (t + 1))) ((B 11) (ixI (B 17 (t + 1))))) := by
                    unfold rf_dx
                    rw [if_pos (Classical.not_not.mp (fun z => z c23)), if_neg c25]
                    rfl
                  rw [← q8] at hP
                  have hl := lv_sub hl [0, 1, 4] (l' := [(3, .int 1), (2, .int (B 17 (t + 1))), (0, .ref x)]) rfl
                  rw [g1] at hl
                  exact ih (rf_dx B (t + 1) k) (ixI (B 17 (t + 1))) (by omega) g2 ⟨fun j hj => hfB.1 j (by omega), hfB.2⟩ (q9.symm.trans hres) H _ _ hP hS hl
                · refine lv_iload_n hx hb (fh_d d_Mo_deliver 169 rfl) rfl (lv_at hl 3 rfl) ?_
                  refine lv_goto (tgt := 309) hx hb (fh_d d_Mo_deliver 170 rfl) rfl ?_
                  refine fn_iast (f := B 11) (k := ixI (B 17 (t + 1))) hx hb hK hP hS 0 mkM_a11 rfl (g1) (g2) (by decide) (fh_d d_Mo_deliver 175 rfl) (fun H locs hP hS => ?_)
                  replace hP := fh_P.eq (h' := mkM ct x g (up2 (up2 (up2 B 14 (upd (B 14) k ((B 17) (t + 1)))) 10 (upd (B 10) (ixI (B 17 (t + 1))) (nI k))) 11 (upd (B 11) (ixI (B 17 (t + 1))) (nI k))) th co at_ wr no nu (nI (t + 1 + 1)) pi wi he de) hP mkM_u11
                  refine lv_aload_n hx hb (fh_d d_Mo_deliver 176 rfl) rfl (lv_at hl 4 rfl) ?_
                  refine lv_dup hx hb (fh_d d_Mo_deliver 177 rfl) rfl ?_
                  refine fh_get (own := "FormulaSetterModel") (ref := "FormulaSetterModel") (C := "FormulaSetterModel") (T := T_Mo) (N := 53) (v := .int (nI (t + 1 + 1))) hx hb hT i_Mo hown hK hP mkM_o rfl 22 (by decide) (hT _ w882) (fun _ h9 => h9) rfl (fh_d d_Mo_deliver 178 rfl) ?_
                  refine lv_iconst (v := 1) hx hb (fh_d d_Mo_deliver 179 rfl) (by decide) ?_
                  refine lv_isub hx hb (fh_d d_Mo_deliver 180 rfl) ?_
                  refine fh_put (own := "FormulaSetterModel") (ref := "FormulaSetterModel") (C := "FormulaSetterModel") (T := T_Mo) (N := 53) (v := .int ((nI (t + 1 + 1)) - 1)) (ty := .int) hx hb hT i_Mo t_Mo k_Mo n_Mo hown hK hP hS mkM_o rfl 22 (by decide) (hT _ w882) (fun _ h9 => h9) rfl (by decide +kernel) rfl rfl (Nat.le_of_ble_eq_true rfl) (fh_d d_Mo_deliver 181 rfl) (fun H locs hP hS => ?_)
                  replace hP := fh_P.eq (h' := mkM ct x g (up2 (up2 (up2 B 14 (upd (B 14) k ((B 17) (t + 1)))) 10 (upd (B 10) (ixI (B 17 (t + 1))) (nI k))) 11 (upd (B 11) (ixI (B 17 (t + 1))) (nI k))) th co at_ wr no nu ((nI (t + 1 + 1)) - 1) pi wi he de) hP mkM_ux
                  refine lv_iload hx hb (fh_d d_Mo_deliver 182 rfl) (lv_at hl 0 rfl) ?_
                  refine lv_istore_n (lv' := [(2, .int ((B 17) (t + 1))), (5, .int ((B 17) (t + 1))), (3, .int 0), (4, .int ((nI (t + 1 + 1)) - 1)), (0, .ref x)]) hx hb (fh_d d_Mo_deliver 183 rfl) rfl hl (by decide) rfl (fun ls hl => ?_)
                  refine lv_iconst (v := 1) hx hb (fh_d d_Mo_deliver 184 rfl) (by decide) ?_
                  refine lv_istore_n (lv' := [(3, .int 1), (2, .int ((B 17) (t + 1))), (5, .int ((B 17) (t + 1))), (4, .int ((nI (t + 1 + 1)) - 1)), (0, .ref x)]) hx hb (fh_d d_Mo_deliver 185 rfl) rfl hl (by decide) rfl (fun ls hl => ?_)
                  refine lv_goto (tgt := 4) hx hb (fh_d d_Mo_deliver 186 rfl) rfl ?_
                  rw [nI_pred] at hP
                  have q9 : rf_del (t + 1 + 1) B k = rf_del (t + 1) (rf_dx B (t + 1) k) (ixI (B 17 (t + 1))) := by
                    show (if _ then _ else _) = _
                    rw [if_neg qn, if_neg qs, if_neg qf]
                  have q8 : rf_dx B (t + 1) k = up2 (up2 (up2 B 14 (upd (B 14) k ((B 17) (t + 1)))) 10 (upd (B 10) (ixI (B 17 (t + 1))) (nI k))) 11 (upd (B 11) (ixI (B 17 (t + 1))) (nI k)) := by
                    unfold rf_dx
                    rw [if_pos (Classical.not_not.mp (fun z => z c23)), if_pos (Classical.not_not.mp (fun z => z c25))]
                    rfl
                  rw [← q8] at hP
                  have hl := lv_sub hl [0, 1, 4] (l' := [(3, .int 1), (2, .int (B 17 (t + 1))), (0, .ref x)]) rfl
                  rw [g1] at hl
                  exact ih (rf_dx B (t + 1) k) (ixI (B 17 (t + 1))) (by omega) g2 ⟨fun j hj => hfB.1 j (by omega), hfB.2⟩ (q9.symm.trans hres) H _ _ hP hS hl
            · refine lv_aload_n hx hb (fh_d d_Mo_deliver 127 rfl) rfl (lv_at hl 4 rfl) ?_
              refine fh_get (own := "FormulaSetterModel") (ref := "FormulaSetterModel") (C := "FormulaSetterModel") (T := T_Mo) (N := 53) (v := .ref (x + 2)) hx hb hT i_Mo hown hK hP mkM_o rfl 7 (by decide) (hT _ w867) (fun _ h9 => h9) rfl (fh_d d_Mo_deliver 128 rfl) ?_
              refine lv_iload hx hb (fh_d d_Mo_deliver 129 rfl) (lv_at hl 0 rfl) ?_
              refine fn_iald (f := B 1) (k := ixI (B 17 (t + 1))) hx hb hK hP 0 mkM_a1 rfl (g1) (g2) (by decide) (fh_d d_Mo_deliver 130 rfl) ?_
              refine lv_iconst (v := 4) hx hb (fh_d d_Mo_deliver 131 rfl) (by decide) ?_
              refine lv_icmp_ne (tgt := 252) hx hb (fh_d d_Mo_deliver 132 rfl) rfl (fun c26 => ?_) (fun c26 => ?_)
              · have qf : ¬ (B 16 (t + 1) = 4 ∧ B 1 (ixI (B 17 (t + 1))) = 4) := fun z => c26 z.2
                refine lv_aload_n hx hb (fh_d d_Mo_deliver 144 rfl) rfl (lv_at hl 4 rfl) ?_
                refine fh_get (own := "FormulaSetterModel") (ref := "FormulaSetterModel") (C := "FormulaSetterModel") (T := T_Mo) (N := 53) (v := .ref (x + 11)) hx hb hT i_Mo hown hK hP mkM_o rfl 16 (by decide) (hT _ w876) (fun _ h9 => h9) rfl (fh_d d_Mo_deliver 145 rfl) ?_
                refine lv_iload hx hb (fh_d d_Mo_deliver 146 rfl) (lv_at hl 0 rfl) ?_
                refine lv_aload_n hx hb (fh_d d_Mo_deliver 147 rfl) rfl (lv_at hl 4 rfl) ?_
                refine fh_get (own := "FormulaSetterModel") (ref := "FormulaSetterModel") (C := "FormulaSetterModel") (T := T_Mo) (N := 53) (v := .ref (x + 17)) hx hb hT i_Mo hown hK hP mkM_o rfl 23 (by decide) (hT _ w883) (fun _ h9 => h9) rfl (fh_d d_Mo_deliver 148 rfl) ?_
                refine lv_iload hx hb (fh_d d_Mo_deliver 149 rfl) (lv_at hl 2 rfl) ?_
                refine fn_iald (f := B 16) (k := (t + 1)) hx hb hK hP 0 mkM_a16 rfl (nI_pred _) (by omega) (by decide) (fh_d d_Mo_deliver 150 rfl) ?_
                refine lv_iconst (v := 4) hx hb (fh_d d_Mo_deliver 151 rfl) (by decide) ?_
                refine lv_icmp_ne (tgt := 273) hx hb (fh_d d_Mo_deliver 152 rfl) rfl (fun c27 => ?_) (fun c27 => ?_)
                · refine lv_aload_n hx hb (fh_d d_Mo_deliver 155 rfl) rfl (lv_at hl 4 rfl) ?_
                  refine fh_get (own := "FormulaSetterModel") (ref := "FormulaSetterModel") (C := "FormulaSetterModel") (T := T_Mo) (N := 53) (v := .ref (x + 11)) hx hb hT i_Mo hown hK hP mkM_o rfl 16 (by decide) (hT _ w876) (fun _ h9 => h9) rfl (fh_d d_Mo_deliver 156 rfl) ?_
                  refine lv_iload hx hb (fh_d d_Mo_deliver 157 rfl) (lv_at hl 0 rfl) ?_
                  refine fn_iald (f := B 10) (k := ixI (B 17 (t + 1))) hx hb hK hP 0 mkM_a10 rfl (g1) (g2) (by decide) (fh_d d_Mo_deliver 158 rfl) ?_
                  refine fn_iast (f := B 10) (k := ixI (B 17 (t + 1))) hx hb hK hP hS 0 mkM_a10 rfl (g1) (g2) (by decide) (fh_d d_Mo_deliver 159 rfl) (fun H locs hP hS => ?_)
                  replace hP := fh_P.eq (h' := mkM ct x g (up2 (up2 B 14 (upd (B 14) k ((B 17) (t + 1)))) 10 (upd (B 10) (ixI (B 17 (t + 1))) ((B 10) (ixI (B 17 (t + 1)))))) th co at_ wr no nu (nI (t + 1 + 1)) pi wi he de) hP mkM_u10
                  refine lv_aload_n hx hb (fh_d d_Mo_deliver 160 rfl) rfl (lv_at hl 4 rfl) ?_
                  refine fh_get (own := "FormulaSetterModel") (ref := "FormulaSetterModel") (C := "FormulaSetterModel") (T := T_Mo) (N := 53) (v := .ref (x + 12)) hx hb hT i_Mo hown hK hP mkM_o rfl 17 (by decide) (hT _ w877) (fun _ h9 => h9) rfl (fh_d d_Mo_deliver 161 rfl) ?_
                  refine lv_iload hx hb (fh_d d_Mo_deliver 162 rfl) (lv_at hl 0 rfl) ?_
                  refine lv_aload_n hx hb (fh_d d_Mo_deliver 163 rfl) rfl (lv_at hl 4 rfl) ?_
                  refine fh_get (own := "FormulaSetterModel") (ref := "FormulaSetterModel") (C := "FormulaSetterModel") (T := T_Mo) (N := 53) (v := .ref (x + 17)) hx hb hT i_Mo hown hK hP mkM_o rfl 23 (by decide) (hT _ w883) (fun _ h9 => h9) rfl (fh_d d_Mo_deliver 164 rfl) ?_
                  refine lv_iload hx hb (fh_d d_Mo_deliver 165 rfl) (lv_at hl 2 rfl) ?_
                  refine fn_iald (f := B 16) (k := (t + 1)) hx hb hK hP 0 mkM_a16 rfl (nI_pred _) (by omega) (by decide) (fh_d d_Mo_deliver 166 rfl) ?_
                  refine lv_iconst (v := 5) hx hb (fh_d d_Mo_deliver 167 rfl) (by decide) ?_
                  refine lv_icmp_ne (tgt := 302) hx hb (fh_d d_Mo_deliver 168 rfl) rfl (fun c28 => ?_) (fun c28 => ?_)
                  · refine lv_aload_n hx hb (fh_d d_Mo_deliver 171 rfl) rfl (lv_at hl 4 rfl) ?_
                    refine fh_get (own := "FormulaSetterModel") (ref := "FormulaSetterModel") (C := "FormulaSetterModel") (T := T_Mo) (N := 53) (v := .ref (x + 12)) hx hb hT i_Mo hown hK hP mkM_o rfl 17 (by decide) (hT _ w877) (fun _ h9 => h9) rfl (fh_d d_Mo_deliver 172 rfl) ?_
                    refine lv_iload hx hb (fh_d d_Mo_deliver 173 rfl) (lv_at hl 0 rfl) ?_
                    refine fn_iald (f := B 11) (k := ixI (B 17 (t + 1))) hx hb hK hP 0 mkM_a11 rfl (g1) (g2) (by decide) (fh_d d_Mo_deliver 174 rfl) ?_
                    refine fn_iast (f := B 11) (k := ixI (B 17 (t + 1))) hx hb hK hP hS 0 mkM_a11 rfl (g1) (g2) (by decide) (fh_d d_Mo_deliver 175 rfl) (fun H locs hP hS => ?_)
                    replace hP := fh_P.eq (h' := mkM ct x g (up2 (up2 (up2 B 14 (upd (B 14) k ((B 17) (t + 1)))) 10 (upd (B 10) (ixI (B 17 (t + 1))) ((B 10) (ixI (B 17 (t + 1)))))) 11 (upd (B 11) (ixI (B 17 (t + 1))) ((B 11) (ixI (B 17 (t + 1)))))) th co at_ wr no nu (nI (t + 1 + 1)) pi wi he de) hP mkM_u11
                    refine lv_aload_n hx hb (fh_d d_Mo_deliver 176 rfl) rfl (lv_at hl 4 rfl) ?_
                    refine lv_dup hx hb (fh_d d_Mo_deliver 177 rfl) rfl ?_
                    refine fh_get (own := "FormulaSetterModel") (ref := "FormulaSetterModel") (C := "FormulaSetterModel") (T := T_Mo) (N := 53) (v := .int (nI (t + 1 + 1))) hx hb hT i_Mo hown hK hP mkM_o rfl 22 (by decide) (hT _ w882) (fun _ h9 => h9) rfl (fh_d d_Mo_deliver 178 rfl) ?_
                    refine lv_iconst (v := 1) hx hb (fh_d d_Mo_deliver 179 rfl) (by decide) ?_
                    refine lv_isub hx hb (fh_d d_Mo_deliver 180 rfl) ?_
                    refine fh_put (own := "FormulaSetterModel") (ref := "FormulaSetterModel") (C := "FormulaSetterModel") (T := T_Mo) (N := 53) (v := .int ((nI (t + 1 + 1)) - 1)) (ty := .int) hx hb hT i_Mo t_Mo k_Mo n_Mo hown hK hP hS mkM_o rfl 22 (by decide) (hT _ w882) (fun _ h9 => h9) rfl (by decide +kernel) rfl rfl (Nat.le_of_ble_eq_true rfl) (fh_d d_Mo_deliver 181 rfl) (fun H locs hP hS => ?_)
                    replace hP := fh_P.eq (h' := mkM ct x g (up2 (up2 (up2 B 14 (upd (B 14) k ((B 17) (t + 1)))) 10 (upd (B 10) (ixI (B 17 (t + 1))) ((B 10) (ixI (B 17 (t + 1)))))) 11 (upd (B 11) (ixI (B 17 (t + 1))) ((B 11) (ixI (B 17 (t + 1)))))) th co at_ wr no nu ((nI (t + 1 + 1)) - 1) pi wi he de) hP mkM_ux
                    refine lv_iload hx hb (fh_d d_Mo_deliver 182 rfl) (lv_at hl 0 rfl) ?_
                    refine lv_istore_n (lv' := [(2, .int ((B 17) (t + 1))), (5, .int ((B 17) (t + 1))), (3, .int 0), (4, .int ((nI (t + 1 + 1)) - 1)), (0, .ref x)]) hx hb (fh_d d_Mo_deliver 183 rfl) rfl hl (by decide) rfl (fun ls hl => ?_)
                    refine lv_iconst (v := 1) hx hb (fh_d d_Mo_deliver 184 rfl) (by decide) ?_
                    refine lv_istore_n (lv' := [(3, .int 1), (2, .int ((B 17) (t + 1))), (5, .int ((B 17) (t + 1))), (4, .int ((nI (t + 1 + 1)) - 1)), (0, .ref x)]) hx hb (fh_d d_Mo_deliver 185 rfl) rfl hl (by decide) rfl (fun ls hl => ?_)
                    refine lv_goto (tgt := 4) hx hb (fh_d d_Mo_deliver 186 rfl) rfl ?_
                    rw [nI_pred] at hP
                    have q9 : rf_del (t + 1 + 1) B k = rf_del (t + 1) (rf_dx B (t + 1) k) (ixI (B 17 (t + 1))) := by
                      show (if _ then _ else _) = _
                      rw [if_neg qn, if_neg qs, if_neg qf]
                    have q8 : rf_dx B (t + 1) k = up2 (up2 (up2 B 14 (upd (B 14) k ((B 17) (t + 1)))) 10 (upd (B 10) (ixI (B 17 (t + 1))) ((B 10) (ixI (B 17 (t + 1)))))) 11 (upd (B 11) (ixI (B 17 (t + 1))) ((B 11) (ixI (B 17 (t + 1))))) := by
                      unfold rf_dx
                      rw [if_neg c27, if_neg c28]
                      rfl
                    rw [← q8] at hP
                    have hl := lv_sub hl [0, 1, 4] (l' := [(3, .int 1), (2, .int (B 17 (t + 1))), (0, .ref x)]) rfl
                    rw [g1] at hl
                    exact ih (rf_dx B (t + 1) k) (ixI (B 17 (t + 1))) (by omega) g2 ⟨fun j hj => hfB.1 j (by omega), hfB.2⟩ (q9.symm.trans hres) H _ _ hP hS hl
                  · refine lv_iload_n hx hb (fh_d d_Mo_deliver 169 rfl) rfl (lv_at hl 3 rfl) ?_
                    refine lv_goto (tgt := 309) hx hb (fh_d d_Mo_deliver 170 rfl) rfl ?_
                    refine fn_iast (f := B 11) (k := ixI (B 17 (t + 1))) hx hb hK hP hS 0 mkM_a11 rfl (g1) (g2) (by decide) (fh_d d_Mo_deliver 175 rfl) (fun H locs hP hS => ?_)
                    replace hP := fh_P.eq (h' := mkM ct x g (up2 (up2 (up2 B 14 (upd (B 14) k ((B 17) (t + 1)))) 10 (upd (B 10) (ixI (B 17 (t + 1))) ((B 10) (ixI (B 17 (t + 1)))))) 11 (upd (B 11) (ixI (B 17 (t + 1))) (nI k))) th co at_ wr no nu (nI (t + 1 + 1)) pi wi he de) hP mkM_u11
                    refine lv_aload_n hx hb (fh_d d_Mo_deliver 176 rfl) rfl (lv_at hl 4 rfl) ?_
                    refine lv_dup hx hb (fh_d d_Mo_deliver 177 rfl) rfl ?_
                    refine fh_get (own := "FormulaSetterModel") (ref := "FormulaSetterModel") (C := "FormulaSetterModel") (T := T_Mo) (N := 53) (v := .int (nI (t + 1 + 1))) hx hb hT i_Mo hown hK hP mkM_o rfl 22 (by decide) (hT _ w882) (fun _ h9 => h9) rfl (fh_d d_Mo_deliver 178 rfl) ?_
                    refine lv_iconst (v := 1) hx hb (fh_d d_Mo_deliver 179 rfl) (by decide) ?_
                    refine lv_isub hx hb (fh_d d_Mo_deliver 180 rfl) ?_
                    refine fh_put (own := "FormulaSetterModel") (ref := "FormulaSetterModel") (C := "FormulaSetterModel") (T := T_Mo) (N := 53) (v := .int ((nI (t + 1 + 1)) - 1)) (ty := .int) hx hb hT i_Mo t_Mo k_Mo n_Mo hown hK hP hS mkM_o rfl 22 (by decide) (hT _ w882) (fun _ h9 => h9) rfl (by decide +kernel) rfl rfl (Nat.le_of_ble_eq_true rfl) (fh_d d_Mo_deliver 181 rfl) (fun H locs hP hS => ?_)
                    replace hP := fh_P.eq (h' := mkM ct x g (up2 (up2 (up2 B 14 (upd (B 14) k ((B 17) (t + 1)))) 10 (upd (B 10) (ixI (B 17 (t + 1))) ((B 10) (ixI (B 17 (t + 1)))))) 11 (upd (B 11) (ixI (B 17 (t + 1))) (nI k))) th co at_ wr no nu ((nI (t + 1 + 1)) - 1) pi wi he de) hP mkM_ux
                    refine lv_iload hx hb (fh_d d_Mo_deliver 182 rfl) (lv_at hl 0 rfl) ?_
                    refine lv_istore_n (lv' := [(2, .int ((B 17) (t + 1))), (5, .int ((B 17) (t + 1))), (3, .int 0), (4, .int ((nI (t + 1 + 1)) - 1)), (0, .ref x)]) hx hb (fh_d d_Mo_deliver 183 rfl) rfl hl (by decide) rfl (fun ls hl => ?_)
                    refine lv_iconst (v := 1) hx hb (fh_d d_Mo_deliver 184 rfl) (by decide) ?_
                    refine lv_istore_n (lv' := [(3, .int 1), (2, .int ((B 17) (t + 1))), (5, .int ((B 17) (t + 1))), (4, .int ((nI (t + 1 + 1)) - 1)), (0, .ref x)]) hx hb (fh_d d_Mo_deliver 185 rfl) rfl hl (by decide) rfl (fun ls hl => ?_)
                    refine lv_goto (tgt := 4) hx hb (fh_d d_Mo_deliver 186 rfl) rfl ?_
                    rw [nI_pred] at hP
                    have q9 : rf_del (t + 1 + 1) B k = rf_del (t + 1) (rf_dx B (t + 1) k) (ixI (B 17 (t + 1))) := by
                      show (if _ then _ else _) = _
                      rw [if_neg qn, if_neg qs, if_neg qf]
                    have q8 : rf_dx B (t + 1) k = up2 (up2 (up2 B 14 (upd (B 14) k ((B 17) (t + 1)))) 10 (upd (B 10) (ixI (B 17 (t + 1))) ((B 10) (ixI (B 17 (t + 1)))))) 11 (upd (B 11) (ixI (B 17 (t + 1))) (nI k)) := by
                      unfold rf_dx
                      rw [if_neg c27, if_pos (Classical.not_not.mp (fun z => z c28))]
                      rfl
                    rw [← q8] at hP
                    have hl := lv_sub hl [0, 1, 4] (l' := [(3, .int 1), (2, .int (B 17 (t + 1))), (0, .ref x)]) rfl
                    rw [g1] at hl
                    exact ih (rf_dx B (t + 1) k) (ixI (B 17 (t + 1))) (by omega) g2 ⟨fun j hj => hfB.1 j (by omega), hfB.2⟩ (q9.symm.trans hres) H _ _ hP hS hl
                · refine lv_iload_n hx hb (fh_d d_Mo_deliver 153 rfl) rfl (lv_at hl 3 rfl) ?_
                  refine lv_goto (tgt := 280) hx hb (fh_d d_Mo_deliver 154 rfl) rfl ?_
                  refine fn_iast (f := B 10) (k := ixI (B 17 (t + 1))) hx hb hK hP hS 0 mkM_a10 rfl (g1) (g2) (by decide) (fh_d d_Mo_deliver 159 rfl) (fun H locs hP hS => ?_)
                  replace hP := fh_P.eq (h' := mkM ct x g (up2 (up2 B 14 (upd (B 14) k ((B 17) (t + 1)))) 10 (upd (B 10) (ixI (B 17 (t + 1))) (nI k))) th co at_ wr no nu (nI (t + 1 + 1)) pi wi he de) hP mkM_u10
                  refine lv_aload_n hx hb (fh_d d_Mo_deliver 160 rfl) rfl (lv_at hl 4 rfl) ?_
                  refine fh_get (own := "FormulaSetterModel") (ref := "FormulaSetterModel") (C := "FormulaSetterModel") (T := T_Mo) (N := 53) (v := .ref (x + 12)) hx hb hT i_Mo hown hK hP mkM_o rfl 17 (by decide) (hT _ w877) (fun _ h9 => h9) rfl (fh_d d_Mo_deliver 161 rfl) ?_
                  refine lv_iload hx hb (fh_d d_Mo_deliver 162 rfl) (lv_at hl 0 rfl) ?_
                  refine lv_aload_n hx hb (fh_d d_Mo_deliver 163 rfl) rfl (lv_at hl 4 rfl) ?_
                  refine fh_get (own := "FormulaSetterModel") (ref := "FormulaSetterModel") (C := "FormulaSetterModel") (T := T_Mo) (N := 53) (v := .ref (x + 17)) hx hb hT i_Mo hown hK hP mkM_o rfl 23 (by decide) (hT _ w883) (fun _ h9 => h9) rfl (fh_d d_Mo_deliver 164 rfl) ?_
                  refine lv_iload hx hb (fh_d d_Mo_deliver 165 rfl) (lv_at hl 2 rfl) ?_
                  refine fn_iald (f := B 16) (k := (t + 1)) hx hb hK hP 0 mkM_a16 rfl (nI_pred _) (by omega) (by decide) (fh_d d_Mo_deliver 166 rfl) ?_
                  refine lv_iconst (v := 5) hx hb (fh_d d_Mo_deliver 167 rfl) (by decide) ?_
                  refine lv_icmp_ne (tgt := 302) hx hb (fh_d d_Mo_deliver 168 rfl) rfl (fun c29 => ?_) (fun c29 => ?_)
                  · refine lv_aload_n hx hb (fh_d d_Mo_deliver 171 rfl) rfl (lv_at hl 4 rfl) ?_
                    refine fh_get (own := "FormulaSetterModel") (ref := "FormulaSetterModel") (C := "FormulaSetterModel") (T := T_Mo) (N := 53) (v := .ref (x + 12)) hx hb hT i_Mo hown hK hP mkM_o rfl 17 (by decide) (hT _ w877) (fun _ h9 => h9) rfl (fh_d d_Mo_deliver 172 rfl) ?_
                    refine lv_iload hx hb (fh_d d_Mo_deliver 173 rfl) (lv_at hl 0 rfl) ?_
                    refine fn_iald (f := B 11) (k := ixI (B 17 (t + 1))) hx hb hK hP 0 mkM_a11 rfl (g1) (g2) (by decide) (fh_d d_Mo_deliver 174 rfl) ?_
                    refine fn_iast (f := B 11) (k := ixI (B 17 (t + 1))) hx hb hK hP hS 0 mkM_a11 rfl (g1) (g2) (by decide) (fh_d d_Mo_deliver 175 rfl) (fun H locs hP hS => ?_)
                    replace hP := fh_P.eq (h' := mkM ct x g (up2 (up2 (up2 B 14 (upd (B 14) k ((B 17) (t + 1)))) 10 (upd (B 10) (ixI (B 17 (t + 1))) (nI k))) 11 (upd (B 11) (ixI (B 17 (t + 1))) ((B 11) (ixI (B 17 (t + 1)))))) th co at_ wr no nu (nI (t + 1 + 1)) pi wi he de) hP mkM_u11
                    refine lv_aload_n hx hb (fh_d d_Mo_deliver 176 rfl) rfl (lv_at hl 4 rfl) ?_
                    refine lv_dup hx hb (fh_d d_Mo_deliver 177 rfl) rfl ?_
                    refine fh_get (own := "FormulaSetterModel") (ref := "FormulaSetterModel") (C := "FormulaSetterModel") (T := T_Mo) (N := 53) (v := .int (nI (t + 1 + 1))) hx hb hT i_Mo hown hK hP mkM_o rfl 22 (by decide) (hT _ w882) (fun _ h9 => h9) rfl (fh_d d_Mo_deliver 178 rfl) ?_
                    refine lv_iconst (v := 1) hx hb (fh_d d_Mo_deliver 179 rfl) (by decide) ?_
                    refine lv_isub hx hb (fh_d d_Mo_deliver 180 rfl) ?_
                    refine fh_put (own := "FormulaSetterModel") (ref := "FormulaSetterModel") (C := "FormulaSetterModel") (T := T_Mo) (N := 53) (v := .int ((nI (t + 1 + 1)) - 1)) (ty := .int) hx hb hT i_Mo t_Mo k_Mo n_Mo hown hK hP hS mkM_o rfl 22 (by decide) (hT _ w882) (fun _ h9 => h9) rfl (by decide +kernel) rfl rfl (Nat.le_of_ble_eq_true rfl) (fh_d d_Mo_deliver 181 rfl) (fun H locs hP hS => ?_)
                    replace hP := fh_P.eq (h' := mkM ct x g (up2 (up2 (up2 B 14 (upd (B 14) k ((B 17) (t + 1)))) 10 (upd (B 10) (ixI (B 17 (t + 1))) (nI k))) 11 (upd (B 11) (ixI (B 17 (t + 1))) ((B 11) (ixI (B 17 (t + 1)))))) th co at_ wr no nu ((nI (t + 1 + 1)) - 1) pi wi he de) hP mkM_ux
                    refine lv_iload hx hb (fh_d d_Mo_deliver 182 rfl) (lv_at hl 0 rfl) ?_
                    refine lv_istore_n (lv' := [(2, .int ((B 17) (t + 1))), (5, .int ((B 17) (t + 1))), (3, .int 0), (4, .int ((nI (t + 1 + 1)) - 1)), (0, .ref x)]) hx hb (fh_d d_Mo_deliver 183 rfl) rfl hl (by decide) rfl (fun ls hl => ?_)
                    refine lv_iconst (v := 1) hx hb (fh_d d_Mo_deliver 184 rfl) (by decide) ?_
                    refine lv_istore_n (lv' := [(3, .int 1), (2, .int ((B 17) (t + 1))), (5, .int ((B 17) (t + 1))), (4, .int ((nI (t + 1 + 1)) - 1)), (0, .ref x)]) hx hb (fh_d d_Mo_deliver 185 rfl) rfl hl (by decide) rfl (fun ls hl => ?_)
                    refine lv_goto (tgt := 4) hx hb (fh_d d_Mo_deliver 186 rfl) rfl ?_
                    rw [nI_pred] at hP
                    have q9 : rf_del (t + 1 + 1) B k = rf_del (t + 1) (rf_dx B (t + 1) k) (ixI (B 17 (t + 1))) := by
                      show (if _ then _ else _) = _
                      rw [if_neg qn, if_neg qs, if_neg qf]
                    have q8 : rf_dx B (t + 1) k = up2 (up2 (up2 B 14 (upd (B 14) k ((B 17) (t + 1)))) 10 (upd (B 10) (ixI (B 17 (t + 1))) (nI k))) 11 (upd (B 11) (ixI (B 17 (t + 1))) ((B 11) (ixI (B 17 (t + 1))))) := by
                      unfold rf_dx
                      rw [if_pos (Classical.not_not.mp (fun z => z c27)), if_neg c29]
                      rfl
                    rw [← q8] at hP
                    have hl := lv_sub hl [0, 1, 4] (l' := [(3, .int 1), (2, .int (B 17 (t + 1))), (0, .ref x)]) rfl
                    rw [g1] at hl
                    exact ih (rf_dx B (t + 1) k) (ixI (B 17 (t + 1))) (by omega) g2 ⟨fun j hj => hfB.1 j (by omega), hfB.2⟩ (q9.symm.trans hres) H _ _ hP hS hl
                  · refine lv_iload_n hx hb (fh_d d_Mo_deliver 169 rfl) rfl (lv_at hl 3 rfl) ?_
                    refine lv_goto (tgt := 309) hx hb (fh_d d_Mo_deliver 170 rfl) rfl ?_
                    refine fn_iast (f := B 11) (k := ixI (B 17 (t + 1))) hx hb hK hP hS 0 mkM_a11 rfl (g1) (g2) (by decide) (fh_d d_Mo_deliver 175 rfl) (fun H locs hP hS => ?_)
                    replace hP := fh_P.eq (h' := mkM ct x g (up2 (up2 (up2 B 14 (upd (B 14) k ((B 17) (t + 1)))) 10 (upd (B 10) (ixI (B 17 (t + 1))) (nI k))) 11 (upd (B 11) (ixI (B 17 (t + 1))) (nI k))) th co at_ wr no nu (nI (t + 1 + 1)) pi wi he de) hP mkM_u11
                    refine lv_aload_n hx hb (fh_d d_Mo_deliver 176 rfl) rfl (lv_at hl 4 rfl) ?_
                    refine lv_dup hx hb (fh_d d_Mo_deliver 177 rfl) rfl ?_
                    refine fh_get (own := "FormulaSetterModel") (ref := "FormulaSetterModel") (C := "FormulaSetterModel") (T := T_Mo) (N := 53) (v := .int (nI (t + 1 + 1))) hx hb hT i_Mo hown hK hP mkM_o rfl 22 (by decide) (hT _ w882) (fun _ h9 => h9) rfl (fh_d d_Mo_deliver 178 rfl) ?_
                    refine lv_iconst (v := 1) hx hb (fh_d d_Mo_deliver 179 rfl) (by decide) ?_
                    refine lv_isub hx hb (fh_d d_Mo_deliver 180 rfl) ?_
                    refine fh_put (own := "FormulaSetterModel") (ref := "FormulaSetterModel") (C := "FormulaSetterModel") (T := T_Mo) (N := 53) (v := .int ((nI (t + 1 + 1)) - 1)) (ty := .int) hx hb hT i_Mo t_Mo k_Mo n_Mo hown hK hP hS mkM_o rfl 22 (by decide) (hT _ w882) (fun _ h9 => h9) rfl (by decide +kernel) rfl rfl (Nat.le_of_ble_eq_true rfl) (fh_d d_Mo_deliver 181 rfl) (fun H locs hP hS => ?_)
                    replace hP := fh_P.eq (h' := mkM ct x g (up2 (up2 (up2 B 14 (upd (B 14) k ((B 17) (t + 1)))) 10 (upd (B 10) (ixI (B 17 (t + 1))) (nI k))) 11 (upd (B 11) (ixI (B 17 (t + 1))) (nI k))) th co at_ wr no nu ((nI (t + 1 + 1)) - 1) pi wi he de) hP mkM_ux
                    refine lv_iload hx hb (fh_d d_Mo_deliver 182 rfl) (lv_at hl 0 rfl) ?_
                    refine lv_istore_n (lv' := [(2, .int ((B 17) (t + 1))), (5, .int ((B 17) (t + 1))), (3, .int 0), (4, .int ((nI (t + 1 + 1)) - 1)), (0, .ref x)]) hx hb (fh_d d_Mo_deliver 183 rfl) rfl hl (by decide) rfl (fun ls hl => ?_)
                    refine lv_iconst (v := 1) hx hb (fh_d d_Mo_deliver 184 rfl) (by decide) ?_
                    refine lv_istore_n (lv' := [(3, .int 1), (2, .int ((B 17) (t + 1))), (5, .int ((B 17) (t + 1))), (4, .int ((nI (t + 1 + 1)) - 1)), (0, .ref x)]) hx hb (fh_d d_Mo_deliver 185 rfl) rfl hl (by decide) rfl (fun ls hl => ?_)
                    refine lv_goto (tgt := 4) hx hb (fh_d d_Mo_deliver 186 rfl) rfl ?_
                    rw [nI_pred] at hP
                    have q9 : rf_del (t + 1 + 1) B k = rf_del (t + 1) (rf_dx B (t + 1) k) (ixI (B 17 (t + 1))) := by
                      show (if _ then _ else _) = _
                      rw [if_neg qn, if_neg qs, if_neg qf]
                    have q8 : rf_dx B (t + 1) k = up2 (up2 (up2 B 14 (upd (B 14) k ((B 17) (t + 1)))) 10 (upd (B 10) (ixI (B 17 (t + 1))) (nI k))) 11 (upd (B 11) (ixI (B 17 (t + 1))) (nI k)) := by
                      unfold rf_dx
                      rw [if_pos (Classical.not_not.mp (fun z => z c27)), if_pos (Classical.not_not.mp (fun z => z c29))]
                      rfl
                    rw [← q8] at hP
                    have hl := lv_sub hl [0, 1, 4] (l' := [(3, .int 1), (2, .int (B 17 (t + 1))), (0, .ref x)]) rfl
                    rw [g1] at hl
                    exact ih (rf_dx B (t + 1) k) (ixI (B 17 (t + 1))) (by omega) g2 ⟨fun j hj => hfB.1 j (by omega), hfB.2⟩ (q9.symm.trans hres) H _ _ hP hS hl
              · refine lv_aload_n hx hb (fh_d d_Mo_deliver 133 rfl) rfl (lv_at hl 4 rfl) ?_
                refine fh_get (own := "FormulaSetterModel") (ref := "FormulaSetterModel") (C := "FormulaSetterModel") (T := T_Mo) (N := 53) (v := .ref (x + 11)) hx hb hT i_Mo hown hK hP mkM_o rfl 16 (by decide) (hT _ w876) (fun _ h9 => h9) rfl (fh_d d_Mo_deliver 134 rfl) ?_
                refine lv_iload hx hb (fh_d d_Mo_deliver 135 rfl) (lv_at hl 0 rfl) ?_
                refine lv_iload_n hx hb (fh_d d_Mo_deliver 136 rfl) rfl (lv_at hl 3 rfl) ?_
                refine fn_iast (f := B 10) (k := ixI (B 17 (t + 1))) hx hb hK hP hS 0 mkM_a10 rfl (g1) (g2) (by decide) (fh_d d_Mo_deliver 137 rfl) (fun H locs hP hS => ?_)
                replace hP := fh_P.eq (h' := mkM ct x g (up2 (up2 B 14 (upd (B 14) k ((B 17) (t + 1)))) 10 (upd (B 10) (ixI (B 17 (t + 1))) (nI k))) th co at_ wr no nu (nI (t + 1 + 1)) pi wi he de) hP mkM_u10
                refine lv_aload_n hx hb (fh_d d_Mo_deliver 138 rfl) rfl (lv_at hl 4 rfl) ?_
                refine fh_get (own := "FormulaSetterModel") (ref := "FormulaSetterModel") (C := "FormulaSetterModel") (T := T_Mo) (N := 53) (v := .ref (x + 17)) hx hb hT i_Mo hown hK hP mkM_o rfl 23 (by decide) (hT _ w883) (fun _ h9 => h9) rfl (fh_d d_Mo_deliver 139 rfl) ?_
                refine lv_iload hx hb (fh_d d_Mo_deliver 140 rfl) (lv_at hl 2 rfl) ?_
                refine lv_iconst (v := 5) hx hb (fh_d d_Mo_deliver 141 rfl) (by decide) ?_
                refine fn_iast (f := B 16) (k := (t + 1)) hx hb hK hP hS 0 mkM_a16 rfl (nI_pred _) (by omega) (by decide) (fh_d d_Mo_deliver 142 rfl) (fun H locs hP hS => ?_)
                replace hP := fh_P.eq (h' := mkM ct x g (up2 (up2 (up2 B 14 (upd (B 14) k ((B 17) (t + 1)))) 10 (upd (B 10) (ixI (B 17 (t + 1))) (nI k))) 16 (upd (B 16) (t + 1) 5)) th co at_ wr no nu (nI (t + 1 + 1)) pi wi he de) hP mkM_u16
                refine lv_goto (tgt := 325) hx hb (fh_d d_Mo_deliver 143 rfl) rfl ?_
                refine lv_goto (tgt := 4) hx hb (fh_d d_Mo_deliver 186 rfl) rfl ?_
                refine lv_iload_n hx hb (fh_d d_Mo_deliver 4 rfl) rfl (lv_at hl 1 rfl) ?_
                refine lv_if_eq (tgt := 328) hx hb (fh_d d_Mo_deliver 5 rfl) rfl (fun c30 => ?_) (fun c30 => absurd c30 (Classical.not_not.mpr rfl))
                have q9 : rf_del (t + 1 + 1) B k = (rf_df B (t + 1) k, (t + 1 + 1)) := by
                  show (if _ then _ else _) = _
                  rw [if_neg qn, if_neg qs, if_pos ⟨Classical.not_not.mp (fun z => z c22), Classical.not_not.mp (fun z => z c26)⟩]
                rw [hres] at q9
                refine fh_vret X hP hS (fh_d d_Mo_deliver 187 rfl) ⟨rfl, ?_, rfl⟩
                rw [q9]
                rfl
          · have q6 : B 16 (t + 1) = 7 := Classical.not_not.mp (fun z => z c21)
            refine lv_aload_n hx hb (fh_d d_Mo_deliver 77 rfl) rfl (lv_at hl 4 rfl) ?_
            refine fh_get (own := "FormulaSetterModel") (ref := "FormulaSetterModel") (C := "FormulaSetterModel") (T := T_Mo) (N := 53) (v := .ref (x + 16)) hx hb hT i_Mo hown hK hP mkM_o rfl 21 (by decide) (hT _ w881) (fun _ h9 => h9) rfl (fh_d d_Mo_deliver 78 rfl) ?_
            refine lv_iload_n hx hb (fh_d d_Mo_deliver 79 rfl) rfl (lv_at hl 3 rfl) ?_
            refine lv_iconst (v := 1) hx hb (fh_d d_Mo_deliver 80 rfl) (by decide) ?_
            refine fn_zast (f := B 15) (k := k) hx hb hK hP hS 3 mkM_a15 rfl (rfl) (hk) (by decide) (by decide) (fh_d d_Mo_deliver 81 rfl) (fun H locs hP hS => ?_)
            replace hP := fh_P.eq (h' := mkM ct x g (up2 (up2 B 14 (upd (B 14) k ((B 17) (t + 1)))) 15 (upd (B 15) k 1)) th co at_ wr no nu (nI (t + 1 + 1)) pi wi he de) hP mkM_u15
            refine lv_aload_n hx hb (fh_d d_Mo_deliver 82 rfl) rfl (lv_at hl 4 rfl) ?_
            refine fh_get (own := "FormulaSetterModel") (ref := "FormulaSetterModel") (C := "FormulaSetterModel") (T := T_Mo) (N := 53) (v := .ref (x + 13)) hx hb hT i_Mo hown hK hP mkM_o rfl 18 (by decide) (hT _ w878) (fun _ h9 => h9) rfl (fh_d d_Mo_deliver 83 rfl) ?_
            refine lv_iload hx hb (fh_d d_Mo_deliver 84 rfl) (lv_at hl 0 rfl) ?_
            refine lv_aload_n hx hb (fh_d d_Mo_deliver 85 rfl) rfl (lv_at hl 4 rfl) ?_
            refine fh_get (own := "FormulaSetterModel") (ref := "FormulaSetterModel") (C := "FormulaSetterModel") (T := T_Mo) (N := 53) (v := .ref (x + 17)) hx hb hT i_Mo hown hK hP mkM_o rfl 23 (by decide) (hT _ w883) (fun _ h9 => h9) rfl (fh_d d_Mo_deliver 86 rfl) ?_
            refine lv_iload hx hb (fh_d d_Mo_deliver 87 rfl) (lv_at hl 2 rfl) ?_
            refine fn_iald (f := B 16) (k := (t + 1)) hx hb hK hP 0 mkM_a16 rfl (nI_pred _) (by omega) (by decide) (fh_d d_Mo_deliver 88 rfl) ?_
            refine lv_bipush (v := 6) hx hb (fh_d d_Mo_deliver 89 rfl) (by decide) ?_
            refine lv_icmp_ne (tgt := 160) hx hb (fh_d d_Mo_deliver 90 rfl) rfl (fun c31 => ?_) (fun c31 => absurd c31 (by rw [q6]; decide))
            refine lv_aload_n hx hb (fh_d d_Mo_deliver 93 rfl) rfl (lv_at hl 4 rfl) ?_
            refine fh_get (own := "FormulaSetterModel") (ref := "FormulaSetterModel") (C := "FormulaSetterModel") (T := T_Mo) (N := 53) (v := .ref (x + 13)) hx hb hT i_Mo hown hK hP mkM_o rfl 18 (by decide) (hT _ w878) (fun _ h9 => h9) rfl (fh_d d_Mo_deliver 94 rfl) ?_
            refine lv_iload hx hb (fh_d d_Mo_deliver 95 rfl) (lv_at hl 0 rfl) ?_
            refine fn_iald (f := B 12) (k := ixI (B 17 (t + 1))) hx hb hK hP 0 mkM_a12 rfl (g1) (g2) (by decide) (fh_d d_Mo_deliver 96 rfl) ?_
            refine fn_iast (f := B 12) (k := ixI (B 17 (t + 1))) hx hb hK hP hS 0 mkM_a12 rfl (g1) (g2) (by decide) (fh_d d_Mo_deliver 97 rfl) (fun H locs hP hS => ?_)
            replace hP := fh_P.eq (h' := mkM ct x g (up2 (up2 (up2 B 14 (upd (B 14) k ((B 17) (t + 1)))) 15 (upd (B 15) k 1)) 12 (upd (B 12) (ixI (B 17 (t + 1))) ((B 12) (ixI (B 17 (t + 1)))))) th co at_ wr no nu (nI (t + 1 + 1)) pi wi he de) hP mkM_u12
            refine lv_aload_n hx hb (fh_d d_Mo_deliver 98 rfl) rfl (lv_at hl 4 rfl) ?_
            refine fh_get (own := "FormulaSetterModel") (ref := "FormulaSetterModel") (C := "FormulaSetterModel") (T := T_Mo) (N := 53) (v := .ref (x + 14)) hx hb hT i_Mo hown hK hP mkM_o rfl 19 (by decide) (hT _ w879) (fun _ h9 => h9) rfl (fh_d d_Mo_deliver 99 rfl) ?_
            refine lv_iload hx hb (fh_d d_Mo_deliver 100 rfl) (lv_at hl 0 rfl) ?_
            refine lv_aload_n hx hb (fh_d d_Mo_deliver 101 rfl) rfl (lv_at hl 4 rfl) ?_
            refine fh_get (own := "FormulaSetterModel") (ref := "FormulaSetterModel") (C := "FormulaSetterModel") (T := T_Mo) (N := 53) (v := .ref (x + 17)) hx hb hT i_Mo hown hK hP mkM_o rfl 23 (by decide) (hT _ w883) (fun _ h9 => h9) rfl (fh_d d_Mo_deliver 102 rfl) ?_
            refine lv_iload hx hb (fh_d d_Mo_deliver 103 rfl) (lv_at hl 2 rfl) ?_
            refine fn_iald (f := B 16) (k := (t + 1)) hx hb hK hP 0 mkM_a16 rfl (nI_pred _) (by omega) (by decide) (fh_d d_Mo_deliver 104 rfl) ?_
            refine lv_bipush (v := 7) hx hb (fh_d d_Mo_deliver 105 rfl) (by decide) ?_
            refine lv_icmp_ne (tgt := 190) hx hb (fh_d d_Mo_deliver 106 rfl) rfl (fun c32 => absurd c32 (Classical.not_not.mpr q6)) (fun c32 => ?_)
            refine lv_iload_n hx hb (fh_d d_Mo_deliver 107 rfl) rfl (lv_at hl 3 rfl) ?_
            refine lv_goto (tgt := 197) hx hb (fh_d d_Mo_deliver 108 rfl) rfl ?_
            refine fn_iast (f := B 13) (k := ixI (B 17 (t + 1))) hx hb hK hP hS 0 mkM_a13 rfl (g1) (g2) (by decide) (fh_d d_Mo_deliver 113 rfl) (fun H locs hP hS => ?_)
            replace hP := fh_P.eq (h' := mkM ct x g (up2 (up2 (up2 (up2 B 14 (upd (B 14) k ((B 17) (t + 1)))) 15 (upd (B 15) k 1)) 12 (upd (B 12) (ixI (B 17 (t + 1))) ((B 12) (ixI (B 17 (t + 1)))))) 13 (upd (B 13) (ixI (B 17 (t + 1))) (nI k))) th co at_ wr no nu (nI (t + 1 + 1)) pi wi he de) hP mkM_u13
            refine lv_aload_n hx hb (fh_d d_Mo_deliver 114 rfl) rfl (lv_at hl 4 rfl) ?_
            refine lv_dup hx hb (fh_d d_Mo_deliver 115 rfl) rfl ?_
            refine fh_get (own := "FormulaSetterModel") (ref := "FormulaSetterModel") (C := "FormulaSetterModel") (T := T_Mo) (N := 53) (v := .int (nI (t + 1 + 1))) hx hb hT i_Mo hown hK hP mkM_o rfl 22 (by decide) (hT _ w882) (fun _ h9 => h9) rfl (fh_d d_Mo_deliver 116 rfl) ?_
            refine lv_iconst (v := 1) hx hb (fh_d d_Mo_deliver 117 rfl) (by decide) ?_
            refine lv_isub hx hb (fh_d d_Mo_deliver 118 rfl) ?_
            refine fh_put (own := "FormulaSetterModel") (ref := "FormulaSetterModel") (C := "FormulaSetterModel") (T := T_Mo) (N := 53) (v := .int ((nI (t + 1 + 1)) - 1)) (ty := .int) hx hb hT i_Mo t_Mo k_Mo n_Mo hown hK hP hS mkM_o rfl 22 (by decide) (hT _ w882) (fun _ h9 => h9) rfl (by decide +kernel) rfl rfl (Nat.le_of_ble_eq_true rfl) (fh_d d_Mo_deliver 119 rfl) (fun H locs hP hS => ?_)
            replace hP := fh_P.eq (h' := mkM ct x g (up2 (up2 (up2 (up2 B 14 (upd (B 14) k ((B 17) (t + 1)))) 15 (upd (B 15) k 1)) 12 (upd (B 12) (ixI (B 17 (t + 1))) ((B 12) (ixI (B 17 (t + 1)))))) 13 (upd (B 13) (ixI (B 17 (t + 1))) (nI k))) th co at_ wr no nu ((nI (t + 1 + 1)) - 1) pi wi he de) hP mkM_ux
            refine lv_goto (tgt := 325) hx hb (fh_d d_Mo_deliver 120 rfl) rfl ?_
            refine lv_goto (tgt := 4) hx hb (fh_d d_Mo_deliver 186 rfl) rfl ?_
            refine lv_iload_n hx hb (fh_d d_Mo_deliver 4 rfl) rfl (lv_at hl 1 rfl) ?_
            refine lv_if_eq (tgt := 328) hx hb (fh_d d_Mo_deliver 5 rfl) rfl (fun c33 => ?_) (fun c33 => absurd c33 (Classical.not_not.mpr rfl))
            have q9 : rf_del (t + 1 + 1) B k = (rf_ds B (t + 1) k, (t + 1)) := by
              show (if _ then _ else _) = _
              rw [if_neg qn, if_pos (Or.inr q6)]
            rw [hres] at q9
            refine fh_vret X hP hS (fh_d d_Mo_deliver 187 rfl) ⟨rfl, ?_, rfl⟩
            rw [q9]
            rw [nI_pred]
            unfold rf_ds
            rw [q6]
            rfl
      · refine lv_aload_n hx hb (fh_d d_Mo_deliver 19 rfl) rfl (lv_at hl 3 rfl) ?_
        refine fh_get (own := "FormulaSetterModel") (ref := "FormulaSetterModel") (C := "FormulaSetterModel") (T := T_Mo) (N := 53) (v := .ref (x + 15)) hx hb hT i_Mo hown hK hP mkM_o rfl 20 (by decide) (hT _ w880) (fun _ h9 => h9) rfl (fh_d d_Mo_deliver 20 rfl) ?_
        refine lv_iload_n hx hb (fh_d d_Mo_deliver 21 rfl) rfl (lv_at hl 2 rfl) ?_
        refine lv_aload_n hx hb (fh_d d_Mo_deliver 22 rfl) rfl (lv_at hl 3 rfl) ?_
        refine fh_get (own := "FormulaSetterModel") (ref := "FormulaSetterModel") (C := "FormulaSetterModel") (T := T_Mo) (N := 53) (v := .ref (x + 19)) hx hb hT i_Mo hown hK hP mkM_o rfl 25 (by decide) (hT _ w885) (fun _ h9 => h9) rfl (fh_d d_Mo_deliver 23 rfl) ?_
        refine lv_iload hx hb (fh_d d_Mo_deliver 24 rfl) (lv_at hl 1 rfl) ?_
        refine fn_iald (f := B 18) (k := (t + 1)) hx hb hK hP 0 mkM_a18 rfl (nI_pred _) (by omega) (by decide) (fh_d d_Mo_deliver 25 rfl) ?_
        refine fn_iast (f := B 14) (k := k) hx hb hK hP hS 0 mkM_a14 rfl (rfl) (hk) (by decide) (fh_d d_Mo_deliver 26 rfl) (fun H locs hP hS => ?_)
        replace hP := fh_P.eq (h' := mkM ct x g (up2 B 14 (upd (B 14) k ((B 18) (t + 1)))) th co at_ wr no nu (nI (t + 1 + 1)) pi wi he de) hP mkM_u14
        refine lv_aload_n hx hb (fh_d d_Mo_deliver 27 rfl) rfl (lv_at hl 3 rfl) ?_
        refine fh_get (own := "FormulaSetterModel") (ref := "FormulaSetterModel") (C := "FormulaSetterModel") (T := T_Mo) (N := 53) (v := .ref (x + 20)) hx hb hT i_Mo hown hK hP mkM_o rfl 26 (by decide) (hT _ w886) (fun _ h9 => h9) rfl (fh_d d_Mo_deliver 28 rfl) ?_
        refine lv_iload hx hb (fh_d d_Mo_deliver 29 rfl) (lv_at hl 1 rfl) ?_
        refine fn_iald (f := B 19) (k := (t + 1)) hx hb hK hP 0 mkM_a19 rfl (nI_pred _) (by omega) (by decide) (fh_d d_Mo_deliver 30 rfl) ?_
        refine lv_if_ne (tgt := 68) hx hb (fh_d d_Mo_deliver 31 rfl) rfl (fun c34 => ?_) (fun c34 => ?_)
        · refine lv_aload_n hx hb (fh_d d_Mo_deliver 41 rfl) rfl (lv_at hl 3 rfl) ?_
          refine fh_get (own := "FormulaSetterModel") (ref := "FormulaSetterModel") (C := "FormulaSetterModel") (T := T_Mo) (N := 53) (v := .ref (x + 8)) hx hb hT i_Mo hown hK hP mkM_o rfl 13 (by decide) (hT _ w873) (fun _ h9 => h9) rfl (fh_d d_Mo_deliver 42 rfl) ?_
          refine lv_aload_n hx hb (fh_d d_Mo_deliver 43 rfl) rfl (lv_at hl 3 rfl) ?_
          refine fh_get (own := "FormulaSetterModel") (ref := "FormulaSetterModel") (C := "FormulaSetterModel") (T := T_Mo) (N := 53) (v := .ref (x + 20)) hx hb hT i_Mo hown hK hP mkM_o rfl 26 (by decide) (hT _ w886) (fun _ h9 => h9) rfl (fh_d d_Mo_deliver 44 rfl) ?_
          refine lv_iload hx hb (fh_d d_Mo_deliver 45 rfl) (lv_at hl 1 rfl) ?_
          refine fn_iald (f := B 19) (k := (t + 1)) hx hb hK hP 0 mkM_a19 rfl (nI_pred _) (by omega) (by decide) (fh_d d_Mo_deliver 46 rfl) ?_
          refine lv_iload_n hx hb (fh_d d_Mo_deliver 47 rfl) rfl (lv_at hl 2 rfl) ?_
          refine fn_iast (f := B 7) (k := ixI (B 19 (t + 1))) hx hb hK hP hS 0 mkM_a7 rfl (g5) (g6) (by decide) (fh_d d_Mo_deliver 48 rfl) (fun H locs hP hS => ?_)
          replace hP := fh_P.eq (h' := mkM ct x g (up2 (up2 B 14 (upd (B 14) k ((B 18) (t + 1)))) 7 (upd (B 7) (ixI (B 19 (t + 1))) (nI k))) th co at_ wr no nu (nI (t + 1 + 1)) pi wi he de) hP mkM_u7
          refine lv_aload_n hx hb (fh_d d_Mo_deliver 49 rfl) rfl (lv_at hl 3 rfl) ?_
          refine fh_get (own := "FormulaSetterModel") (ref := "FormulaSetterModel") (C := "FormulaSetterModel") (T := T_Mo) (N := 53) (v := .ref (x + 20)) hx hb hT i_Mo hown hK hP mkM_o rfl 26 (by decide) (hT _ w886) (fun _ h9 => h9) rfl (fh_d d_Mo_deliver 50 rfl) ?_
          refine lv_iload hx hb (fh_d d_Mo_deliver 51 rfl) (lv_at hl 1 rfl) ?_
          refine lv_iload_n hx hb (fh_d d_Mo_deliver 52 rfl) rfl (lv_at hl 2 rfl) ?_
          refine fn_iast (f := B 19) (k := (t + 1)) hx hb hK hP hS 0 mkM_a19 rfl (nI_pred _) (by omega) (by decide) (fh_d d_Mo_deliver 53 rfl) (fun H locs hP hS => ?_)
          replace hP := fh_P.eq (h' := mkM ct x g (up2 (up2 (up2 B 14 (upd (B 14) k ((B 18) (t + 1)))) 7 (upd (B 7) (ixI (B 19 (t + 1))) (nI k))) 19 (upd (B 19) (t + 1) (nI k))) th co at_ wr no nu (nI (t + 1 + 1)) pi wi he de) hP mkM_u19
          have q9 : rf_del (t + 1 + 1) B k = (rf_dl B (t + 1) k, (t + 1 + 1)) := by
            show (if _ then _ else _) = _
            rw [if_pos (Int32.not_lt.mp c16)]
          rw [hres] at q9
          refine fh_vret X hP hS (fh_d d_Mo_deliver 54 rfl) ⟨rfl, ?_, rfl⟩
          rw [q9]
          unfold rf_dl
          rw [if_neg c34]
          rfl
        · refine lv_aload_n hx hb (fh_d d_Mo_deliver 32 rfl) rfl (lv_at hl 3 rfl) ?_
          refine fh_get (own := "FormulaSetterModel") (ref := "FormulaSetterModel") (C := "FormulaSetterModel") (T := T_Mo) (N := 53) (v := .ref (x + 7)) hx hb hT i_Mo hown hK hP mkM_o rfl 12 (by decide) (hT _ w872) (fun _ h9 => h9) rfl (fh_d d_Mo_deliver 33 rfl) ?_
          refine lv_aload_n hx hb (fh_d d_Mo_deliver 34 rfl) rfl (lv_at hl 3 rfl) ?_
          refine fh_get (own := "FormulaSetterModel") (ref := "FormulaSetterModel") (C := "FormulaSetterModel") (T := T_Mo) (N := 53) (v := .ref (x + 19)) hx hb hT i_Mo hown hK hP mkM_o rfl 25 (by decide) (hT _ w885) (fun _ h9 => h9) rfl (fh_d d_Mo_deliver 35 rfl) ?_
          refine lv_iload hx hb (fh_d d_Mo_deliver 36 rfl) (lv_at hl 1 rfl) ?_
          refine fn_iald (f := B 18) (k := (t + 1)) hx hb hK hP 0 mkM_a18 rfl (nI_pred _) (by omega) (by decide) (fh_d d_Mo_deliver 37 rfl) ?_
          refine lv_iload_n hx hb (fh_d d_Mo_deliver 38 rfl) rfl (lv_at hl 2 rfl) ?_
          refine fn_iast (f := B 6) (k := ixI (B 18 (t + 1))) hx hb hK hP hS 0 mkM_a6 rfl (g3) (g4) (by decide) (fh_d d_Mo_deliver 39 rfl) (fun H locs hP hS => ?_)
          replace hP := fh_P.eq (h' := mkM ct x g (up2 (up2 B 14 (upd (B 14) k ((B 18) (t + 1)))) 6 (upd (B 6) (ixI (B 18 (t + 1))) (nI k))) th co at_ wr no nu (nI (t + 1 + 1)) pi wi he de) hP mkM_u6
          refine lv_goto (tgt := 81) hx hb (fh_d d_Mo_deliver 40 rfl) rfl ?_
          refine lv_aload_n hx hb (fh_d d_Mo_deliver 49 rfl) rfl (lv_at hl 3 rfl) ?_
          refine fh_get (own := "FormulaSetterModel") (ref := "FormulaSetterModel") (C := "FormulaSetterModel") (T := T_Mo) (N := 53) (v := .ref (x + 20)) hx hb hT i_Mo hown hK hP mkM_o rfl 26 (by decide) (hT _ w886) (fun _ h9 => h9) rfl (fh_d d_Mo_deliver 50 rfl) ?_
          refine lv_iload hx hb (fh_d d_Mo_deliver 51 rfl) (lv_at hl 1 rfl) ?_
          refine lv_iload_n hx hb (fh_d d_Mo_deliver 52 rfl) rfl (lv_at hl 2 rfl) ?_
          refine fn_iast (f := B 19) (k := (t + 1)) hx hb hK hP hS 0 mkM_a19 rfl (nI_pred _) (by omega) (by decide) (fh_d d_Mo_deliver 53 rfl) (fun H locs hP hS => ?_)
          replace hP := fh_P.eq (h' := mkM ct x g (up2 (up2 (up2 B 14 (upd (B 14) k ((B 18) (t + 1)))) 6 (upd (B 6) (ixI (B 18 (t + 1))) (nI k))) 19 (upd (B 19) (t + 1) (nI k))) th co at_ wr no nu (nI (t + 1 + 1)) pi wi he de) hP mkM_u19
          have q9 : rf_del (t + 1 + 1) B k = (rf_dl B (t + 1) k, (t + 1 + 1)) := by
            show (if _ then _ else _) = _
            rw [if_pos (Int32.not_lt.mp c16)]
          rw [hres] at q9
          refine fh_vret X hP hS (fh_d d_Mo_deliver 54 rfl) ⟨rfl, ?_, rfl⟩
          rw [q9]
          unfold rf_dl
          rw [if_pos (Classical.not_not.mp (fun z => z c34))]
          rfl
  refine lv_iload_n hx hb (fh_d d_Mo_deliver 0 rfl) rfl (lv_at hl 1 rfl) ?_
  refine lv_istore_n (lv' := [(2, .int (nI n0)), (0, .ref x), (1, .int (nI n0))]) hx hb (fh_d d_Mo_deliver 1 rfl) rfl hl (by decide) rfl (fun ls hl => ?_)
  refine lv_iconst (v := 1) hx hb (fh_d d_Mo_deliver 2 rfl) (by decide) ?_
  refine lv_istore_n (lv' := [(3, .int 1), (2, .int (nI n0)), (0, .ref x), (1, .int (nI n0))]) hx hb (fh_d d_Mo_deliver 3 rfl) rfl hl (by decide) rfl (fun ls hl => ?_)
  obtain ⟨t, rfl⟩ : ∃ t, O = t + 1 := ⟨O - 1, by omega⟩
  have hl := lv_sub hl [0, 1, 2] (l' := [(3, .int 1), (2, .int (nI n0)), (0, .ref x)]) rfl
  exact loop t A n0 hO2 hn0 hf rfl H _ _ hP hS hl
