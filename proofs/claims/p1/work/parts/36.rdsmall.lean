/-! The Reader: peek, take, seesRowEnd, clear, fresh. Printed by wip/whole/gen/p36.py -/
set_option maxHeartbeats 4000000 in
set_option maxRecDepth 100000 in
theorem m_Rd_peek (l : Launch) (D : va_G) (ct : Nat → ClassId) (b : Nat) (RO : State → Prop) (r : Nat) (n x : Nat) (kA aA : Nat → Nat) (g : fh_H) (C : Nat → Nat → Int32) (R : Nat → Nat → Option Nat) (CL : Nat → Nat → Int32) (RL : Nat → Nat → Option Nat) (nc lc : Int32) (f : Nat → Int32) (L a : Nat) (hL : L ≤ 160) (ha : a ≤ 400) (hg1 : g (x + 1) = some (.inl (ct 1, 160, .inl f))) (hf : ∀ j, f j = (nI (ixI (f j))) ∧ ixI (f j) < 256) : fh_C l D fh_cl (fh_tys ct) b RO y_Rd_peek (Cond.code y_Rd_peek c_Rd_peek 1 (Option.some FieldType.char) :: fh_T) (fh_rm r 0 0) [.ref (x + 2)] (mkR x kA aA g nc lc (.ref (x + 1)) (nI L) (nI a) C R CL RL) n (fun v h' n' => v = some (.int (hre f L (sk f L a))) ∧ h' = mkR x kA aA g nc lc (.ref (x + 1)) (nI L) (nI (sk f L a)) C R CL RL ∧ n' = n) 0 0 := by
  refine fh_enter (by decide) (Nat.le_of_ble_eq_true rfl) [(0, .ref (x + 2))] rfl ?_
  intro p e s m args below meth c H ls X hP hS hl
  have hx := X.1
  have hb := X.2.1
  have hml := X.2.2.1
  have hown : s.vm.findClass "FormulaSetter$Reader" = some m.cls := X.2.2.2.1
  have hT := X.2.2.2.2.1
  have hK := X.2.2.2.2.2.1
  have hRO := X.2.2.2.2.2.2.1
  have hnm : meth.name = "peek" := X.2.2.2.2.2.2.2.2.2.2
  have loop : ∀ (k a0 : Nat), L - a0 = k → a0 ≤ 400 → sk f L a0 = sk f L a → ∀ (H : Heap) (locs : List Loc) (ls : Array Slot), fh_P D fh_cl b (mkR x kA aA g nc lc (.ref (x + 1)) (nI L) (nI a0) C R CL RL) n H → va_S (fh_A b) s.heap H locs → lv_has ls 1 [(0, .ref (x + 2))] → W p l e (fh_rm r 0 0) s m args below meth c H locs 0 0 (MQ below (fh_Post D fh_cl b (fun v h' n' => v = some (.int (hre f L (sk f L a))) ∧ h' = mkR x kA aA g nc lc (.ref (x + 1)) (nI L) (nI (sk f L a)) C R CL RL ∧ n' = n)) args s 0 0 (fh_A b)) (F0 m 0 ls []) := by
    intro k
    induction k with
    | zero =>
      intro a0 hak ha0 hsk H locs ls hP hS hl
      refine lv_aload_n hx hb (fh_d d_Rd_peek 0 rfl) rfl (lv_at hl 0 rfl) ?_
      refine fh_get (own := "FormulaSetter$Reader") (ref := "FormulaSetter$Reader") (C := "FormulaSetter$Reader") (T := T_Rd) (N := 7) (v := .int (nI a0)) hx hb hT i_Rd hown hK hP mkR_rd rfl 6 (by decide) (hT _ w186) (fun _ h9 => h9) (rfl) (fh_d d_Rd_peek 1 rfl) ?_
      refine lv_aload_n hx hb (fh_d d_Rd_peek 2 rfl) rfl (lv_at hl 0 rfl) ?_
      refine fh_get (own := "FormulaSetter$Reader") (ref := "FormulaSetter$Reader") (C := "FormulaSetter$Reader") (T := T_Rd) (N := 7) (v := .int (nI L)) hx hb hT i_Rd hown hK hP mkR_rd rfl 5 (by decide) (hT _ w185) (fun _ h9 => h9) (rfl) (fh_d d_Rd_peek 3 rfl) ?_
      refine lv_icmp_ge (tgt := 38) hx hb (fh_d d_Rd_peek 4 rfl) rfl (fun c1 => ?_) (fun c1 => ?_)
      · have qlt : ¬ a0 < L := by have := (nI_leI (a := L) (b := a0) (by omega) (by omega)).mp c1; omega
        have qs : sk f L a0 = a0 := sk_n (fun z => qlt z.1)
        refine lv_aload_n hx hb (fh_d d_Rd_peek 19 rfl) rfl (lv_at hl 0 rfl) ?_
        refine fh_get (own := "FormulaSetter$Reader") (ref := "FormulaSetter$Reader") (C := "FormulaSetter$Reader") (T := T_Rd) (N := 7) (v := .int (nI a0)) hx hb hT i_Rd hown hK hP mkR_rd rfl 6 (by decide) (hT _ w186) (fun _ h9 => h9) (rfl) (fh_d d_Rd_peek 20 rfl) ?_
        refine lv_aload_n hx hb (fh_d d_Rd_peek 21 rfl) rfl (lv_at hl 0 rfl) ?_
        refine fh_get (own := "FormulaSetter$Reader") (ref := "FormulaSetter$Reader") (C := "FormulaSetter$Reader") (T := T_Rd) (N := 7) (v := .int (nI L)) hx hb hT i_Rd hown hK hP mkR_rd rfl 5 (by decide) (hT _ w185) (fun _ h9 => h9) (rfl) (fh_d d_Rd_peek 22 rfl) ?_
        refine lv_icmp_ge (tgt := 61) hx hb (fh_d d_Rd_peek 23 rfl) rfl (fun c2 => ?_) (fun c2 => absurd c2 (fun c9 => c2 ((nI_leI (a := L) (b := a0) (by omega) (by omega)).mpr (by omega))))
        refine lv_iconst (v := 0) hx hb (fh_d d_Rd_peek 30 rfl) (by decide) ?_
        refine fh_zret X hP hS (fh_d d_Rd_peek 31 rfl) ?_ ⟨?_, by rw [← hsk, qs], rfl⟩
        · rfl
        · rw [← hsk, qs]; unfold hre; rw [if_neg qlt]
      · have qlt : a0 < L := Nat.not_le.mp fun q => c1 ((nI_leI (a := L) (b := a0) (by omega) (by omega)).mpr q)
        refine lv_aload_n hx hb (fh_d d_Rd_peek 5 rfl) rfl (lv_at hl 0 rfl) ?_
        refine fh_get (own := "FormulaSetter$Reader") (ref := "FormulaSetter$Reader") (C := "FormulaSetter$Reader") (T := T_Rd) (N := 7) (v := .ref (x + 1)) hx hb hT i_Rd hown hK hP mkR_rd rfl 4 (by decide) (hT _ w184) (fun _ h9 => h9) (rfl) (fh_d d_Rd_peek 6 rfl) ?_
        refine lv_aload_n hx hb (fh_d d_Rd_peek 7 rfl) rfl (lv_at hl 0 rfl) ?_
        refine fh_get (own := "FormulaSetter$Reader") (ref := "FormulaSetter$Reader") (C := "FormulaSetter$Reader") (T := T_Rd) (N := 7) (v := .int (nI a0)) hx hb hT i_Rd hown hK hP mkR_rd rfl 6 (by decide) (hT _ w186) (fun _ h9 => h9) (rfl) (fh_d d_Rd_peek 8 rfl) ?_
        refine fn_cald (f := f) (k := a0) hx hb hK hP 1 ((mkR_g (by omega) (by omega) (by omega)).trans hg1) rfl (rfl) (by omega) (by decide) (fh_d d_Rd_peek 9 rfl) ?_
        refine lv_bipush (v := 32) hx hb (fh_d d_Rd_peek 10 rfl) (by decide) ?_
        refine lv_icmp_ne (tgt := 38) hx hb (fh_d d_Rd_peek 11 rfl) rfl (fun c3 => ?_) (fun c3 => ?_)
        · have qs : sk f L a0 = a0 := sk_n (fun z => c3 z.2)
          refine lv_aload_n hx hb (fh_d d_Rd_peek 19 rfl) rfl (lv_at hl 0 rfl) ?_
          refine fh_get (own := "FormulaSetter$Reader") (ref := "FormulaSetter$Reader") (C := "FormulaSetter$Reader") (T := T_Rd) (N := 7) (v := .int (nI a0)) hx hb hT i_Rd hown hK hP mkR_rd rfl 6 (by decide) (hT _ w186) (fun _ h9 => h9) (rfl) (fh_d d_Rd_peek 20 rfl) ?_
          refine lv_aload_n hx hb (fh_d d_Rd_peek 21 rfl) rfl (lv_at hl 0 rfl) ?_
          refine fh_get (own := "FormulaSetter$Reader") (ref := "FormulaSetter$Reader") (C := "FormulaSetter$Reader") (T := T_Rd) (N := 7) (v := .int (nI L)) hx hb hT i_Rd hown hK hP mkR_rd rfl 5 (by decide) (hT _ w185) (fun _ h9 => h9) (rfl) (fh_d d_Rd_peek 22 rfl) ?_
          refine lv_icmp_ge (tgt := 61) hx hb (fh_d d_Rd_peek 23 rfl) rfl (fun c4 => absurd c4 (fun c9 => absurd ((nI_leI (a := L) (b := a0) (by omega) (by omega)).mp c9) (by omega))) (fun c4 => ?_)
          refine lv_aload_n hx hb (fh_d d_Rd_peek 24 rfl) rfl (lv_at hl 0 rfl) ?_
          refine fh_get (own := "FormulaSetter$Reader") (ref := "FormulaSetter$Reader") (C := "FormulaSetter$Reader") (T := T_Rd) (N := 7) (v := .ref (x + 1)) hx hb hT i_Rd hown hK hP mkR_rd rfl 4 (by decide) (hT _ w184) (fun _ h9 => h9) (rfl) (fh_d d_Rd_peek 25 rfl) ?_
          refine lv_aload_n hx hb (fh_d d_Rd_peek 26 rfl) rfl (lv_at hl 0 rfl) ?_
          refine fh_get (own := "FormulaSetter$Reader") (ref := "FormulaSetter$Reader") (C := "FormulaSetter$Reader") (T := T_Rd) (N := 7) (v := .int (nI a0)) hx hb hT i_Rd hown hK hP mkR_rd rfl 6 (by decide) (hT _ w186) (fun _ h9 => h9) (rfl) (fh_d d_Rd_peek 27 rfl) ?_
          refine fn_cald (f := f) (k := a0) hx hb hK hP 1 ((mkR_g (by omega) (by omega) (by omega)).trans hg1) rfl (rfl) (by omega) (by decide) (fh_d d_Rd_peek 28 rfl) ?_
          refine lv_goto (tgt := 62) hx hb (fh_d d_Rd_peek 29 rfl) rfl ?_
          refine fh_zret X hP hS (fh_d d_Rd_peek 31 rfl) ?_ ⟨?_, by rw [← hsk, qs], rfl⟩
          · rw [(hf a0).1]; exact (pk_charN (Nat.lt_trans (hf a0).2 (by decide))).1
          · rw [← hsk, qs]; unfold hre; rw [if_pos qlt]
        · refine lv_aload_n hx hb (fh_d d_Rd_peek 12 rfl) rfl (lv_at hl 0 rfl) ?_
          refine lv_dup hx hb (fh_d d_Rd_peek 13 rfl) rfl ?_
          refine fh_get (own := "FormulaSetter$Reader") (ref := "FormulaSetter$Reader") (C := "FormulaSetter$Reader") (T := T_Rd) (N := 7) (v := .int (nI a0)) hx hb hT i_Rd hown hK hP mkR_rd rfl 6 (by decide) (hT _ w186) (fun _ h9 => h9) (rfl) (fh_d d_Rd_peek 14 rfl) ?_
          refine lv_iconst (v := 1) hx hb (fh_d d_Rd_peek 15 rfl) (by decide) ?_
          refine lv_iadd hx hb (fh_d d_Rd_peek 16 rfl) ?_
          refine fh_put (own := "FormulaSetter$Reader") (ref := "FormulaSetter$Reader") (C := "FormulaSetter$Reader") (T := T_Rd) (N := 7) (v := .int ((nI a0) + 1)) (ty := .int) hx hb hT i_Rd t_Rd k_Rd n_Rd hown hK hP hS mkR_rd rfl 6 (by decide) (hT _ w186) (fun _ h9 => h9) rfl (by decide +kernel) rfl rfl (Nat.le_of_ble_eq_true rfl) (fh_d d_Rd_peek 17 rfl) (fun H locs hP hS => ?_)
          replace hP := fh_P.eq (h' := mkR x kA aA g nc lc (.ref (x + 1)) (nI L) ((nI a0) + 1) C R CL RL) hP mkR_urd
          refine lv_goto (tgt := 0) hx hb (fh_d d_Rd_peek 18 rfl) rfl ?_
          omega
    | succ k ih =>
      intro a0 hak ha0 hsk H locs ls hP hS hl
      refine lv_aload_n hx hb (fh_d d_Rd_peek 0 rfl) rfl (lv_at hl 0 rfl) ?_
      refine fh_get (own := "FormulaSetter$Reader") (ref := "FormulaSetter$Reader") (C := "FormulaSetter$Reader") (T := T_Rd) (N := 7) (v := .int (nI a0)) hx hb hT i_Rd hown hK hP mkR_rd rfl 6 (by decide) (hT _ w186) (fun _ h9 => h9) (rfl) (fh_d d_Rd_peek 1 rfl) ?_
      refine lv_aload_n hx hb (fh_d d_Rd_peek 2 rfl) rfl (lv_at hl 0 rfl) ?_
      refine fh_get (own := "FormulaSetter$Reader") (ref := "FormulaSetter$Reader") (C := "FormulaSetter$Reader") (T := T_Rd) (N := 7) (v := .int (nI L)) hx hb hT i_Rd hown hK hP mkR_rd rfl 5 (by decide) (hT _ w185) (fun _ h9 => h9) (rfl) (fh_d d_Rd_peek 3 rfl) ?_
      refine lv_icmp_ge (tgt := 38) hx hb (fh_d d_Rd_peek 4 rfl) rfl (fun c5 => ?_) (fun c5 => ?_)
      · have qlt : ¬ a0 < L := by have := (nI_leI (a := L) (b := a0) (by omega) (by omega)).mp c5; omega
        have qs : sk f L a0 = a0 := sk_n (fun z => qlt z.1)
        refine lv_aload_n hx hb (fh_d d_Rd_peek 19 rfl) rfl (lv_at hl 0 rfl) ?_
        refine fh_get (own := "FormulaSetter$Reader") (ref := "FormulaSetter$Reader") (C := "FormulaSetter$Reader") (T := T_Rd) (N := 7) (v := .int (nI a0)) hx hb hT i_Rd hown hK hP mkR_rd rfl 6 (by decide) (hT _ w186) (fun _ h9 => h9) (rfl) (fh_d d_Rd_peek 20 rfl) ?_
        refine lv_aload_n hx hb (fh_d d_Rd_peek 21 rfl) rfl (lv_at hl 0 rfl) ?_
        refine fh_get (own := "FormulaSetter$Reader") (ref := "FormulaSetter$Reader") (C := "FormulaSetter$Reader") (T := T_Rd) (N := 7) (v := .int (nI L)) hx hb hT i_Rd hown hK hP mkR_rd rfl 5 (by decide) (hT _ w185) (fun _ h9 => h9) (rfl) (fh_d d_Rd_peek 22 rfl) ?_
        refine lv_icmp_ge (tgt := 61) hx hb (fh_d d_Rd_peek 23 rfl) rfl (fun c6 => ?_) (fun c6 => absurd c6 (fun c9 => c6 ((nI_leI (a := L) (b := a0) (by omega) (by omega)).mpr (by omega))))
        refine lv_iconst (v := 0) hx hb (fh_d d_Rd_peek 30 rfl) (by decide) ?_
        refine fh_zret X hP hS (fh_d d_Rd_peek 31 rfl) ?_ ⟨?_, by rw [← hsk, qs], rfl⟩
        · rfl
        · rw [← hsk, qs]; unfold hre; rw [if_neg qlt]
      · have qlt : a0 < L := Nat.not_le.mp fun q => c5 ((nI_leI (a := L) (b := a0) (by omega) (by omega)).mpr q)
        refine lv_aload_n hx hb (fh_d d_Rd_peek 5 rfl) rfl (lv_at hl 0 rfl) ?_
        refine fh_get (own := "FormulaSetter$Reader") (ref := "FormulaSetter$Reader") (C := "FormulaSetter$Reader") (T := T_Rd) (N := 7) (v := .ref (x + 1)) hx hb hT i_Rd hown hK hP mkR_rd rfl 4 (by decide) (hT _ w184) (fun _ h9 => h9) (rfl) (fh_d d_Rd_peek 6 rfl) ?_
        refine lv_aload_n hx hb (fh_d d_Rd_peek 7 rfl) rfl (lv_at hl 0 rfl) ?_
        refine fh_get (own := "FormulaSetter$Reader") (ref := "FormulaSetter$Reader") (C := "FormulaSetter$Reader") (T := T_Rd) (N := 7) (v := .int (nI a0)) hx hb hT i_Rd hown hK hP mkR_rd rfl 6 (by decide) (hT _ w186) (fun _ h9 => h9) (rfl) (fh_d d_Rd_peek 8 rfl) ?_
        refine fn_cald (f := f) (k := a0) hx hb hK hP 1 ((mkR_g (by omega) (by omega) (by omega)).trans hg1) rfl (rfl) (by omega) (by decide) (fh_d d_Rd_peek 9 rfl) ?_
        refine lv_bipush (v := 32) hx hb (fh_d d_Rd_peek 10 rfl) (by decide) ?_
        refine lv_icmp_ne (tgt := 38) hx hb (fh_d d_Rd_peek 11 rfl) rfl (fun c7 => ?_) (fun c7 => ?_)
        · have qs : sk f L a0 = a0 := sk_n (fun z => c7 z.2)
          refine lv_aload_n hx hb (fh_d d_Rd_peek 19 rfl) rfl (lv_at hl 0 rfl) ?_
          refine fh_get (own := "FormulaSetter$Reader") (ref := "FormulaSetter$Reader") (C := "FormulaSetter$Reader") (T := T_Rd) (N := 7) (v := .int (nI a0)) hx hb hT i_Rd hown hK hP mkR_rd rfl 6 (by decide) (hT _ w186) (fun _ h9 => h9) (rfl) (fh_d d_Rd_peek 20 rfl) ?_
          refine lv_aload_n hx hb (fh_d d_Rd_peek 21 rfl) rfl (lv_at hl 0 rfl) ?_
          refine fh_get (own := "FormulaSetter$Reader") (ref := "FormulaSetter$Reader") (C := "FormulaSetter$Reader") (T := T_Rd) (N := 7) (v := .int (nI L)) hx hb hT i_Rd hown hK hP mkR_rd rfl 5 (by decide) (hT _ w185) (fun _ h9 => h9) (rfl) (fh_d d_Rd_peek 22 rfl) ?_
          refine lv_icmp_ge (tgt := 61) hx hb (fh_d d_Rd_peek 23 rfl) rfl (fun c8 => absurd c8 (fun c9 => absurd ((nI_leI (a := L) (b := a0) (by omega) (by omega)).mp c9) (by omega))) (fun c8 => ?_)
          refine lv_aload_n hx hb (fh_d d_Rd_peek 24 rfl) rfl (lv_at hl 0 rfl) ?_
          refine fh_get (own := "FormulaSetter$Reader") (ref := "FormulaSetter$Reader") (C := "FormulaSetter$Reader") (T := T_Rd) (N := 7) (v := .ref (x + 1)) hx hb hT i_Rd hown hK hP mkR_rd rfl 4 (by decide) (hT _ w184) (fun _ h9 => h9) (rfl) (fh_d d_Rd_peek 25 rfl) ?_
          refine lv_aload_n hx hb (fh_d d_Rd_peek 26 rfl) rfl (lv_at hl 0 rfl) ?_
          refine fh_get (own := "FormulaSetter$Reader") (ref := "FormulaSetter$Reader") (C := "FormulaSetter$Reader") (T := T_Rd) (N := 7) (v := .int (nI a0)) hx hb hT i_Rd hown hK hP mkR_rd rfl 6 (by decide) (hT _ w186) (fun _ h9 => h9) (rfl) (fh_d d_Rd_peek 27 rfl) ?_
          refine fn_cald (f := f) (k := a0) hx hb hK hP 1 ((mkR_g (by omega) (by omega) (by omega)).trans hg1) rfl (rfl) (by omega) (by decide) (fh_d d_Rd_peek 28 rfl) ?_
          refine lv_goto (tgt := 62) hx hb (fh_d d_Rd_peek 29 rfl) rfl ?_
          refine fh_zret X hP hS (fh_d d_Rd_peek 31 rfl) ?_ ⟨?_, by rw [← hsk, qs], rfl⟩
          · rw [(hf a0).1]; exact (pk_charN (Nat.lt_trans (hf a0).2 (by decide))).1
          · rw [← hsk, qs]; unfold hre; rw [if_pos qlt]
        · refine lv_aload_n hx hb (fh_d d_Rd_peek 12 rfl) rfl (lv_at hl 0 rfl) ?_
          refine lv_dup hx hb (fh_d d_Rd_peek 13 rfl) rfl ?_
          refine fh_get (own := "FormulaSetter$Reader") (ref := "FormulaSetter$Reader") (C := "FormulaSetter$Reader") (T := T_Rd) (N := 7) (v := .int (nI a0)) hx hb hT i_Rd hown hK hP mkR_rd rfl 6 (by decide) (hT _ w186) (fun _ h9 => h9) (rfl) (fh_d d_Rd_peek 14 rfl) ?_
          refine lv_iconst (v := 1) hx hb (fh_d d_Rd_peek 15 rfl) (by decide) ?_
          refine lv_iadd hx hb (fh_d d_Rd_peek 16 rfl) ?_
          refine fh_put (own := "FormulaSetter$Reader") (ref := "FormulaSetter$Reader") (C := "FormulaSetter$Reader") (T := T_Rd) (N := 7) (v := .int ((nI a0) + 1)) (ty := .int) hx hb hT i_Rd t_Rd k_Rd n_Rd hown hK hP hS mkR_rd rfl 6 (by decide) (hT _ w186) (fun _ h9 => h9) rfl (by decide +kernel) rfl rfl (Nat.le_of_ble_eq_true rfl) (fh_d d_Rd_peek 17 rfl) (fun H locs hP hS => ?_)
          replace hP := fh_P.eq (h' := mkR x kA aA g nc lc (.ref (x + 1)) (nI L) ((nI a0) + 1) C R CL RL) hP mkR_urd
          refine lv_goto (tgt := 0) hx hb (fh_d d_Rd_peek 18 rfl) rfl ?_
          rw [nI_1] at hP
          exact ih (a0 + 1) (by omega) (by omega) (by rw [← hsk, sk_y qlt c7]) H _ _ hP hS hl
  exact loop _ a rfl ha rfl H _ _ hP hS hl

set_option maxHeartbeats 4000000 in
set_option maxRecDepth 100000 in
theorem m_Rd_take (l : Launch) (D : va_G) (ct : Nat → ClassId) (b : Nat) (RO : State → Prop) (hR : fh_R b RO) (r : Nat) (hr : 1 ≤ r) (n x : Nat) (kA aA : Nat → Nat) (g : fh_H) (C : Nat → Nat → Int32) (R : Nat → Nat → Option Nat) (CL : Nat → Nat → Int32) (RL : Nat → Nat → Option Nat) (nc lc : Int32) (f : Nat → Int32) (L a : Nat) (hL : L ≤ 160) (ha : a ≤ 400) (hg1 : g (x + 1) = some (.inl (ct 1, 160, .inl f))) (hf : ∀ j, f j = (nI (ixI (f j))) ∧ ixI (f j) < 256) (c0 : Int32) : fh_C l D fh_cl (fh_tys ct) b RO y_Rd_take (Cond.code y_Rd_take c_Rd_take 2 (Option.some FieldType.boolean) :: fh_T) (fh_rm r 0 0) [.ref (x + 2), .int c0] (mkR x kA aA g nc lc (.ref (x + 1)) (nI L) (nI a) C R CL RL) n (fun v h' n' => v = some (.int (if hre f L (sk f L a) = c0 then 1 else 0)) ∧ h' = mkR x kA aA g nc lc (.ref (x + 1)) (nI L) (nI (if hre f L (sk f L a) = c0 then sk f L a + 1 else sk f L a)) C R CL RL ∧ n' = n) 0 0 := by
  refine fh_enter (by decide) (Nat.le_of_ble_eq_true rfl) [(0, .ref (x + 2)), (1, .int c0)] rfl ?_
  intro p e s m args below meth c H ls X hP hS hl
  have hx := X.1
  have hb := X.2.1
  have hml := X.2.2.1
  have hown : s.vm.findClass "FormulaSetter$Reader" = some m.cls := X.2.2.2.1
  have hT := X.2.2.2.2.1
  have hK := X.2.2.2.2.2.1
  have hRO := X.2.2.2.2.2.2.1
  have hnm : meth.name = "take" := X.2.2.2.2.2.2.2.2.2.2
  refine lv_aload_n hx hb (fh_d d_Rd_take 0 rfl) rfl (lv_at hl 0 rfl) ?_
  refine fh_callV (cc' := c_Rd_peek) (nL' := 1) (rest := []) (a := x + 2) (As := []) X hR (m_Rd_peek l D ct b RO (r - 1) n x kA aA g C R CL RL nc lc f L (a) hL (by omega) hg1 hf) w319 w316 w318 v3 w2 ⟨by decide, by decide, by show _ = some 0; decide +kernel⟩ (by omega) (by decide) (fh_recv hK hP mkR_rd rfl) hP hS hl.1 rfl (by exact Nat.le_of_ble_eq_true rfl) (fh_d d_Rd_take 1 rfl) ⟨Nat.le_refl _, Nat.le_refl _⟩ (fun v9 h9 n9 H locs hq hP hS => ?_)
  obtain ⟨rfl, u1, u2⟩ := hq
  rw [u1, u2] at hP
  have hsk := sk_ge f L _ a rfl
  have hsk2 : sk f L a ≤ 400 := by
    by_cases q9 : a ≤ L
    · have := hsk.2 q9; omega
    · rw [sk_n (by omega)]; omega
  refine lv_iload_n hx hb (fh_d d_Rd_take 2 rfl) rfl (lv_at hl 1 rfl) ?_
  refine lv_icmp_eq (tgt := 10) hx hb (fh_d d_Rd_take 3 rfl) rfl (fun c3 => ?_) (fun c3 => ?_)
  · refine lv_aload_n hx hb (fh_d d_Rd_take 6 rfl) rfl (lv_at hl 0 rfl) ?_
    refine lv_dup hx hb (fh_d d_Rd_take 7 rfl) rfl ?_
    refine fh_get (own := "FormulaSetter$Reader") (ref := "FormulaSetter$Reader") (C := "FormulaSetter$Reader") (T := T_Rd) (N := 7) (v := .int (nI (sk f L a))) hx hb hT i_Rd hown hK hP mkR_rd rfl 6 (by decide) (hT _ w186) (fun _ h9 => h9) (rfl) (fh_d d_Rd_take 8 rfl) ?_
    refine lv_iconst (v := 1) hx hb (fh_d d_Rd_take 9 rfl) (by decide) ?_
    refine lv_iadd hx hb (fh_d d_Rd_take 10 rfl) ?_
    refine fh_put (own := "FormulaSetter$Reader") (ref := "FormulaSetter$Reader") (C := "FormulaSetter$Reader") (T := T_Rd) (N := 7) (v := .int ((nI (sk f L a)) + 1)) (ty := .int) hx hb hT i_Rd t_Rd k_Rd n_Rd hown hK hP hS mkR_rd rfl 6 (by decide) (hT _ w186) (fun _ h9 => h9) rfl (by decide +kernel) rfl rfl (Nat.le_of_ble_eq_true rfl) (fh_d d_Rd_take 11 rfl) (fun H locs hP hS => ?_)
    replace hP := fh_P.eq (h' := mkR x kA aA g nc lc (.ref (x + 1)) (nI L) ((nI (sk f L a)) + 1) C R CL RL) hP mkR_urd
    refine lv_iconst (v := 1) hx hb (fh_d d_Rd_take 12 rfl) (by decide) ?_
    exact fh_zret X hP hS (fh_d d_Rd_take 13 rfl) (by decide) ⟨by rw [if_pos c3], by rw [if_pos c3, nI_1], rfl⟩
  · refine lv_iconst (v := 0) hx hb (fh_d d_Rd_take 4 rfl) (by decide) ?_
    exact fh_zret X hP hS (fh_d d_Rd_take 5 rfl) (by decide) ⟨by rw [if_neg c3], by rw [if_neg c3], rfl⟩

set_option maxHeartbeats 4000000 in
set_option maxRecDepth 100000 in
theorem m_Rd_seesRowEnd (l : Launch) (D : va_G) (ct : Nat → ClassId) (b : Nat) (RO : State → Prop) (hR : fh_R b RO) (r : Nat) (hr : 1 ≤ r) (n x : Nat) (kA aA : Nat → Nat) (g : fh_H) (C : Nat → Nat → Int32) (R : Nat → Nat → Option Nat) (CL : Nat → Nat → Int32) (RL : Nat → Nat → Option Nat) (nc lc : Int32) (f : Nat → Int32) (L a : Nat) (hL : L ≤ 160) (ha : a ≤ 400) (hg1 : g (x + 1) = some (.inl (ct 1, 160, .inl f))) (hf : ∀ j, f j = (nI (ixI (f j))) ∧ ixI (f j) < 256) : fh_C l D fh_cl (fh_tys ct) b RO y_Rd_seesRowEnd (Cond.code y_Rd_seesRowEnd c_Rd_seesRowEnd 1 (Option.some FieldType.boolean) :: fh_T) (fh_rm r 0 0) [.ref (x + 2)] (mkR x kA aA g nc lc (.ref (x + 1)) (nI L) (nI a) C R CL RL) n (fun v h' n' => v = some (.int (if hre f L (sk f L a) = 92 ∧ hre f L (sk f L a + 1) = 92 then 1 else 0)) ∧ h' = mkR x kA aA g nc lc (.ref (x + 1)) (nI L) (nI (sk f L a)) C R CL RL ∧ n' = n) 0 0 := by
  refine fh_enter (by decide) (Nat.le_of_ble_eq_true rfl) [(0, .ref (x + 2))] rfl ?_
  intro p e s m args below meth c H ls X hP hS hl
  have hx := X.1
  have hb := X.2.1
  have hml := X.2.2.1
  have hown : s.vm.findClass "FormulaSetter$Reader" = some m.cls := X.2.2.2.1
  have hT := X.2.2.2.2.1
  have hK := X.2.2.2.2.2.1
  have hRO := X.2.2.2.2.2.2.1
  have hnm : meth.name = "seesRowEnd" := X.2.2.2.2.2.2.2.2.2.2
  refine lv_aload_n hx hb (fh_d d_Rd_seesRowEnd 0 rfl) rfl (lv_at hl 0 rfl) ?_
  refine fh_callV (cc' := c_Rd_peek) (nL' := 1) (rest := []) (a := x + 2) (As := []) X hR (m_Rd_peek l D ct b RO (r - 1) n x kA aA g C R CL RL nc lc f L (a) hL (by omega) hg1 hf) w319 w316 w318 v3 w2 ⟨by decide, by decide, by show _ = some 0; decide +kernel⟩ (by omega) (by decide) (fh_recv hK hP mkR_rd rfl) hP hS hl.1 rfl (by exact Nat.le_of_ble_eq_true rfl) (fh_d d_Rd_seesRowEnd 1 rfl) ⟨Nat.le_refl _, Nat.le_refl _⟩ (fun v9 h9 n9 H locs hq hP hS => ?_)
  obtain ⟨rfl, u1, u2⟩ := hq
  rw [u1, u2] at hP
  have hsk := sk_ge f L _ a rfl
  have hsk2 : sk f L a ≤ 400 := by
    by_cases q9 : a ≤ L
    · have := hsk.2 q9; omega
    · rw [sk_n (by omega)]; omega
  refine lv_bipush (v := 92) hx hb (fh_d d_Rd_seesRowEnd 2 rfl) (by decide) ?_
  refine lv_icmp_ne (tgt := 42) hx hb (fh_d d_Rd_seesRowEnd 3 rfl) rfl (fun c3 => ?_) (fun c3 => ?_)
  · refine lv_iconst (v := 0) hx hb (fh_d d_Rd_seesRowEnd 22 rfl) (by decide) ?_
    exact fh_zret X hP hS (fh_d d_Rd_seesRowEnd 23 rfl) (by decide) ⟨by rw [if_neg (fun z => c3 z.1)], rfl, rfl⟩
  · refine lv_aload_n hx hb (fh_d d_Rd_seesRowEnd 4 rfl) rfl (lv_at hl 0 rfl) ?_
    refine fh_get (own := "FormulaSetter$Reader") (ref := "FormulaSetter$Reader") (C := "FormulaSetter$Reader") (T := T_Rd) (N := 7) (v := .int (nI (sk f L a))) hx hb hT i_Rd hown hK hP mkR_rd rfl 6 (by decide) (hT _ w186) (fun _ h9 => h9) (rfl) (fh_d d_Rd_seesRowEnd 5 rfl) ?_
    refine lv_iconst (v := 1) hx hb (fh_d d_Rd_seesRowEnd 6 rfl) (by decide) ?_
    refine lv_iadd hx hb (fh_d d_Rd_seesRowEnd 7 rfl) ?_
    refine lv_aload_n hx hb (fh_d d_Rd_seesRowEnd 8 rfl) rfl (lv_at hl 0 rfl) ?_
    refine fh_get (own := "FormulaSetter$Reader") (ref := "FormulaSetter$Reader") (C := "FormulaSetter$Reader") (T := T_Rd) (N := 7) (v := .int (nI L)) hx hb hT i_Rd hown hK hP mkR_rd rfl 5 (by decide) (hT _ w185) (fun _ h9 => h9) (rfl) (fh_d d_Rd_seesRowEnd 9 rfl) ?_
    refine lv_icmp_ge (tgt := 42) hx hb (fh_d d_Rd_seesRowEnd 10 rfl) rfl (fun c4 => ?_) (fun c4 => ?_)
    · refine lv_iconst (v := 0) hx hb (fh_d d_Rd_seesRowEnd 22 rfl) (by decide) ?_
      exact fh_zret X hP hS (fh_d d_Rd_seesRowEnd 23 rfl) (by decide) ⟨by rw [if_neg (fun z => by have q8 := hre_lt (f := f) (L := L) (k := sk f L a + 1) (by rw [z.2]; decide); have q9 := (nI_leI (a := L) (b := sk f L a + 1) (by omega) (by omega)).mp (nI_1 _ ▸ c4); omega)], rfl, rfl⟩
    · have q6 : sk f L a + 1 < L := Nat.not_le.mp fun q => c4 (nI_1 (sk f L a) ▸ (nI_leI (a := L) (b := sk f L a + 1) (by omega) (by omega)).mpr q)
      refine lv_aload_n hx hb (fh_d d_Rd_seesRowEnd 11 rfl) rfl (lv_at hl 0 rfl) ?_
      refine fh_get (own := "FormulaSetter$Reader") (ref := "FormulaSetter$Reader") (C := "FormulaSetter$Reader") (T := T_Rd) (N := 7) (v := .ref (x + 1)) hx hb hT i_Rd hown hK hP mkR_rd rfl 4 (by decide) (hT _ w184) (fun _ h9 => h9) (rfl) (fh_d d_Rd_seesRowEnd 12 rfl) ?_
      refine lv_aload_n hx hb (fh_d d_Rd_seesRowEnd 13 rfl) rfl (lv_at hl 0 rfl) ?_
      refine fh_get (own := "FormulaSetter$Reader") (ref := "FormulaSetter$Reader") (C := "FormulaSetter$Reader") (T := T_Rd) (N := 7) (v := .int (nI (sk f L a))) hx hb hT i_Rd hown hK hP mkR_rd rfl 6 (by decide) (hT _ w186) (fun _ h9 => h9) (rfl) (fh_d d_Rd_seesRowEnd 14 rfl) ?_
      refine lv_iconst (v := 1) hx hb (fh_d d_Rd_seesRowEnd 15 rfl) (by decide) ?_
      refine lv_iadd hx hb (fh_d d_Rd_seesRowEnd 16 rfl) ?_
      refine fn_cald (f := f) (k := sk f L a + 1) hx hb hK hP 1 ((mkR_g (by omega) (by omega) (by omega)).trans hg1) rfl (nI_1 _) (by omega) (by decide) (fh_d d_Rd_seesRowEnd 17 rfl) ?_
      refine lv_bipush (v := 92) hx hb (fh_d d_Rd_seesRowEnd 18 rfl) (by decide) ?_
      refine lv_icmp_ne (tgt := 42) hx hb (fh_d d_Rd_seesRowEnd 19 rfl) rfl (fun c5 => ?_) (fun c5 => ?_)
      · refine lv_iconst (v := 0) hx hb (fh_d d_Rd_seesRowEnd 22 rfl) (by decide) ?_
        have q7 : hre f L (sk f L a + 1) = f (sk f L a + 1) := if_pos q6
        exact fh_zret X hP hS (fh_d d_Rd_seesRowEnd 23 rfl) (by decide) ⟨by rw [if_neg (fun z => c5 (by rw [← q7]; exact z.2))], rfl, rfl⟩
      · refine lv_iconst (v := 1) hx hb (fh_d d_Rd_seesRowEnd 20 rfl) (by decide) ?_
        refine lv_goto (tgt := 43) hx hb (fh_d d_Rd_seesRowEnd 21 rfl) rfl ?_
        have q7 : hre f L (sk f L a + 1) = f (sk f L a + 1) := if_pos q6
        exact fh_zret X hP hS (fh_d d_Rd_seesRowEnd 23 rfl) (by decide) ⟨by rw [if_pos ⟨c3, by rw [q7]; exact c5⟩], rfl, rfl⟩

set_option maxHeartbeats 4000000 in
set_option maxRecDepth 100000 in
theorem m_Nu_clear (l : Launch) (D : va_G) (ct : Nat → ClassId) (b : Nat) (RO : State → Prop) (r n x a : Nat) (kA aA : Nat → Nat) (c0 : Nat → Int32) (r0 : Nat → Option Nat) (h : fh_H) (ha : h a = some (.inr (2, nuV x kA aA c0 r0))) : fh_C l D fh_cl (fh_tys ct) b RO y_Nu_clear (Cond.code y_Nu_clear c_Nu_clear 1 (Option.none : Option FieldType) :: fh_T) (fh_rm r 0 0) [.ref a] h n (fun v h' n' => v = none ∧ h' = fh_up h a (.inr (2, nuV x kA aA (up1 (up1 c0 7 0) 8 0) (fun _ => none))) ∧ n' = n) 0 0 := by
  refine fh_enter (by decide) (Nat.le_of_ble_eq_true rfl) [(0, .ref a)] rfl ?_
  intro p e s m args below meth c H ls X hP hS hl
  have hx := X.1
  have hb := X.2.1
  have hml := X.2.2.1
  have hown : s.vm.findClass "FormulaSetter$Nucleus" = some m.cls := X.2.2.2.1
  have hT := X.2.2.2.2.1
  have hK := X.2.2.2.2.2.1
  have hRO := X.2.2.2.2.2.2.1
  have hnm : meth.name = "clear" := X.2.2.2.2.2.2.2.2.2.2
  refine lv_aload_n hx hb (fh_d d_Nu_clear 0 rfl) rfl (lv_at hl 0 rfl) ?_
  refine lv_null hx hb (fh_d d_Nu_clear 1 rfl) ?_
  refine fh_put (own := "FormulaSetter$Nucleus") (ref := "FormulaSetter$Nucleus") (C := "FormulaSetter$Nucleus") (T := T_Nu) (N := 15) (v := .null) (ty := (.object "FormulaSetter$Kind")) hx hb hT i_Nu t_Nu k_Nu n_Nu hown hK hP hS ha rfl 5 (by decide) (hT _ w51) (fun _ h9 => h9) rfl (by decide +kernel) rfl rfl (Nat.le_of_ble_eq_true rfl) (fh_d d_Nu_clear 2 rfl) (fun H locs hP hS => ?_)
  obtain ⟨h1, eh1⟩ : ∃ z : fh_H, z = fh_up h a (.inr (2, [.int (c0 0), .int (c0 1), .int (c0 2), .int (c0 3), .int (c0 4), .null, va_rf ((r0 6).map aA), .int (c0 7), .int (c0 8), va_rf ((r0 9).map (fun z => x + 4 + z)), va_rf ((r0 10).map (fun z => x + 4 + z)), va_rf ((r0 11).map (fun z => x + 65 + z)), va_rf ((r0 12).map (fun z => x + 4 + z)), va_rf ((r0 13).map (fun z => x + 4 + z)), va_rf ((r0 14).map (fun z => x + 4 + z))])) := ⟨_, rfl⟩
  replace hP : fh_P D fh_cl b h1 n H := by rw [eh1]; exact hP
  have k2 : h1 a = some (.inr (2, [.int (c0 0), .int (c0 1), .int (c0 2), .int (c0 3), .int (c0 4), .null, va_rf ((r0 6).map aA), .int (c0 7), .int (c0 8), va_rf ((r0 9).map (fun z => x + 4 + z)), va_rf ((r0 10).map (fun z => x + 4 + z)), va_rf ((r0 11).map (fun z => x + 65 + z)), va_rf ((r0 12).map (fun z => x + 4 + z)), va_rf ((r0 13).map (fun z => x + 4 + z)), va_rf ((r0 14).map (fun z => x + 4 + z))])) := by rw [eh1]; exact fh_up_same
  refine lv_aload_n hx hb (fh_d d_Nu_clear 3 rfl) rfl (lv_at hl 0 rfl) ?_
  refine lv_null hx hb (fh_d d_Nu_clear 4 rfl) ?_
  refine fh_put (own := "FormulaSetter$Nucleus") (ref := "FormulaSetter$Nucleus") (C := "FormulaSetter$Nucleus") (T := T_Nu) (N := 15) (v := .null) (ty := (.object "FormulaSetter$Atom")) hx hb hT i_Nu t_Nu k_Nu n_Nu hown hK hP hS k2 rfl 6 (by decide) (hT _ w54) (fun _ h9 => h9) rfl (by decide +kernel) rfl rfl (Nat.le_of_ble_eq_true rfl) (fh_d d_Nu_clear 5 rfl) (fun H locs hP hS => ?_)
  obtain ⟨h3, eh3⟩ : ∃ z : fh_H, z = fh_up h1 a (.inr (2, [.int (c0 0), .int (c0 1), .int (c0 2), .int (c0 3), .int (c0 4), .null, .null, .int (c0 7), .int (c0 8), va_rf ((r0 9).map (fun z => x + 4 + z)), va_rf ((r0 10).map (fun z => x + 4 + z)), va_rf ((r0 11).map (fun z => x + 65 + z)), va_rf ((r0 12).map (fun z => x + 4 + z)), va_rf ((r0 13).map (fun z => x + 4 + z)), va_rf ((r0 14).map (fun z => x + 4 + z))])) := ⟨_, rfl⟩
  replace hP : fh_P D fh_cl b h3 n H := by rw [eh3]; exact hP
  have k4 : h3 a = some (.inr (2, [.int (c0 0), .int (c0 1), .int (c0 2), .int (c0 3), .int (c0 4), .null, .null, .int (c0 7), .int (c0 8), va_rf ((r0 9).map (fun z => x + 4 + z)), va_rf ((r0 10).map (fun z => x + 4 + z)), va_rf ((r0 11).map (fun z => x + 65 + z)), va_rf ((r0 12).map (fun z => x + 4 + z)), va_rf ((r0 13).map (fun z => x + 4 + z)), va_rf ((r0 14).map (fun z => x + 4 + z))])) := by rw [eh3]; exact fh_up_same
  refine lv_aload_n hx hb (fh_d d_Nu_clear 6 rfl) rfl (lv_at hl 0 rfl) ?_
  refine lv_iconst (v := 0) hx hb (fh_d d_Nu_clear 7 rfl) (by decide) ?_
  refine fh_put (own := "FormulaSetter$Nucleus") (ref := "FormulaSetter$Nucleus") (C := "FormulaSetter$Nucleus") (T := T_Nu) (N := 15) (v := .int 0) (ty := .int) hx hb hT i_Nu t_Nu k_Nu n_Nu hown hK hP hS k4 rfl 7 (by decide) (hT _ w58) (fun _ h9 => h9) rfl (by decide +kernel) rfl rfl (Nat.le_of_ble_eq_true rfl) (fh_d d_Nu_clear 8 rfl) (fun H locs hP hS => ?_)
  obtain ⟨h5, eh5⟩ : ∃ z : fh_H, z = fh_up h3 a (.inr (2, [.int (c0 0), .int (c0 1), .int (c0 2), .int (c0 3), .int (c0 4), .null, .null, .int 0, .int (c0 8), va_rf ((r0 9).map (fun z => x + 4 + z)), va_rf ((r0 10).map (fun z => x + 4 + z)), va_rf ((r0 11).map (fun z => x + 65 + z)), va_rf ((r0 12).map (fun z => x + 4 + z)), va_rf ((r0 13).map (fun z => x + 4 + z)), va_rf ((r0 14).map (fun z => x + 4 + z))])) := ⟨_, rfl⟩
  replace hP : fh_P D fh_cl b h5 n H := by rw [eh5]; exact hP
  have k6 : h5 a = some (.inr (2, [.int (c0 0), .int (c0 1), .int (c0 2), .int (c0 3), .int (c0 4), .null, .null, .int 0, .int (c0 8), va_rf ((r0 9).map (fun z => x + 4 + z)), va_rf ((r0 10).map (fun z => x + 4 + z)), va_rf ((r0 11).map (fun z => x + 65 + z)), va_rf ((r0 12).map (fun z => x + 4 + z)), va_rf ((r0 13).map (fun z => x + 4 + z)), va_rf ((r0 14).map (fun z => x + 4 + z))])) := by rw [eh5]; exact fh_up_same
  refine lv_aload_n hx hb (fh_d d_Nu_clear 9 rfl) rfl (lv_at hl 0 rfl) ?_
  refine lv_iconst (v := 0) hx hb (fh_d d_Nu_clear 10 rfl) (by decide) ?_
  refine fh_put (own := "FormulaSetter$Nucleus") (ref := "FormulaSetter$Nucleus") (C := "FormulaSetter$Nucleus") (T := T_Nu) (N := 15) (v := .int 0) (ty := .int) hx hb hT i_Nu t_Nu k_Nu n_Nu hown hK hP hS k6 rfl 8 (by decide) (hT _ w61) (fun _ h9 => h9) rfl (by decide +kernel) rfl rfl (Nat.le_of_ble_eq_true rfl) (fh_d d_Nu_clear 11 rfl) (fun H locs hP hS => ?_)
  obtain ⟨h7, eh7⟩ : ∃ z : fh_H, z = fh_up h5 a (.inr (2, [.int (c0 0), .int (c0 1), .int (c0 2), .int (c0 3), .int (c0 4), .null, .null, .int 0, .int 0, va_rf ((r0 9).map (fun z => x + 4 + z)), va_rf ((r0 10).map (fun z => x + 4 + z)), va_rf ((r0 11).map (fun z => x + 65 + z)), va_rf ((r0 12).map (fun z => x + 4 + z)), va_rf ((r0 13).map (fun z => x + 4 + z)), va_rf ((r0 14).map (fun z => x + 4 + z))])) := ⟨_, rfl⟩
  replace hP : fh_P D fh_cl b h7 n H := by rw [eh7]; exact hP
  have k8 : h7 a = some (.inr (2, [.int (c0 0), .int (c0 1), .int (c0 2), .int (c0 3), .int (c0 4), .null, .null, .int 0, .int 0, va_rf ((r0 9).map (fun z => x + 4 + z)), va_rf ((r0 10).map (fun z => x + 4 + z)), va_rf ((r0 11).map (fun z => x + 65 + z)), va_rf ((r0 12).map (fun z => x + 4 + z)), va_rf ((r0 13).map (fun z => x + 4 + z)), va_rf ((r0 14).map (fun z => x + 4 + z))])) := by rw [eh7]; exact fh_up_same
  refine lv_aload_n hx hb (fh_d d_Nu_clear 12 rfl) rfl (lv_at hl 0 rfl) ?_
  refine lv_null hx hb (fh_d d_Nu_clear 13 rfl) ?_
  refine fh_put (own := "FormulaSetter$Nucleus") (ref := "FormulaSetter$Nucleus") (C := "FormulaSetter$Nucleus") (T := T_Nu) (N := 15) (v := .null) (ty := (.object "FormulaSetter$Nucleus")) hx hb hT i_Nu t_Nu k_Nu n_Nu hown hK hP hS k8 rfl 9 (by decide) (hT _ w64) (fun _ h9 => h9) rfl (by decide +kernel) rfl rfl (Nat.le_of_ble_eq_true rfl) (fh_d d_Nu_clear 14 rfl) (fun H locs hP hS => ?_)
  obtain ⟨h9, eh9⟩ : ∃ z : fh_H, z = fh_up h7 a (.inr (2, [.int (c0 0), .int (c0 1), .int (c0 2), .int (c0 3), .int (c0 4), .null, .null, .int 0, .int 0, .null, va_rf ((r0 10).map (fun z => x + 4 + z)), va_rf ((r0 11).map (fun z => x + 65 + z)), va_rf ((r0 12).map (fun z => x + 4 + z)), va_rf ((r0 13).map (fun z => x + 4 + z)), va_rf ((r0 14).map (fun z => x + 4 + z))])) := ⟨_, rfl⟩
  replace hP : fh_P D fh_cl b h9 n H := by rw [eh9]; exact hP
  have k10 : h9 a = some (.inr (2, [.int (c0 0), .int (c0 1), .int (c0 2), .int (c0 3), .int (c0 4), .null, .null, .int 0, .int 0, .null, va_rf ((r0 10).map (fun z => x + 4 + z)), va_rf ((r0 11).map (fun z => x + 65 + z)), va_rf ((r0 12).map (fun z => x + 4 + z)), va_rf ((r0 13).map (fun z => x + 4 + z)), va_rf ((r0 14).map (fun z => x + 4 + z))])) := by rw [eh9]; exact fh_up_same
  refine lv_aload_n hx hb (fh_d d_Nu_clear 15 rfl) rfl (lv_at hl 0 rfl) ?_
  refine lv_null hx hb (fh_d d_Nu_clear 16 rfl) ?_
  refine fh_put (own := "FormulaSetter$Nucleus") (ref := "FormulaSetter$Nucleus") (C := "FormulaSetter$Nucleus") (T := T_Nu) (N := 15) (v := .null) (ty := (.object "FormulaSetter$Nucleus")) hx hb hT i_Nu t_Nu k_Nu n_Nu hown hK hP hS k10 rfl 10 (by decide) (hT _ w67) (fun _ h9 => h9) rfl (by decide +kernel) rfl rfl (Nat.le_of_ble_eq_true rfl) (fh_d d_Nu_clear 17 rfl) (fun H locs hP hS => ?_)
  obtain ⟨h11, eh11⟩ : ∃ z : fh_H, z = fh_up h9 a (.inr (2, [.int (c0 0), .int (c0 1), .int (c0 2), .int (c0 3), .int (c0 4), .null, .null, .int 0, .int 0, .null, .null, va_rf ((r0 11).map (fun z => x + 65 + z)), va_rf ((r0 12).map (fun z => x + 4 + z)), va_rf ((r0 13).map (fun z => x + 4 + z)), va_rf ((r0 14).map (fun z => x + 4 + z))])) := ⟨_, rfl⟩
  replace hP : fh_P D fh_cl b h11 n H := by rw [eh11]; exact hP
  have k12 : h11 a = some (.inr (2, [.int (c0 0), .int (c0 1), .int (c0 2), .int (c0 3), .int (c0 4), .null, .null, .int 0, .int 0, .null, .null, va_rf ((r0 11).map (fun z => x + 65 + z)), va_rf ((r0 12).map (fun z => x + 4 + z)), va_rf ((r0 13).map (fun z => x + 4 + z)), va_rf ((r0 14).map (fun z => x + 4 + z))])) := by rw [eh11]; exact fh_up_same
  refine lv_aload_n hx hb (fh_d d_Nu_clear 18 rfl) rfl (lv_at hl 0 rfl) ?_
  refine lv_null hx hb (fh_d d_Nu_clear 19 rfl) ?_
  refine fh_put (own := "FormulaSetter$Nucleus") (ref := "FormulaSetter$Nucleus") (C := "FormulaSetter$Nucleus") (T := T_Nu) (N := 15) (v := .null) (ty := (.object "FormulaSetter$Line")) hx hb hT i_Nu t_Nu k_Nu n_Nu hown hK hP hS k12 rfl 11 (by decide) (hT _ w70) (fun _ h9 => h9) rfl (by decide +kernel) rfl rfl (Nat.le_of_ble_eq_true rfl) (fh_d d_Nu_clear 20 rfl) (fun H locs hP hS => ?_)
  obtain ⟨h13, eh13⟩ : ∃ z : fh_H, z = fh_up h11 a (.inr (2, [.int (c0 0), .int (c0 1), .int (c0 2), .int (c0 3), .int (c0 4), .null, .null, .int 0, .int 0, .null, .null, .null, va_rf ((r0 12).map (fun z => x + 4 + z)), va_rf ((r0 13).map (fun z => x + 4 + z)), va_rf ((r0 14).map (fun z => x + 4 + z))])) := ⟨_, rfl⟩
  replace hP : fh_P D fh_cl b h13 n H := by rw [eh13]; exact hP
  have k14 : h13 a = some (.inr (2, [.int (c0 0), .int (c0 1), .int (c0 2), .int (c0 3), .int (c0 4), .null, .null, .int 0, .int 0, .null, .null, .null, va_rf ((r0 12).map (fun z => x + 4 + z)), va_rf ((r0 13).map (fun z => x + 4 + z)), va_rf ((r0 14).map (fun z => x + 4 + z))])) := by rw [eh13]; exact fh_up_same
  refine lv_aload_n hx hb (fh_d d_Nu_clear 21 rfl) rfl (lv_at hl 0 rfl) ?_
  refine lv_null hx hb (fh_d d_Nu_clear 22 rfl) ?_
  refine fh_put (own := "FormulaSetter$Nucleus") (ref := "FormulaSetter$Nucleus") (C := "FormulaSetter$Nucleus") (T := T_Nu) (N := 15) (v := .null) (ty := (.object "FormulaSetter$Nucleus")) hx hb hT i_Nu t_Nu k_Nu n_Nu hown hK hP hS k14 rfl 12 (by decide) (hT _ w73) (fun _ h9 => h9) rfl (by decide +kernel) rfl rfl (Nat.le_of_ble_eq_true rfl) (fh_d d_Nu_clear 23 rfl) (fun H locs hP hS => ?_)
  obtain ⟨h15, eh15⟩ : ∃ z : fh_H, z = fh_up h13 a (.inr (2, [.int (c0 0), .int (c0 1), .int (c0 2), .int (c0 3), .int (c0 4), .null, .null, .int 0, .int 0, .null, .null, .null, .null, va_rf ((r0 13).map (fun z => x + 4 + z)), va_rf ((r0 14).map (fun z => x + 4 + z))])) := ⟨_, rfl⟩
  replace hP : fh_P D fh_cl b h15 n H := by rw [eh15]; exact hP
  have k16 : h15 a = some (.inr (2, [.int (c0 0), .int (c0 1), .int (c0 2), .int (c0 3), .int (c0 4), .null, .null, .int 0, .int 0, .null, .null, .null, .null, va_rf ((r0 13).map (fun z => x + 4 + z)), va_rf ((r0 14).map (fun z => x + 4 + z))])) := by rw [eh15]; exact fh_up_same
  refine lv_aload_n hx hb (fh_d d_Nu_clear 24 rfl) rfl (lv_at hl 0 rfl) ?_
  refine lv_null hx hb (fh_d d_Nu_clear 25 rfl) ?_
  refine fh_put (own := "FormulaSetter$Nucleus") (ref := "FormulaSetter$Nucleus") (C := "FormulaSetter$Nucleus") (T := T_Nu) (N := 15) (v := .null) (ty := (.object "FormulaSetter$Nucleus")) hx hb hT i_Nu t_Nu k_Nu n_Nu hown hK hP hS k16 rfl 13 (by decide) (hT _ w76) (fun _ h9 => h9) rfl (by decide +kernel) rfl rfl (Nat.le_of_ble_eq_true rfl) (fh_d d_Nu_clear 26 rfl) (fun H locs hP hS => ?_)
  obtain ⟨h17, eh17⟩ : ∃ z : fh_H, z = fh_up h15 a (.inr (2, [.int (c0 0), .int (c0 1), .int (c0 2), .int (c0 3), .int (c0 4), .null, .null, .int 0, .int 0, .null, .null, .null, .null, .null, va_rf ((r0 14).map (fun z => x + 4 + z))])) := ⟨_, rfl⟩
  replace hP : fh_P D fh_cl b h17 n H := by rw [eh17]; exact hP
  have k18 : h17 a = some (.inr (2, [.int (c0 0), .int (c0 1), .int (c0 2), .int (c0 3), .int (c0 4), .null, .null, .int 0, .int 0, .null, .null, .null, .null, .null, va_rf ((r0 14).map (fun z => x + 4 + z))])) := by rw [eh17]; exact fh_up_same
  refine lv_aload_n hx hb (fh_d d_Nu_clear 27 rfl) rfl (lv_at hl 0 rfl) ?_
  refine lv_null hx hb (fh_d d_Nu_clear 28 rfl) ?_
  refine fh_put (own := "FormulaSetter$Nucleus") (ref := "FormulaSetter$Nucleus") (C := "FormulaSetter$Nucleus") (T := T_Nu) (N := 15) (v := .null) (ty := (.object "FormulaSetter$Nucleus")) hx hb hT i_Nu t_Nu k_Nu n_Nu hown hK hP hS k18 rfl 14 (by decide) (hT _ w79) (fun _ h9 => h9) rfl (by decide +kernel) rfl rfl (Nat.le_of_ble_eq_true rfl) (fh_d d_Nu_clear 29 rfl) (fun H locs hP hS => ?_)
  obtain ⟨h19, eh19⟩ : ∃ z : fh_H, z = fh_up h17 a (.inr (2, [.int (c0 0), .int (c0 1), .int (c0 2), .int (c0 3), .int (c0 4), .null, .null, .int 0, .int 0, .null, .null, .null, .null, .null, .null])) := ⟨_, rfl⟩
  replace hP : fh_P D fh_cl b h19 n H := by rw [eh19]; exact hP
  have k20 : h19 a = some (.inr (2, [.int (c0 0), .int (c0 1), .int (c0 2), .int (c0 3), .int (c0 4), .null, .null, .int 0, .int 0, .null, .null, .null, .null, .null, .null])) := by rw [eh19]; exact fh_up_same
  refine fh_vret X hP hS (fh_d d_Nu_clear 30 rfl) ⟨rfl, ?_, rfl⟩
  rw [eh19, eh17, eh15, eh13, eh11, eh9, eh7, eh5, eh3, eh1]
  repeat rw [fh_up_up]
  rfl

set_option maxHeartbeats 4000000 in
set_option maxRecDepth 100000 in
theorem m_Li_clear (l : Launch) (D : va_G) (ct : Nat → ClassId) (b : Nat) (RO : State → Prop) (r n x a : Nat) (c0 : Nat → Int32) (r0 : Nat → Option Nat) (h : fh_H) (ha : h a = some (.inr (3, liV x c0 r0))) : fh_C l D fh_cl (fh_tys ct) b RO y_Li_clear (Cond.code y_Li_clear c_Li_clear 1 (Option.none : Option FieldType) :: fh_T) (fh_rm r 0 0) [.ref a] h n (fun v h' n' => v = none ∧ h' = fh_up h a (.inr (3, liV x (up1 (up1 c0 6 0) 7 0) (fun _ => none))) ∧ n' = n) 0 0 := by
  refine fh_enter (by decide) (Nat.le_of_ble_eq_true rfl) [(0, .ref a)] rfl ?_
  intro p e s m args below meth c H ls X hP hS hl
  have hx := X.1
  have hb := X.2.1
  have hml := X.2.2.1
  have hown : s.vm.findClass "FormulaSetter$Line" = some m.cls := X.2.2.2.1
  have hT := X.2.2.2.2.1
  have hK := X.2.2.2.2.2.1
  have hRO := X.2.2.2.2.2.2.1
  have hnm : meth.name = "clear" := X.2.2.2.2.2.2.2.2.2.2
  refine lv_aload_n hx hb (fh_d d_Li_clear 0 rfl) rfl (lv_at hl 0 rfl) ?_
  refine lv_null hx hb (fh_d d_Li_clear 1 rfl) ?_
  refine fh_put (own := "FormulaSetter$Line") (ref := "FormulaSetter$Line") (C := "FormulaSetter$Line") (T := T_Li) (N := 9) (v := .null) (ty := (.object "FormulaSetter$Nucleus")) hx hb hT i_Li t_Li k_Li n_Li hown hK hP hS ha rfl 5 (by decide) (hT _ w153) (fun _ h9 => h9) rfl (by decide +kernel) rfl rfl (Nat.le_of_ble_eq_true rfl) (fh_d d_Li_clear 2 rfl) (fun H locs hP hS => ?_)
  obtain ⟨h1, eh1⟩ : ∃ z : fh_H, z = fh_up h a (.inr (3, [.int (c0 0), .int (c0 1), .int (c0 2), .int (c0 3), .int (c0 4), .null, .int (c0 6), .int (c0 7), va_rf ((r0 8).map (fun z => x + 65 + z))])) := ⟨_, rfl⟩
  replace hP : fh_P D fh_cl b h1 n H := by rw [eh1]; exact hP
  have k2 : h1 a = some (.inr (3, [.int (c0 0), .int (c0 1), .int (c0 2), .int (c0 3), .int (c0 4), .null, .int (c0 6), .int (c0 7), va_rf ((r0 8).map (fun z => x + 65 + z))])) := by rw [eh1]; exact fh_up_same
  refine lv_aload_n hx hb (fh_d d_Li_clear 3 rfl) rfl (lv_at hl 0 rfl) ?_
  refine lv_iconst (v := 0) hx hb (fh_d d_Li_clear 4 rfl) (by decide) ?_
  refine fh_put (own := "FormulaSetter$Line") (ref := "FormulaSetter$Line") (C := "FormulaSetter$Line") (T := T_Li) (N := 9) (v := .int 0) (ty := .int) hx hb hT i_Li t_Li k_Li n_Li hown hK hP hS k2 rfl 6 (by decide) (hT _ w156) (fun _ h9 => h9) rfl (by decide +kernel) rfl rfl (Nat.le_of_ble_eq_true rfl) (fh_d d_Li_clear 5 rfl) (fun H locs hP hS => ?_)
  obtain ⟨h3, eh3⟩ : ∃ z : fh_H, z = fh_up h1 a (.inr (3, [.int (c0 0), .int (c0 1), .int (c0 2), .int (c0 3), .int (c0 4), .null, .int 0, .int (c0 7), va_rf ((r0 8).map (fun z => x + 65 + z))])) := ⟨_, rfl⟩
  replace hP : fh_P D fh_cl b h3 n H := by rw [eh3]; exact hP
  have k4 : h3 a = some (.inr (3, [.int (c0 0), .int (c0 1), .int (c0 2), .int (c0 3), .int (c0 4), .null, .int 0, .int (c0 7), va_rf ((r0 8).map (fun z => x + 65 + z))])) := by rw [eh3]; exact fh_up_same
  refine lv_aload_n hx hb (fh_d d_Li_clear 6 rfl) rfl (lv_at hl 0 rfl) ?_
  refine lv_iconst (v := 0) hx hb (fh_d d_Li_clear 7 rfl) (by decide) ?_
  refine fh_put (own := "FormulaSetter$Line") (ref := "FormulaSetter$Line") (C := "FormulaSetter$Line") (T := T_Li) (N := 9) (v := .int 0) (ty := .int) hx hb hT i_Li t_Li k_Li n_Li hown hK hP hS k4 rfl 7 (by decide) (hT _ w159) (fun _ h9 => h9) rfl (by decide +kernel) rfl rfl (Nat.le_of_ble_eq_true rfl) (fh_d d_Li_clear 8 rfl) (fun H locs hP hS => ?_)
  obtain ⟨h5, eh5⟩ : ∃ z : fh_H, z = fh_up h3 a (.inr (3, [.int (c0 0), .int (c0 1), .int (c0 2), .int (c0 3), .int (c0 4), .null, .int 0, .int 0, va_rf ((r0 8).map (fun z => x + 65 + z))])) := ⟨_, rfl⟩
  replace hP : fh_P D fh_cl b h5 n H := by rw [eh5]; exact hP
  have k6 : h5 a = some (.inr (3, [.int (c0 0), .int (c0 1), .int (c0 2), .int (c0 3), .int (c0 4), .null, .int 0, .int 0, va_rf ((r0 8).map (fun z => x + 65 + z))])) := by rw [eh5]; exact fh_up_same
  refine lv_aload_n hx hb (fh_d d_Li_clear 9 rfl) rfl (lv_at hl 0 rfl) ?_
  refine lv_null hx hb (fh_d d_Li_clear 10 rfl) ?_
  refine fh_put (own := "FormulaSetter$Line") (ref := "FormulaSetter$Line") (C := "FormulaSetter$Line") (T := T_Li) (N := 9) (v := .null) (ty := (.object "FormulaSetter$Line")) hx hb hT i_Li t_Li k_Li n_Li hown hK hP hS k6 rfl 8 (by decide) (hT _ w162) (fun _ h9 => h9) rfl (by decide +kernel) rfl rfl (Nat.le_of_ble_eq_true rfl) (fh_d d_Li_clear 11 rfl) (fun H locs hP hS => ?_)
  obtain ⟨h7, eh7⟩ : ∃ z : fh_H, z = fh_up h5 a (.inr (3, [.int (c0 0), .int (c0 1), .int (c0 2), .int (c0 3), .int (c0 4), .null, .int 0, .int 0, .null])) := ⟨_, rfl⟩
  replace hP : fh_P D fh_cl b h7 n H := by rw [eh7]; exact hP
  have k8 : h7 a = some (.inr (3, [.int (c0 0), .int (c0 1), .int (c0 2), .int (c0 3), .int (c0 4), .null, .int 0, .int 0, .null])) := by rw [eh7]; exact fh_up_same
  refine fh_vret X hP hS (fh_d d_Li_clear 12 rfl) ⟨rfl, ?_, rfl⟩
  rw [eh7, eh5, eh3, eh1]
  repeat rw [fh_up_up]
  rfl
