/-! The Reader: readSides, readCells. Printed by wip/whole/gen/p50.py -/
set_option maxHeartbeats 4000000 in
set_option maxRecDepth 100000 in
theorem m_Rd_readSides (l : Launch) (D : va_G) (ct : Nat → ClassId) (b : Nat) (RO : State → Prop) (hR : fh_R b RO) (sA sV : Nat → Nat) (hSt : ∀ U, RO U → ro_S b sA sV U) (kA aA yA : Nat → Nat) (tK tS tM : Nat) (hEn : ∀ U, RO U → ro_E b sA kA aA yA tK tS tM U) (hAd : ad_ok kA aA yA) (n x : Nat) (g : fh_H) (f : Nat → Int32) (L : Nat) (hL : L ≤ 160) (hg1 : g (x + 1) = some (.inl (ct 1, 160, .inl f))) (hf7 : ∀ j, f j = (nI (ixI (f j))) ∧ ixI (f j) < 128) (L1 : RT → Option RT) (dp r0 : Nat) (hL1 : cL l D ct b RO kA aA n x g L (dp + 1) r0 L1) (hB1 : bL L L1) (r : Nat) (hr : r0 + 1 ≤ r) (hr5 : 5 ≤ r) (i : Nat) (hi : i < 60) (nc lc a : Nat) (C : Nat → Nat → Int32) (R : Nat → Nat → Option Nat) (CL : Nat → Nat → Int32) (RL : Nat → Nat → Option Nat) (hnc : nc ≤ 60) (hlc : lc ≤ 161) (hal : a ≤ L) (hok : okR C CL) : fh_C l D fh_cl (fh_tys ct) b RO y_Rd_readSides (Cond.code y_Rd_readSides c_Rd_readSides 3 (Option.some FieldType.boolean) :: fh_T) (fh_rm r 0 0) [.ref (x + 2), .ref (x + 4 + i), .int (nI dp)] (mkR x kA aA g (nI nc) (nI lc) (.ref (x + 1)) (nI L) (nI a) C R CL RL) n (rdB x kA aA g L n (pSides f L L1 i (nc, lc, a, C, R, CL, RL))) 0 0 := by
  refine fh_enter (by decide) (Nat.le_of_ble_eq_true rfl) [(0, .ref (x + 2)), (1, .ref (x + 4 + i)), (2, .int (nI dp))] rfl ?_
  intro p e s m args below meth c H ls X hP hS hl
  have hx := X.1
  have hb := X.2.1
  have hml := X.2.2.1
  have hown : s.vm.findClass "FormulaSetter$Reader" = some m.cls := X.2.2.2.1
  have hT := X.2.2.2.2.1
  have hK := X.2.2.2.2.2.1
  have hRO := X.2.2.2.2.2.2.1
  have hnm : meth.name = "readSides" := X.2.2.2.2.2.2.2.2.2.2
  have hf : ∀ j, f j = (nI (ixI (f j))) ∧ ixI (f j) < 256 := fun j => ⟨(hf7 j).1, by have := (hf7 j).2; omega⟩
  have eRt : ∀ z, nI z + (nI (st_b 0).length + 1) = nI (z + 6) := fun z => by rw [show nI (st_b 0).length + 1 = nI 6 from by decide, nI_add]
  have l5 : (st_b 0).length = 5 := rfl
  refine lv_aload_n hx hb (fh_d d_Rd_readSides 0 rfl) rfl (lv_at hl 1 rfl) ?_
  refine lv_aload_n hx hb (fh_d d_Rd_readSides 1 rfl) rfl (lv_at hl 0 rfl) ?_
  have hC := m_Rd_takeSide l D ct b RO hR sA sV hSt (r - 1) (by omega) n x kA aA g C R CL RL (nI nc) (nI lc) f L a hL (by omega) hg1 hf7
  by_cases t1 : isSd (hre f L (sk f L a))
  · rw [if_pos t1, if_pos t1] at hC
    refine fh_callV (cc' := c_Rd_takeSide) (nL' := 2) (rest := [.ref (x + 4 + i)]) (a := x + 2) (As := []) X hR (hC) w527 w524 w526 v13 w2 ⟨by decide, by decide, by show _ = some 0; decide +kernel⟩ (by omega) (by decide) (fh_recv hK hP mkR_rd rfl) hP hS hl.1 rfl (by exact Nat.le_of_ble_eq_true rfl) (fh_d d_Rd_readSides 2 rfl) ⟨Nat.le_refl _, Nat.le_refl _⟩ (fun v9 h9 n9 H locs hq hP hS => ?_)
    obtain ⟨rfl, u2, u3⟩ := hq
    rw [u2, u3] at hP
    have t1l : sk f L a < L := hre_lt (fun z => absurd t1 (by rw [z]; decide))
    refine fh_put (own := "FormulaSetter$Reader") (ref := "FormulaSetter$Nucleus") (C := "FormulaSetter$Nucleus") (T := T_Nu) (N := 15) (v := .int (hre f L (sk f L a))) (ty := .int) hx hb hT i_Nu t_Nu k_Nu n_Nu hown hK hP hS (mkR_nu (hi)) rfl 7 (by decide) (hT _ w59) (fun _ h9 => h9) rfl (by decide +kernel) rfl rfl (Nat.le_of_ble_eq_true rfl) (fh_d d_Rd_readSides 3 rfl) (fun H locs hP hS => ?_)
    replace hP := fh_P.eq (h' := mkR x kA aA g (nI nc) (nI lc) (.ref (x + 1)) (nI L) (nI (sk f L a + 1)) (sT C i 7 (hre f L (sk f L a))) R CL RL) hP (mkR_nu7 (v := hre f L (sk f L a)) (hi))
    have f4 : (sT C i 7 (hre f L (sk f L a))) i 7 = hre f L (sk f L a) := sT_same
    refine lv_aload_n hx hb (fh_d d_Rd_readSides 4 rfl) rfl (lv_at hl 1 rfl) ?_
    refine fh_get (own := "FormulaSetter$Reader") (ref := "FormulaSetter$Nucleus") (C := "FormulaSetter$Nucleus") (T := T_Nu) (N := 15) (v := .int (hre f L (sk f L a))) hx hb hT i_Nu hown hK hP (mkR_nu (hi)) rfl 7 (by decide) (hT _ w59) (fun _ h9 => h9) (by show some (Value.int ((sT C i 7 (hre f L (sk f L a))) i 7)) = _; rw [f4]) (fh_d d_Rd_readSides 5 rfl) ?_
    refine lv_if_ne (tgt := 17) hx hb (fh_d d_Rd_readSides 6 rfl) rfl (fun c5 => ?_) (fun c5 => absurd c5 (fun z => absurd t1 (by rw [z]; decide)))
    refine lv_aload_n hx hb (fh_d d_Rd_readSides 9 rfl) rfl (lv_at hl 1 rfl) ?_
    refine lv_aload_n hx hb (fh_d d_Rd_readSides 10 rfl) rfl (lv_at hl 0 rfl) ?_
    refine lv_iload_n hx hb (fh_d d_Rd_readSides 11 rfl) rfl (lv_at hl 2 rfl) ?_
    refine lv_iconst (v := 1) hx hb (fh_d d_Rd_readSides 12 rfl) (by decide) ?_
    refine lv_iadd hx hb (fh_d d_Rd_readSides 13 rfl) ?_
    rw [nI_1 dp]
    refine fh_callV (cc' := c_Rd_readLine) (nL' := 6) (rest := [.ref (x + 4 + i)]) (a := x + 2) (As := [.int (nI (dp + 1))]) X hR (hL1 (r - 1) (by omega) nc lc (sk f L a + 1) (sT C i 7 (hre f L (sk f L a))) R CL RL (by omega) (by omega) (by omega) (by repeat' first | assumption | apply okR_7 | apply okR_8 | apply okR_nu | apply okR_li | apply okR_l6 | apply okR_l7 | omega)) w303 w300 w302 v0 w2 ⟨by decide, by decide, by show _ = some 1; decide +kernel⟩ (by omega) (by decide) (fh_recv hK hP mkR_rd rfl) hP hS hl.1 rfl (by exact Nat.le_of_ble_eq_true rfl) (fh_d d_Rd_readSides 14 rfl) ⟨Nat.le_refl _, Nat.le_refl _⟩ (fun v9 h9 n9 H locs hq hP hS => ?_)
    obtain ⟨ua6, ⟨nc_6, lc_6, a_6, C_6, R_6, CL_6, RL_6, e6, rfl, ub6⟩ | ⟨e6, rfl, nc_6, lc_6, a_6, C_6, R_6, CL_6, RL_6, ub6, uk6⟩⟩ := hq
    · rw [ua6, ub6] at hP
      have hB6 := hB1 _ _ _ _ _ _ _ _ _ _ _ _ _ _ (by omega) (by omega) (by omega) (by repeat' first | assumption | apply okR_7 | apply okR_8 | apply okR_nu | apply okR_li | apply okR_l6 | apply okR_l7 | omega) e6
      have uk6 := hB6.2.2.2.2.2.2
      refine fh_put (own := "FormulaSetter$Reader") (ref := "FormulaSetter$Nucleus") (C := "FormulaSetter$Nucleus") (T := T_Nu) (N := 15) (v := .ref (x + 65 + lc)) (ty := (.object "FormulaSetter$Line")) hx hb hT i_Nu t_Nu k_Nu n_Nu hown hK hP hS (mkR_nu (hi)) rfl 11 (by decide) (hT _ w71) (fun _ h9 => h9) rfl (by decide +kernel) rfl rfl (Nat.le_of_ble_eq_true rfl) (fh_d d_Rd_readSides 15 rfl) (fun H locs hP hS => ?_)
      replace hP := fh_P.eq (h' := mkR x kA aA g (nI nc_6) (nI lc_6) (.ref (x + 1)) (nI L) (nI a_6) C_6 (sT R_6 i 11 (some lc)) CL_6 RL_6) hP (mkR_nu11 (v := some lc) (hi))
      have f7 : (sT R_6 i 11 (some lc)) i 11 = some lc := sT_same
      refine lv_aload_n hx hb (fh_d d_Rd_readSides 16 rfl) rfl (lv_at hl 1 rfl) ?_
      refine fh_get (own := "FormulaSetter$Reader") (ref := "FormulaSetter$Nucleus") (C := "FormulaSetter$Nucleus") (T := T_Nu) (N := 15) (v := .ref (x + 65 + lc)) hx hb hT i_Nu hown hK hP (mkR_nu (hi)) rfl 11 (by decide) (hT _ w71) (fun _ h9 => h9) (by show some (va_rf (((sT R_6 i 11 (some lc)) i 11).map (fun z => x + 65 + z))) = _; rw [f7]; rfl) (fh_d d_Rd_readSides 17 rfl) ?_
      refine lv_ifnull hx hb (fh_d d_Rd_readSides 18 rfl) ?_
      refine lv_aload_n hx hb (fh_d d_Rd_readSides 19 rfl) rfl (lv_at hl 0 rfl) ?_
      refine va_ldcS (own := "FormulaSetter$Reader") (tx := "right") (index := 85) hx hb hown ((hSt _ hRO).1 0 (by decide)).2.2.2.2 (fh_d d_Rd_readSides 20 rfl) ?_
      have hC := m_Rd_seesCommand l D ct b RO hR sA sV hSt (r - 1) (by omega) n x kA aA g C_6 (sT R_6 i 11 (some lc)) CL_6 RL_6 (nI nc_6) (nI lc_6) f L a_6 hL (by omega) hg1 hf7 0 (by decide)
      by_cases t9 : scm f L (sk f L a_6) 0
      · rw [if_pos t9] at hC
        refine fh_callV (cc' := c_Rd_seesCommand) (nL' := 4) (rest := []) (a := x + 2) (As := [.ref (sA 0)]) X hR (hC) w328 w325 w327 v5 w2 ⟨by decide, by decide, by show _ = some 1; decide +kernel⟩ (by omega) (by decide) (fh_recv hK hP mkR_rd rfl) hP hS hl.1 rfl (by exact Nat.le_of_ble_eq_true rfl) (fh_d d_Rd_readSides 21 rfl) ⟨Nat.le_refl _, Nat.le_refl _⟩ (fun v9 h9 n9 H locs hq hP hS => ?_)
        obtain ⟨rfl, u10, u11⟩ := hq
        rw [u10, u11] at hP
        have t9l := t9.2.1
        refine lv_if_ne (tgt := 46) hx hb (fh_d d_Rd_readSides 22 rfl) rfl (fun c12 => ?_) (fun c12 => absurd c12 (by decide))
        refine lv_aload_n hx hb (fh_d d_Rd_readSides 25 rfl) rfl (lv_at hl 0 rfl) ?_
        refine lv_dup hx hb (fh_d d_Rd_readSides 26 rfl) rfl ?_
        refine fh_get (own := "FormulaSetter$Reader") (ref := "FormulaSetter$Reader") (C := "FormulaSetter$Reader") (T := T_Rd) (N := 7) (v := .int (nI (sk f L a_6))) hx hb hT i_Rd hown hK hP mkR_rd rfl 6 (by decide) (hT _ w186) (fun _ h9 => h9) (rfl) (fh_d d_Rd_readSides 27 rfl) ?_
        refine va_ldcS (own := "FormulaSetter$Reader") (tx := "right") (index := 85) hx hb hown ((hSt _ hRO).1 0 (by decide)).2.2.2.2 (fh_d d_Rd_readSides 28 rfl) ?_
        refine fh_callV (cc' := c_St_length) (nL' := 1) (rest := [.int (nI (sk f L a_6)), .ref (x + 2)]) (a := sA 0) (As := []) X hR (m_St_length l D ct b RO hR sA sV hSt (r - 1) n 0 (by omega) (by decide) (mkR x kA aA g (nI nc_6) (nI lc_6) (.ref (x + 1)) (nI L) (nI (sk f L a_6)) C_6 (sT R_6 i 11 (some lc)) CL_6 RL_6)) w332 w329 w330 w331 w15 ⟨by decide, by decide, by show _ = some 0; decide +kernel⟩ (by omega) (by decide) (fs_recv ((hSt _ hRO).1 0 (by decide)).1 hS) hP hS hl.1 rfl (by exact Nat.le_of_ble_eq_true rfl) (fh_d d_Rd_readSides 29 rfl) ⟨Nat.le_refl _, Nat.le_refl _⟩ (fun v9 h9 n9 H locs hq hP hS => ?_)
        obtain ⟨rfl, u13, u14⟩ := hq
        rw [u13, u14] at hP
        refine lv_iconst (v := 1) hx hb (fh_d d_Rd_readSides 30 rfl) (by decide) ?_
        refine lv_iadd hx hb (fh_d d_Rd_readSides 31 rfl) ?_
        refine lv_iadd hx hb (fh_d d_Rd_readSides 32 rfl) ?_
        refine fh_put (own := "FormulaSetter$Reader") (ref := "FormulaSetter$Reader") (C := "FormulaSetter$Reader") (T := T_Rd) (N := 7) (v := .int ((nI (sk f L a_6)) + ((nI (st_b 0).length) + 1))) (ty := .int) hx hb hT i_Rd t_Rd k_Rd n_Rd hown hK hP hS mkR_rd rfl 6 (by decide) (hT _ w186) (fun _ h9 => h9) rfl (by decide +kernel) rfl rfl (Nat.le_of_ble_eq_true rfl) (fh_d d_Rd_readSides 33 rfl) (fun H locs hP hS => ?_)
        replace hP := fh_P.eq (h' := mkR x kA aA g (nI nc_6) (nI lc_6) (.ref (x + 1)) (nI L) ((nI (sk f L a_6)) + ((nI (st_b 0).length) + 1)) C_6 (sT R_6 i 11 (some lc)) CL_6 RL_6) hP mkR_urd
        rw [eRt] at hP
        refine lv_aload_n hx hb (fh_d d_Rd_readSides 34 rfl) rfl (lv_at hl 1 rfl) ?_
        refine lv_aload_n hx hb (fh_d d_Rd_readSides 35 rfl) rfl (lv_at hl 0 rfl) ?_
        have hC := m_Rd_takeSide l D ct b RO hR sA sV hSt (r - 1) (by omega) n x kA aA g C_6 (sT R_6 i 11 (some lc)) CL_6 RL_6 (nI nc_6) (nI lc_6) f L (sk f L a_6 + 6) hL (by omega) hg1 hf7
        by_cases t15 : isSd (hre f L (sk f L (sk f L a_6 + 6)))
        · rw [if_pos t15, if_pos t15] at hC
          refine fh_callV (cc' := c_Rd_takeSide) (nL' := 2) (rest := [.ref (x + 4 + i)]) (a := x + 2) (As := []) X hR (hC) w527 w524 w526 v13 w2 ⟨by decide, by decide, by show _ = some 0; decide +kernel⟩ (by omega) (by decide) (fh_recv hK hP mkR_rd rfl) hP hS hl.1 rfl (by exact Nat.le_of_ble_eq_true rfl) (fh_d d_Rd_readSides 36 rfl) ⟨Nat.le_refl _, Nat.le_refl _⟩ (fun v9 h9 n9 H locs hq hP hS => ?_)
          obtain ⟨rfl, u16, u17⟩ := hq
          rw [u16, u17] at hP
          have t15l : sk f L (sk f L a_6 + 6) < L := hre_lt (fun z => absurd t15 (by rw [z]; decide))
          refine fh_put (own := "FormulaSetter$Reader") (ref := "FormulaSetter$Nucleus") (C := "FormulaSetter$Nucleus") (T := T_Nu) (N := 15) (v := .int (hre f L (sk f L (sk f L a_6 + 6)))) (ty := .int) hx hb hT i_Nu t_Nu k_Nu n_Nu hown hK hP hS (mkR_nu (hi)) rfl 8 (by decide) (hT _ w62) (fun _ h9 => h9) rfl (by decide +kernel) rfl rfl (Nat.le_of_ble_eq_true rfl) (fh_d d_Rd_readSides 37 rfl) (fun H locs hP hS => ?_)
          replace hP := fh_P.eq (h' := mkR x kA aA g (nI nc_6) (nI lc_6) (.ref (x + 1)) (nI L) (nI (sk f L (sk f L a_6 + 6) + 1)) (sT C_6 i 8 (hre f L (sk f L (sk f L a_6 + 6)))) (sT R_6 i 11 (some lc)) CL_6 RL_6) hP (mkR_nu8 (v := hre f L (sk f L (sk f L a_6 + 6))) (hi))
          have f18 : (sT C_6 i 8 (hre f L (sk f L (sk f L a_6 + 6)))) i 8 = hre f L (sk f L (sk f L a_6 + 6)) := sT_same
          refine lv_aload_n hx hb (fh_d d_Rd_readSides 38 rfl) rfl (lv_at hl 1 rfl) ?_
          refine fh_get (own := "FormulaSetter$Reader") (ref := "FormulaSetter$Nucleus") (C := "FormulaSetter$Nucleus") (T := T_Nu) (N := 15) (v := .int (hre f L (sk f L (sk f L a_6 + 6)))) hx hb hT i_Nu hown hK hP (mkR_nu (hi)) rfl 8 (by decide) (hT _ w62) (fun _ h9 => h9) (by show some (Value.int ((sT C_6 i 8 (hre f L (sk f L (sk f L a_6 + 6)))) i 8)) = _; rw [f18]) (fh_d d_Rd_readSides 39 rfl) ?_
          refine lv_if_eq (tgt := 81) hx hb (fh_d d_Rd_readSides 40 rfl) rfl (fun c19 => absurd c19 (fun z => absurd t15 (by rw [z]; decide))) (fun c19 => ?_)
          refine lv_iconst (v := 1) hx hb (fh_d d_Rd_readSides 41 rfl) (by decide) ?_
          refine lv_goto (tgt := 82) hx hb (fh_d d_Rd_readSides 42 rfl) rfl ?_
          exact fh_zret X hP hS (fh_d d_Rd_readSides 44 rfl) (by decide) ⟨rfl, Or.inl ⟨_, _, _, _, _, _, _, by simp only [pSides, if_pos t1, e6, Option.bind_some, if_pos t9, if_pos t15], rfl, rfl⟩⟩
        · rw [if_neg t15, if_neg t15] at hC
          refine fh_callV (cc' := c_Rd_takeSide) (nL' := 2) (rest := [.ref (x + 4 + i)]) (a := x + 2) (As := []) X hR (hC) w527 w524 w526 v13 w2 ⟨by decide, by decide, by show _ = some 0; decide +kernel⟩ (by omega) (by decide) (fh_recv hK hP mkR_rd rfl) hP hS hl.1 rfl (by exact Nat.le_of_ble_eq_true rfl) (fh_d d_Rd_readSides 36 rfl) ⟨Nat.le_refl _, Nat.le_refl _⟩ (fun v9 h9 n9 H locs hq hP hS => ?_)
          obtain ⟨rfl, u20, u21⟩ := hq
          rw [u20, u21] at hP
          refine fh_put (own := "FormulaSetter$Reader") (ref := "FormulaSetter$Nucleus") (C := "FormulaSetter$Nucleus") (T := T_Nu) (N := 15) (v := .int 0) (ty := .int) hx hb hT i_Nu t_Nu k_Nu n_Nu hown hK hP hS (mkR_nu (hi)) rfl 8 (by decide) (hT _ w62) (fun _ h9 => h9) rfl (by decide +kernel) rfl rfl (Nat.le_of_ble_eq_true rfl) (fh_d d_Rd_readSides 37 rfl) (fun H locs hP hS => ?_)
          replace hP := fh_P.eq (h' := mkR x kA aA g (nI nc_6) (nI lc_6) (.ref (x + 1)) (nI L) (nI (sk f L (sk f L a_6 + 6))) (sT C_6 i 8 0) (sT R_6 i 11 (some lc)) CL_6 RL_6) hP (mkR_nu8 (v := 0) (hi))
          have f22 : (sT C_6 i 8 0) i 8 = 0 := sT_same
          refine lv_aload_n hx hb (fh_d d_Rd_readSides 38 rfl) rfl (lv_at hl 1 rfl) ?_
          refine fh_get (own := "FormulaSetter$Reader") (ref := "FormulaSetter$Nucleus") (C := "FormulaSetter$Nucleus") (T := T_Nu) (N := 15) (v := .int 0) hx hb hT i_Nu hown hK hP (mkR_nu (hi)) rfl 8 (by decide) (hT _ w62) (fun _ h9 => h9) (by show some (Value.int ((sT C_6 i 8 0) i 8)) = _; rw [f22]) (fh_d d_Rd_readSides 39 rfl) ?_
          refine lv_if_eq (tgt := 81) hx hb (fh_d d_Rd_readSides 40 rfl) rfl (fun c23 => ?_) (fun c23 => absurd c23 (Classical.not_not.mpr rfl))
          refine lv_iconst (v := 0) hx hb (fh_d d_Rd_readSides 43 rfl) (by decide) ?_
          exact fh_zret X hP hS (fh_d d_Rd_readSides 44 rfl) (by decide) ⟨rfl, Or.inr ⟨by simp only [pSides, if_pos t1, e6, Option.bind_some, if_pos t9, if_neg t15], rfl, rdF_mk (by repeat' first | assumption | apply okR_7 | apply okR_8 | apply okR_nu | apply okR_li | apply okR_l6 | apply okR_l7 | omega)⟩⟩
      · rw [if_neg t9] at hC
        refine fh_callV (cc' := c_Rd_seesCommand) (nL' := 4) (rest := []) (a := x + 2) (As := [.ref (sA 0)]) X hR (hC) w328 w325 w327 v5 w2 ⟨by decide, by decide, by show _ = some 1; decide +kernel⟩ (by omega) (by decide) (fh_recv hK hP mkR_rd rfl) hP hS hl.1 rfl (by exact Nat.le_of_ble_eq_true rfl) (fh_d d_Rd_readSides 21 rfl) ⟨Nat.le_refl _, Nat.le_refl _⟩ (fun v9 h9 n9 H locs hq hP hS => ?_)
        obtain ⟨rfl, u24, u25⟩ := hq
        rw [u24, u25] at hP
        refine lv_if_ne (tgt := 46) hx hb (fh_d d_Rd_readSides 22 rfl) rfl (fun c26 => absurd c26 (Classical.not_not.mpr rfl)) (fun c26 => ?_)
        refine lv_iconst (v := 0) hx hb (fh_d d_Rd_readSides 23 rfl) (by decide) ?_
        exact fh_zret X hP hS (fh_d d_Rd_readSides 24 rfl) (by decide) ⟨rfl, Or.inr ⟨by simp only [pSides, if_pos t1, e6, Option.bind_some, if_neg t9], rfl, rdF_mk (by repeat' first | assumption | apply okR_7 | apply okR_8 | apply okR_nu | apply okR_li | apply okR_l6 | apply okR_l7 | omega)⟩⟩
    · rw [ua6, ub6] at hP
      refine W.eq (g2 := F0 m 25 ls [.null, .ref (x + 4 + i)]) rfl ?_
      refine fh_put (own := "FormulaSetter$Reader") (ref := "FormulaSetter$Nucleus") (C := "FormulaSetter$Nucleus") (T := T_Nu) (N := 15) (v := .null) (ty := (.object "FormulaSetter$Line")) hx hb hT i_Nu t_Nu k_Nu n_Nu hown hK hP hS (mkR_nu (hi)) rfl 11 (by decide) (hT _ w71) (fun _ h9 => h9) rfl (by decide +kernel) rfl rfl (Nat.le_of_ble_eq_true rfl) (fh_d d_Rd_readSides 15 rfl) (fun H locs hP hS => ?_)
      replace hP := fh_P.eq (h' := mkR x kA aA g nc_6 lc_6 (.ref (x + 1)) (nI L) a_6 C_6 (sT R_6 i 11 none) CL_6 RL_6) hP (mkR_nu11 (v := none) (hi))
      have f27 : (sT R_6 i 11 none) i 11 = none := sT_same
      refine lv_aload_n hx hb (fh_d d_Rd_readSides 16 rfl) rfl (lv_at hl 1 rfl) ?_
      refine fh_get (own := "FormulaSetter$Reader") (ref := "FormulaSetter$Nucleus") (C := "FormulaSetter$Nucleus") (T := T_Nu) (N := 15) (v := .null) hx hb hT i_Nu hown hK hP (mkR_nu (hi)) rfl 11 (by decide) (hT _ w71) (fun _ h9 => h9) (by show some (va_rf (((sT R_6 i 11 none) i 11).map (fun z => x + 65 + z))) = _; rw [f27]; rfl) (fh_d d_Rd_readSides 17 rfl) ?_
      refine lv_ifnullN (tgt := 44) hx hb (fh_d d_Rd_readSides 18 rfl) rfl ?_
      refine lv_iconst (v := 0) hx hb (fh_d d_Rd_readSides 23 rfl) (by decide) ?_
      exact fh_zret X hP hS (fh_d d_Rd_readSides 24 rfl) (by decide) ⟨rfl, Or.inr ⟨by simp only [pSides, if_pos t1, e6, Option.bind_none], rfl, rdF_mk (by repeat' first | assumption | apply okR_7 | apply okR_8 | apply okR_nu | apply okR_li | apply okR_l6 | apply okR_l7 | omega)⟩⟩
  · rw [if_neg t1, if_neg t1] at hC
    refine fh_callV (cc' := c_Rd_takeSide) (nL' := 2) (rest := [.ref (x + 4 + i)]) (a := x + 2) (As := []) X hR (hC) w527 w524 w526 v13 w2 ⟨by decide, by decide, by show _ = some 0; decide +kernel⟩ (by omega) (by decide) (fh_recv hK hP mkR_rd rfl) hP hS hl.1 rfl (by exact Nat.le_of_ble_eq_true rfl) (fh_d d_Rd_readSides 2 rfl) ⟨Nat.le_refl _, Nat.le_refl _⟩ (fun v9 h9 n9 H locs hq hP hS => ?_)
    obtain ⟨rfl, u29, u30⟩ := hq
    rw [u29, u30] at hP
    refine fh_put (own := "FormulaSetter$Reader") (ref := "FormulaSetter$Nucleus") (C := "FormulaSetter$Nucleus") (T := T_Nu) (N := 15) (v := .int 0) (ty := .int) hx hb hT i_Nu t_Nu k_Nu n_Nu hown hK hP hS (mkR_nu (hi)) rfl 7 (by decide) (hT _ w59) (fun _ h9 => h9) rfl (by decide +kernel) rfl rfl (Nat.le_of_ble_eq_true rfl) (fh_d d_Rd_readSides 3 rfl) (fun H locs hP hS => ?_)
    replace hP := fh_P.eq (h' := mkR x kA aA g (nI nc) (nI lc) (.ref (x + 1)) (nI L) (nI (sk f L a)) (sT C i 7 0) R CL RL) hP (mkR_nu7 (v := 0) (hi))
    have f31 : (sT C i 7 0) i 7 = 0 := sT_same
    refine lv_aload_n hx hb (fh_d d_Rd_readSides 4 rfl) rfl (lv_at hl 1 rfl) ?_
    refine fh_get (own := "FormulaSetter$Reader") (ref := "FormulaSetter$Nucleus") (C := "FormulaSetter$Nucleus") (T := T_Nu) (N := 15) (v := .int 0) hx hb hT i_Nu hown hK hP (mkR_nu (hi)) rfl 7 (by decide) (hT _ w59) (fun _ h9 => h9) (by show some (Value.int ((sT C i 7 0) i 7)) = _; rw [f31]) (fh_d d_Rd_readSides 5 rfl) ?_
    refine lv_if_ne (tgt := 17) hx hb (fh_d d_Rd_readSides 6 rfl) rfl (fun c32 => absurd c32 (Classical.not_not.mpr rfl)) (fun c32 => ?_)
    refine lv_iconst (v := 0) hx hb (fh_d d_Rd_readSides 7 rfl) (by decide) ?_
    exact fh_zret X hP hS (fh_d d_Rd_readSides 8 rfl) (by decide) ⟨rfl, Or.inr ⟨by simp only [pSides, if_neg t1], rfl, rdF_mk (by repeat' first | assumption | apply okR_7 | apply okR_8 | apply okR_nu | apply okR_li | apply okR_l6 | apply okR_l7 | omega)⟩⟩

set_option maxHeartbeats 4000000 in
set_option maxRecDepth 100000 in
theorem m_Rd_readCells (l : Launch) (D : va_G) (ct : Nat → ClassId) (b : Nat) (RO : State → Prop) (hR : fh_R b RO) (sA sV : Nat → Nat) (hSt : ∀ U, RO U → ro_S b sA sV U) (kA aA yA : Nat → Nat) (tK tS tM : Nat) (hEn : ∀ U, RO U → ro_E b sA kA aA yA tK tS tM U) (hAd : ad_ok kA aA yA) (n x : Nat) (g : fh_H) (f : Nat → Int32) (L : Nat) (hL : L ≤ 160) (hg1 : g (x + 1) = some (.inl (ct 1, 160, .inl f))) (hf7 : ∀ j, f j = (nI (ixI (f j))) ∧ ixI (f j) < 128) (L1 : RT → Option RT) (dp r0 : Nat) (hL1 : cL l D ct b RO kA aA n x g L (dp + 1) r0 L1) (hB1 : bL L L1) (r : Nat) (hr : r0 + 1 ≤ r) (hr5 : 5 ≤ r) (i : Nat) (hi : i < 60) (nc lc a : Nat) (C : Nat → Nat → Int32) (R : Nat → Nat → Option Nat) (CL : Nat → Nat → Int32) (RL : Nat → Nat → Option Nat) (hnc : nc ≤ 60) (hlc : lc ≤ 161) (hal : a ≤ L) (hok : okR C CL) : fh_C l D fh_cl (fh_tys ct) b RO y_Rd_readCells (Cond.code y_Rd_readCells c_Rd_readCells 8 (Option.some FieldType.boolean) :: fh_T) (fh_rm r 0 0) [.ref (x + 2), .ref (x + 4 + i), .int (nI dp)] (mkR x kA aA g (nI nc) (nI lc) (.ref (x + 1)) (nI L) (nI a) C R CL RL) n (rdB x kA aA g L n (pCells f L L1 i (nc, lc, a, C, R, CL, RL))) 0 0 := by
  refine fh_enter (by decide) (Nat.le_of_ble_eq_true rfl) [(0, .ref (x + 2)), (1, .ref (x + 4 + i)), (2, .int (nI dp))] rfl ?_
  intro p e s m args below meth c H ls X hP hS hl
  have hx := X.1
  have hb := X.2.1
  have hml := X.2.2.1
  have hown : s.vm.findClass "FormulaSetter$Reader" = some m.cls := X.2.2.2.1
  have hT := X.2.2.2.2.1
  have hK := X.2.2.2.2.2.1
  have hRO := X.2.2.2.2.2.2.1
  have hnm : meth.name = "readCells" := X.2.2.2.2.2.2.2.2.2.2
  have hf : ∀ j, f j = (nI (ixI (f j))) ∧ ixI (f j) < 256 := fun j => ⟨(hf7 j).1, by have := (hf7 j).2; omega⟩
  obtain ⟨Q0, hQ0⟩ : ∃ z, z = pCells f L L1 i (nc, lc, a, C, R, CL, RL) := ⟨_, rfl⟩
  rw [← hQ0]
  have loop : ∀ (t i0 : Nat), i0 + t = 161 → ∀ (row col : Nat) (last : Option Nat) (nc lc a : Nat) (C : Nat → Nat → Int32) (R : Nat → Nat → Option Nat) (CL : Nat → Nat → Int32) (RL : Nat → Nat → Option Nat), row ≤ 8 → col ≤ 8 → (∀ q, last = some q → q < 161) → nc ≤ 60 → lc ≤ 161 → a ≤ L → okR C CL → pCell f L L1 i t row col last (nc, lc, a, C, R, CL, RL) = Q0 → ∀ (H : Heap) (locs : List Loc) (ls : Array Slot), fh_P D fh_cl b (mkR x kA aA g (nI nc) (nI lc) (.ref (x + 1)) (nI L) (nI a) C R CL RL) n H → va_S (fh_A b) s.heap H locs → lv_has ls 8 [(6, .int (nI i0)), (5, va_rf (last.map (fun z => x + 65 + z))), (4, .int (nI col)), (3, .int (nI row)), (0, .ref (x + 2)), (1, .ref (x + 4 + i)), (2, .int (nI dp))] → W p l e (fh_rm r 0 0) s m args below meth c H locs 0 0 (MQ below (fh_Post D fh_cl b (rdB x kA aA g L n Q0)) args s 0 0 (fh_A b)) (F0 m 22 ls []) := by
    intro t
    induction t with
    | zero =>
      intro i0 hik row col last nc lc a C R CL RL hrow hcol hlast hnc hlc hal hok hq0 H locs ls hP hS hl
      refine lv_iload hx hb (fh_d d_Rd_readCells 14 rfl) (lv_at hl 0 rfl) ?_
      refine lv_sipush (v := 161) hx hb (fh_d d_Rd_readCells 15 rfl) (by decide) ?_
      refine lv_icmp_ge (tgt := 157) hx hb (fh_d d_Rd_readCells 16 rfl) rfl (fun c1 => ?_) (fun c1 => absurd c1 (fun c9 => c1 ((nI_leI (a := 161) (b := i0) (by decide) (by omega)).mpr (by omega))))
      refine lv_iconst (v := 0) hx hb (fh_d d_Rd_readCells 79 rfl) (by decide) ?_
      exact fh_zret X hP hS (fh_d d_Rd_readCells 80 rfl) (by decide) ⟨rfl, Or.inr ⟨hq0.symm, rfl, rdF_mk (by repeat' first | assumption | apply okR_7 | apply okR_8 | apply okR_nu | apply okR_li | apply okR_l6 | apply okR_l7 | omega)⟩⟩
    | succ t ih =>
      intro i0 hik row col last nc lc a C R CL RL hrow hcol hlast hnc hlc hal hok hq0 H locs ls hP hS hl
      rcases last with _ | q
      · have hi := hi
        have hl : lv_has ls 8 [(6, .int (nI i0)), (5, .null), (4, .int (nI col)), (3, .int (nI row)), (0, .ref (x + 2)), (1, .ref (x + 4 + i)), (2, .int (nI dp))] := hl
        refine lv_iload hx hb (fh_d d_Rd_readCells 14 rfl) (lv_at hl 0 rfl) ?_
        refine lv_sipush (v := 161) hx hb (fh_d d_Rd_readCells 15 rfl) (by decide) ?_
        refine lv_icmp_ge (tgt := 157) hx hb (fh_d d_Rd_readCells 16 rfl) rfl (fun c2 => absurd c2 (fun c9 => absurd ((nI_leI (a := 161) (b := i0) (by decide) (by omega)).mp c9) (by omega))) (fun c2 => ?_)
        refine lv_iload_n hx hb (fh_d d_Rd_readCells 17 rfl) rfl (lv_at hl 3 rfl) ?_
        refine lv_bipush (v := 8) hx hb (fh_d d_Rd_readCells 18 rfl) (by decide) ?_
        refine lv_icmp_ge (tgt := 157) hx hb (fh_d d_Rd_readCells 19 rfl) rfl (fun c3 => ?_) (fun c3 => ?_)
        · refine lv_iconst (v := 0) hx hb (fh_d d_Rd_readCells 79 rfl) (by decide) ?_
          exact fh_zret X hP hS (fh_d d_Rd_readCells 80 rfl) (by decide) ⟨rfl, Or.inr ⟨by rw [← hq0]; simp only [pCell]; rw [if_neg (fun z => absurd z.1 (by have := (nI_leI (a := 8) (b := row) (by decide) (by omega)).mp c3; omega))], rfl, rdF_mk (by repeat' first | assumption | apply okR_7 | apply okR_8 | apply okR_nu | apply okR_li | apply okR_l6 | apply okR_l7 | omega)⟩⟩
        · have hrow2 : row < 8 := Nat.not_le.mp fun z => c3 ((nI_leI (a := 8) (b := row) (by decide) (by omega)).mpr z)
          refine lv_iload hx hb (fh_d d_Rd_readCells 20 rfl) (lv_at hl 2 rfl) ?_
          refine lv_bipush (v := 8) hx hb (fh_d d_Rd_readCells 21 rfl) (by decide) ?_
          refine lv_icmp_ge (tgt := 157) hx hb (fh_d d_Rd_readCells 22 rfl) rfl (fun c4 => ?_) (fun c4 => ?_)
          · refine lv_iconst (v := 0) hx hb (fh_d d_Rd_readCells 79 rfl) (by decide) ?_
            exact fh_zret X hP hS (fh_d d_Rd_readCells 80 rfl) (by decide) ⟨rfl, Or.inr ⟨by rw [← hq0]; simp only [pCell]; rw [if_neg (fun z => absurd z.2 (by have := (nI_leI (a := 8) (b := col) (by decide) (by omega)).mp c4; omega))], rfl, rdF_mk (by repeat' first | assumption | apply okR_7 | apply okR_8 | apply okR_nu | apply okR_li | apply okR_l6 | apply okR_l7 | omega)⟩⟩
          · have hcol2 : col < 8 := Nat.not_le.mp fun z => c4 ((nI_leI (a := 8) (b := col) (by decide) (by omega)).mpr z)
            refine lv_aload_n hx hb (fh_d d_Rd_readCells 23 rfl) rfl (lv_at hl 4 rfl) ?_
            refine lv_iload_n hx hb (fh_d d_Rd_readCells 24 rfl) rfl (lv_at hl 6 rfl) ?_
            refine lv_iconst (v := 1) hx hb (fh_d d_Rd_readCells 25 rfl) (by decide) ?_
            refine lv_iadd hx hb (fh_d d_Rd_readCells 26 rfl) ?_
            have hrc : row < 8 ∧ col < 8 := ⟨hrow2, hcol2⟩
            rw [nI_1 dp]
            refine fh_callV (cc' := c_Rd_readLine) (nL' := 6) (rest := []) (a := x + 2) (As := [.int (nI (dp + 1))]) X hR (hL1 (r - 1) (by omega) nc lc a C R CL RL (by omega) (by omega) (by omega) (by repeat' first | assumption | apply okR_7 | apply okR_8 | apply okR_nu | apply okR_li | apply okR_l6 | apply okR_l7 | omega)) w303 w300 w302 v0 w2 ⟨by decide, by decide, by show _ = some 1; decide +kernel⟩ (by omega) (by decide) (fh_recv hK hP mkR_rd rfl) hP hS hl.1 rfl (by exact Nat.le_of_ble_eq_true rfl) (fh_d d_Rd_readCells 27 rfl) ⟨Nat.le_refl _, Nat.le_refl _⟩ (fun v9 h9 n9 H locs hq hP hS => ?_)
            obtain ⟨ua5, ⟨nc_5, lc_5, a_5, C_5, R_5, CL_5, RL_5, e5, rfl, ub5⟩ | ⟨e5, rfl, nc_5, lc_5, a_5, C_5, R_5, CL_5, RL_5, ub5, uk5⟩⟩ := hq
            · rw [ua5, ub5] at hP
              have hB5 := hB1 _ _ _ _ _ _ _ _ _ _ _ _ _ _ (by omega) (by omega) (by omega) (by repeat' first | assumption | apply okR_7 | apply okR_8 | apply okR_nu | apply okR_li | apply okR_l6 | apply okR_l7 | omega) e5
              have uk5 := hB5.2.2.2.2.2.2
              refine lv_astore (lv' := [(7, .ref (x + 65 + lc)), (6, .int (nI i0)), (5, .null), (4, .int (nI col)), (3, .int (nI row)), (0, .ref (x + 2)), (1, .ref (x + 4 + i)), (2, .int (nI dp))]) hx hb (fh_d d_Rd_readCells 28 rfl) hl (by decide) rfl (fun ls hl => ?_)
              refine lv_aload hx hb (fh_d d_Rd_readCells 29 rfl) (lv_at hl 0 rfl) ?_
              refine lv_ifnonnull (tgt := 59) hx hb (fh_d d_Rd_readCells 30 rfl) rfl ?_
              refine lv_aload hx hb (fh_d d_Rd_readCells 33 rfl) (lv_at hl 0 rfl) ?_
              refine lv_iload_n hx hb (fh_d d_Rd_readCells 34 rfl) rfl (lv_at hl 4 rfl) ?_
              refine fh_put (own := "FormulaSetter$Reader") (ref := "FormulaSetter$Line") (C := "FormulaSetter$Line") (T := T_Li) (N := 9) (v := .int (nI row)) (ty := .int) hx hb hT i_Li t_Li k_Li n_Li hown hK hP hS (mkR_li (by omega)) rfl 6 (by decide) (hT _ w158) (fun _ h9 => h9) rfl (by decide +kernel) rfl rfl (Nat.le_of_ble_eq_true rfl) (fh_d d_Rd_readCells 35 rfl) (fun H locs hP hS => ?_)
              replace hP := fh_P.eq (h' := mkR x kA aA g (nI nc_5) (nI lc_5) (.ref (x + 1)) (nI L) (nI a_5) C_5 R_5 (sT CL_5 lc 6 (nI row)) RL_5) hP (mkR_li6 (v := nI row) (by omega))
              have f7 : (sT CL_5 lc 6 (nI row)) lc 6 = nI row := sT_same
              refine lv_aload hx hb (fh_d d_Rd_readCells 36 rfl) (lv_at hl 0 rfl) ?_
              refine lv_iload hx hb (fh_d d_Rd_readCells 37 rfl) (lv_at hl 3 rfl) ?_
              refine fh_put (own := "FormulaSetter$Reader") (ref := "FormulaSetter$Line") (C := "FormulaSetter$Line") (T := T_Li) (N := 9) (v := .int (nI col)) (ty := .int) hx hb hT i_Li t_Li k_Li n_Li hown hK hP hS (mkR_li (by omega)) rfl 7 (by decide) (hT _ w161) (fun _ h9 => h9) rfl (by decide +kernel) rfl rfl (Nat.le_of_ble_eq_true rfl) (fh_d d_Rd_readCells 38 rfl) (fun H locs hP hS => ?_)
              replace hP := fh_P.eq (h' := mkR x kA aA g (nI nc_5) (nI lc_5) (.ref (x + 1)) (nI L) (nI a_5) C_5 R_5 (sT (sT CL_5 lc 6 (nI row)) lc 7 (nI col)) RL_5) hP (mkR_li7 (v := nI col) (by omega))
              have f8 : (sT (sT CL_5 lc 6 (nI row)) lc 7 (nI col)) lc 6 = nI row := (sT_ne (by omega)).trans f7
              have f9 : (sT (sT CL_5 lc 6 (nI row)) lc 7 (nI col)) lc 7 = nI col := sT_same
              refine lv_aloadN hx hb (fh_d d_Rd_readCells 39 rfl) (lv_at hl 2 rfl) ?_
              refine lv_ifnonnullN hx hb (fh_d d_Rd_readCells 40 rfl) ?_
              refine lv_aload_n hx hb (fh_d d_Rd_readCells 41 rfl) rfl (lv_at hl 6 rfl) ?_
              refine lv_aload hx hb (fh_d d_Rd_readCells 42 rfl) (lv_at hl 0 rfl) ?_
              refine fh_put (own := "FormulaSetter$Reader") (ref := "FormulaSetter$Nucleus") (C := "FormulaSetter$Nucleus") (T := T_Nu) (N := 15) (v := .ref (x + 65 + lc)) (ty := (.object "FormulaSetter$Line")) hx hb hT i_Nu t_Nu k_Nu n_Nu hown hK hP hS (mkR_nu (hi)) rfl 11 (by decide) (hT _ w71) (fun _ h9 => h9) rfl (by decide +kernel) rfl rfl (Nat.le_of_ble_eq_true rfl) (fh_d d_Rd_readCells 43 rfl) (fun H locs hP hS => ?_)
              replace hP := fh_P.eq (h' := mkR x kA aA g (nI nc_5) (nI lc_5) (.ref (x + 1)) (nI L) (nI a_5) C_5 (sT R_5 i 11 (some lc)) (sT (sT CL_5 lc 6 (nI row)) lc 7 (nI col)) RL_5) hP (mkR_nu11 (v := some lc) (hi))
              have f11 : (sT R_5 i 11 (some lc)) i 11 = some lc := sT_same
              refine lv_goto (tgt := 93) hx hb (fh_d d_Rd_readCells 44 rfl) rfl ?_
              refine lv_aload hx hb (fh_d d_Rd_readCells 48 rfl) (lv_at hl 0 rfl) ?_
              refine lv_astore (lv' := [(5, .ref (x + 65 + lc)), (7, .ref (x + 65 + lc)), (6, .int (nI i0)), (4, .int (nI col)), (3, .int (nI row)), (0, .ref (x + 2)), (1, .ref (x + 4 + i)), (2, .int (nI dp))]) hx hb (fh_d d_Rd_readCells 49 rfl) hl (by decide) rfl (fun ls hl => ?_)
              refine lv_aload_n hx hb (fh_d d_Rd_readCells 50 rfl) rfl (lv_at hl 5 rfl) ?_
              refine lv_bipush (v := 125) hx hb (fh_d d_Rd_readCells 51 rfl) (by decide) ?_
              have hC := m_Rd_take l D ct b RO hR (r - 1) (by omega) n x kA aA g C_5 (sT R_5 i 11 (some lc)) (sT (sT CL_5 lc 6 (nI row)) lc 7 (nI col)) RL_5 (nI nc_5) (nI lc_5) f L a_5 hL (by omega) hg1 hf 125
              by_cases t12 : hre f L (sk f L a_5) = 125
              · simp only [if_pos t12] at hC
                refine fh_callV (cc' := c_Rd_take) (nL' := 2) (rest := []) (a := x + 2) (As := [.int 125]) X hR (hC) w519 w516 w518 v11 w2 ⟨by decide, by decide, by show _ = some 1; decide +kernel⟩ (by omega) (by decide) (fh_recv hK hP mkR_rd rfl) hP hS hl.1 rfl (by exact Nat.le_of_ble_eq_true rfl) (fh_d d_Rd_readCells 52 rfl) ⟨Nat.le_refl _, Nat.le_refl _⟩ (fun v9 h9 n9 H locs hq hP hS => ?_)
                obtain ⟨rfl, u13, u14⟩ := hq
                rw [u13, u14] at hP
                have t12l : sk f L a_5 < L := hre_lt (by rw [t12]; decide)
                refine lv_if_eq (tgt := 108) hx hb (fh_d d_Rd_readCells 53 rfl) rfl (fun c15 => absurd c15 (by decide)) (fun c15 => ?_)
                refine lv_iconst (v := 1) hx hb (fh_d d_Rd_readCells 54 rfl) (by decide) ?_
                exact fh_zret X hP hS (fh_d d_Rd_readCells 55 rfl) (by decide) ⟨rfl, Or.inl ⟨_, _, _, _, _, _, _, by rw [← hq0]; simp only [pCell, if_pos hrc, e5, Option.bind_some, if_pos t12]; rfl, rfl, rfl⟩⟩
              · simp only [if_neg t12] at hC
                refine fh_callV (cc' := c_Rd_take) (nL' := 2) (rest := []) (a := x + 2) (As := [.int 125]) X hR (hC) w519 w516 w518 v11 w2 ⟨by decide, by decide, by show _ = some 1; decide +kernel⟩ (by omega) (by decide) (fh_recv hK hP mkR_rd rfl) hP hS hl.1 rfl (by exact Nat.le_of_ble_eq_true rfl) (fh_d d_Rd_readCells 52 rfl) ⟨Nat.le_refl _, Nat.le_refl _⟩ (fun v9 h9 n9 H locs hq hP hS => ?_)
                obtain ⟨rfl, u16, u17⟩ := hq
                rw [u16, u17] at hP
                have t12l : sk f L a_5 ≤ L := (sk_ge f L _ a_5 rfl).2 (by omega)
                refine lv_if_eq (tgt := 108) hx hb (fh_d d_Rd_readCells 53 rfl) rfl (fun c18 => ?_) (fun c18 => absurd c18 (Classical.not_not.mpr rfl))
                refine lv_aload_n hx hb (fh_d d_Rd_readCells 56 rfl) rfl (lv_at hl 5 rfl) ?_
                refine lv_bipush (v := 38) hx hb (fh_d d_Rd_readCells 57 rfl) (by decide) ?_
                have hC := m_Rd_take l D ct b RO hR (r - 1) (by omega) n x kA aA g C_5 (sT R_5 i 11 (some lc)) (sT (sT CL_5 lc 6 (nI row)) lc 7 (nI col)) RL_5 (nI nc_5) (nI lc_5) f L (sk f L a_5) hL (by omega) hg1 hf 38
                rw [sk_id f L _ a_5 rfl] at hC
                by_cases t19 : hre f L (sk f L a_5) = 38
                · simp only [if_pos t19] at hC
                  refine fh_callV (cc' := c_Rd_take) (nL' := 2) (rest := []) (a := x + 2) (As := [.int 38]) X hR (hC) w519 w516 w518 v11 w2 ⟨by decide, by decide, by show _ = some 1; decide +kernel⟩ (by omega) (by decide) (fh_recv hK hP mkR_rd rfl) hP hS hl.1 rfl (by exact Nat.le_of_ble_eq_true rfl) (fh_d d_Rd_readCells 58 rfl) ⟨Nat.le_refl _, Nat.le_refl _⟩ (fun v9 h9 n9 H locs hq hP hS => ?_)
                  obtain ⟨rfl, u20, u21⟩ := hq
                  rw [u20, u21] at hP
                  have t19l : sk f L a_5 < L := hre_lt (by rw [t19]; decide)
                  refine lv_if_eq (tgt := 123) hx hb (fh_d d_Rd_readCells 59 rfl) rfl (fun c22 => absurd c22 (by decide)) (fun c22 => ?_)
                  refine lv_iinc (k := 3) (v := (nI col) + 1) (lv' := [(4, .int ((nI col) + 1)), (5, .ref (x + 65 + lc)), (7, .ref (x + 65 + lc)), (6, .int (nI i0)), (3, .int (nI row)), (0, .ref (x + 2)), (1, .ref (x + 4 + i)), (2, .int (nI dp))]) hx hb (fh_d d_Rd_readCells 60 rfl) hl rfl (by rfl) (by decide) rfl (fun ls hl => ?_)
                  refine lv_goto (tgt := 151) hx hb (fh_d d_Rd_readCells 61 rfl) rfl ?_
                  refine lv_iinc (k := 3) (v := (nI i0) + 1) (lv' := [(6, .int ((nI i0) + 1)), (4, .int ((nI col) + 1)), (5, .ref (x + 65 + lc)), (7, .ref (x + 65 + lc)), (3, .int (nI row)), (0, .ref (x + 2)), (1, .ref (x + 4 + i)), (2, .int (nI dp))]) hx hb (fh_d d_Rd_readCells 77 rfl) hl rfl (by rfl) (by decide) rfl (fun ls hl => ?_)
                  refine lv_goto (tgt := 22) hx hb (fh_d d_Rd_readCells 78 rfl) rfl ?_
                  rw [nI_1, nI_1] at hl
                  refine ih (i0 + 1) (by omega) row (col + 1) (some lc) _ _ _ _ _ _ _ (by omega) (by omega) (fun z hz => by obtain rfl := Option.some.inj hz; omega) (by omega) (by omega) (by omega) (by repeat' first | assumption | apply okR_7 | apply okR_8 | apply okR_nu | apply okR_li | apply okR_l6 | apply okR_l7 | omega) ?_ H _ _ hP hS (lv_sub hl [0, 2, 1, 4, 5, 6, 7] rfl)
                  rw [← hq0]; simp only [pCell, if_pos hrc, e5, Option.bind_some, if_neg t12, if_pos t19]; rfl
                · simp only [if_neg t19] at hC
                  refine fh_callV (cc' := c_Rd_take) (nL' := 2) (rest := []) (a := x + 2) (As := [.int 38]) X hR (hC) w519 w516 w518 v11 w2 ⟨by decide, by decide, by show _ = some 1; decide +kernel⟩ (by omega) (by decide) (fh_recv hK hP mkR_rd rfl) hP hS hl.1 rfl (by exact Nat.le_of_ble_eq_true rfl) (fh_d d_Rd_readCells 58 rfl) ⟨Nat.le_refl _, Nat.le_refl _⟩ (fun v9 h9 n9 H locs hq hP hS => ?_)
                  obtain ⟨rfl, u23, u24⟩ := hq
                  rw [u23, u24] at hP
                  have t19l : sk f L a_5 ≤ L := by omega
                  refine lv_if_eq (tgt := 123) hx hb (fh_d d_Rd_readCells 59 rfl) rfl (fun c25 => ?_) (fun c25 => absurd c25 (Classical.not_not.mpr rfl))
                  refine lv_aload_n hx hb (fh_d d_Rd_readCells 62 rfl) rfl (lv_at hl 5 rfl) ?_
                  have hC := m_Rd_seesRowEnd l D ct b RO hR (r - 1) (by omega) n x kA aA g C_5 (sT R_5 i 11 (some lc)) (sT (sT CL_5 lc 6 (nI row)) lc 7 (nI col)) RL_5 (nI nc_5) (nI lc_5) f L (sk f L a_5) hL (by omega) hg1 hf
                  rw [sk_id f L _ a_5 rfl] at hC
                  by_cases t26 : hre f L (sk f L a_5) = 92 ∧ hre f L (sk f L a_5 + 1) = 92
                  · rw [if_pos t26] at hC
                    refine fh_callV (cc' := c_Rd_seesRowEnd) (nL' := 1) (rest := []) (a := x + 2) (As := []) X hR (hC) w323 w320 w322 v4 w2 ⟨by decide, by decide, by show _ = some 0; decide +kernel⟩ (by omega) (by decide) (fh_recv hK hP mkR_rd rfl) hP hS hl.1 rfl (by exact Nat.le_of_ble_eq_true rfl) (fh_d d_Rd_readCells 63 rfl) ⟨Nat.le_refl _, Nat.le_refl _⟩ (fun v9 h9 n9 H locs hq hP hS => ?_)
                    obtain ⟨rfl, u27, u28⟩ := hq
                    rw [u27, u28] at hP
                    have t26l : sk f L a_5 + 1 < L := hre_lt (by rw [t26.2]; decide)
                    refine lv_if_eq (tgt := 149) hx hb (fh_d d_Rd_readCells 64 rfl) rfl (fun c29 => absurd c29 (by decide)) (fun c29 => ?_)
                    refine lv_aload_n hx hb (fh_d d_Rd_readCells 65 rfl) rfl (lv_at hl 5 rfl) ?_
                    refine lv_dup hx hb (fh_d d_Rd_readCells 66 rfl) rfl ?_
                    refine fh_get (own := "FormulaSetter$Reader") (ref := "FormulaSetter$Reader") (C := "FormulaSetter$Reader") (T := T_Rd) (N := 7) (v := .int (nI (sk f L a_5))) hx hb hT i_Rd hown hK hP mkR_rd rfl 6 (by decide) (hT _ w186) (fun _ h9 => h9) (rfl) (fh_d d_Rd_readCells 67 rfl) ?_
                    refine lv_iconst (v := 2) hx hb (fh_d d_Rd_readCells 68 rfl) (by decide) ?_
                    refine lv_iadd hx hb (fh_d d_Rd_readCells 69 rfl) ?_
                    refine fh_put (own := "FormulaSetter$Reader") (ref := "FormulaSetter$Reader") (C := "FormulaSetter$Reader") (T := T_Rd) (N := 7) (v := .int ((nI (sk f L a_5)) + 2)) (ty := .int) hx hb hT i_Rd t_Rd k_Rd n_Rd hown hK hP hS mkR_rd rfl 6 (by decide) (hT _ w186) (fun _ h9 => h9) rfl (by decide +kernel) rfl rfl (Nat.le_of_ble_eq_true rfl) (fh_d d_Rd_readCells 70 rfl) (fun H locs hP hS => ?_)
                    replace hP := fh_P.eq (h' := mkR x kA aA g (nI nc_5) (nI lc_5) (.ref (x + 1)) (nI L) ((nI (sk f L a_5)) + 2) C_5 (sT R_5 i 11 (some lc)) (sT (sT CL_5 lc 6 (nI row)) lc 7 (nI col)) RL_5) hP mkR_urd
                    rw [show ∀ z, nI z + 2 = nI (z + 2) from fun z => nI_add z 2] at hP
                    refine lv_iinc (k := 4) (v := (nI row) + 1) (lv' := [(3, .int ((nI row) + 1)), (5, .ref (x + 65 + lc)), (7, .ref (x + 65 + lc)), (6, .int (nI i0)), (4, .int (nI col)), (0, .ref (x + 2)), (1, .ref (x + 4 + i)), (2, .int (nI dp))]) hx hb (fh_d d_Rd_readCells 71 rfl) hl rfl (by rfl) (by decide) rfl (fun ls hl => ?_)
                    refine lv_iconst (v := 0) hx hb (fh_d d_Rd_readCells 72 rfl) (by decide) ?_
                    refine lv_istore (lv' := [(4, .int 0), (3, .int ((nI row) + 1)), (5, .ref (x + 65 + lc)), (7, .ref (x + 65 + lc)), (6, .int (nI i0)), (0, .ref (x + 2)), (1, .ref (x + 4 + i)), (2, .int (nI dp))]) hx hb (fh_d d_Rd_readCells 73 rfl) hl (by decide) rfl (fun ls hl => ?_)
                    refine lv_goto (tgt := 151) hx hb (fh_d d_Rd_readCells 74 rfl) rfl ?_
                    refine lv_iinc (k := 4) (v := (nI i0) + 1) (lv' := [(6, .int ((nI i0) + 1)), (4, .int 0), (3, .int ((nI row) + 1)), (5, .ref (x + 65 + lc)), (7, .ref (x + 65 + lc)), (0, .ref (x + 2)), (1, .ref (x + 4 + i)), (2, .int (nI dp))]) hx hb (fh_d d_Rd_readCells 77 rfl) hl rfl (by rfl) (by decide) rfl (fun ls hl => ?_)
                    refine lv_goto (tgt := 22) hx hb (fh_d d_Rd_readCells 78 rfl) rfl ?_
                    rw [nI_1, nI_1] at hl
                    refine ih (i0 + 1) (by omega) (row + 1) 0 (some lc) _ _ _ _ _ _ _ (by omega) (by omega) (fun z hz => by obtain rfl := Option.some.inj hz; omega) (by omega) (by omega) (by omega) (by repeat' first | assumption | apply okR_7 | apply okR_8 | apply okR_nu | apply okR_li | apply okR_l6 | apply okR_l7 | omega) ?_ H _ _ hP hS (lv_sub hl [0, 3, 1, 2, 5, 6, 7] rfl)
                    rw [← hq0]; simp only [pCell, if_pos hrc, e5, Option.bind_some, if_neg t12, if_neg t19, if_pos t26]; rfl
                  · rw [if_neg t26] at hC
                    refine fh_callV (cc' := c_Rd_seesRowEnd) (nL' := 1) (rest := []) (a := x + 2) (As := []) X hR (hC) w323 w320 w322 v4 w2 ⟨by decide, by decide, by show _ = some 0; decide +kernel⟩ (by omega) (by decide) (fh_recv hK hP mkR_rd rfl) hP hS hl.1 rfl (by exact Nat.le_of_ble_eq_true rfl) (fh_d d_Rd_readCells 63 rfl) ⟨Nat.le_refl _, Nat.le_refl _⟩ (fun v9 h9 n9 H locs hq hP hS => ?_)
                    obtain ⟨rfl, u30, u31⟩ := hq
                    rw [u30, u31] at hP
                    refine lv_if_eq (tgt := 149) hx hb (fh_d d_Rd_readCells 64 rfl) rfl (fun c32 => ?_) (fun c32 => absurd c32 (Classical.not_not.mpr rfl))
                    refine lv_iconst (v := 0) hx hb (fh_d d_Rd_readCells 75 rfl) (by decide) ?_
                    exact fh_zret X hP hS (fh_d d_Rd_readCells 76 rfl) (by decide) ⟨rfl, Or.inr ⟨by rw [← hq0]; simp only [pCell, if_pos hrc, e5, Option.bind_some, if_neg t12, if_neg t19, if_neg t26], rfl, rdF_mk (by repeat' first | assumption | apply okR_7 | apply okR_8 | apply okR_nu | apply okR_li | apply okR_l6 | apply okR_l7 | omega)⟩⟩
            · rw [ua5, ub5] at hP
              refine W.eq (g2 := F0 m 50 ls [.null]) rfl ?_
              refine lv_astoreN (lv' := [(7, .null), (6, .int (nI i0)), (5, .null), (4, .int (nI col)), (3, .int (nI row)), (0, .ref (x + 2)), (1, .ref (x + 4 + i)), (2, .int (nI dp))]) hx hb (fh_d d_Rd_readCells 28 rfl) hl (by decide) rfl (fun ls hl => ?_)
              refine lv_aloadN hx hb (fh_d d_Rd_readCells 29 rfl) (lv_at hl 0 rfl) ?_
              refine lv_ifnonnullN hx hb (fh_d d_Rd_readCells 30 rfl) ?_
              refine lv_iconst (v := 0) hx hb (fh_d d_Rd_readCells 31 rfl) (by decide) ?_
              exact fh_zret X hP hS (fh_d d_Rd_readCells 32 rfl) (by decide) ⟨rfl, Or.inr ⟨by rw [← hq0]; simp only [pCell, if_pos hrc, e5, Option.bind_none], rfl, rdF_mk (by repeat' first | assumption | apply okR_7 | apply okR_8 | apply okR_nu | apply okR_li | apply okR_l6 | apply okR_l7 | omega)⟩⟩
      · have hi := hi
        have hq := hlast q rfl
        have hl : lv_has ls 8 [(6, .int (nI i0)), (5, .ref (x + 65 + q)), (4, .int (nI col)), (3, .int (nI row)), (0, .ref (x + 2)), (1, .ref (x + 4 + i)), (2, .int (nI dp))] := hl
        refine lv_iload hx hb (fh_d d_Rd_readCells 14 rfl) (lv_at hl 0 rfl) ?_
        refine lv_sipush (v := 161) hx hb (fh_d d_Rd_readCells 15 rfl) (by decide) ?_
        refine lv_icmp_ge (tgt := 157) hx hb (fh_d d_Rd_readCells 16 rfl) rfl (fun c34 => absurd c34 (fun c9 => absurd ((nI_leI (a := 161) (b := i0) (by decide) (by omega)).mp c9) (by omega))) (fun c34 => ?_)
        refine lv_iload_n hx hb (fh_d d_Rd_readCells 17 rfl) rfl (lv_at hl 3 rfl) ?_
        refine lv_bipush (v := 8) hx hb (fh_d d_Rd_readCells 18 rfl) (by decide) ?_
        refine lv_icmp_ge (tgt := 157) hx hb (fh_d d_Rd_readCells 19 rfl) rfl (fun c35 => ?_) (fun c35 => ?_)
        · refine lv_iconst (v := 0) hx hb (fh_d d_Rd_readCells 79 rfl) (by decide) ?_
          exact fh_zret X hP hS (fh_d d_Rd_readCells 80 rfl) (by decide) ⟨rfl, Or.inr ⟨by rw [← hq0]; simp only [pCell]; rw [if_neg (fun z => absurd z.1 (by have := (nI_leI (a := 8) (b := row) (by decide) (by omega)).mp c35; omega))], rfl, rdF_mk (by repeat' first | assumption | apply okR_7 | apply okR_8 | apply okR_nu | apply okR_li | apply okR_l6 | apply okR_l7 | omega)⟩⟩
        · have hrow2 : row < 8 := Nat.not_le.mp fun z => c35 ((nI_leI (a := 8) (b := row) (by decide) (by omega)).mpr z)
          refine lv_iload hx hb (fh_d d_Rd_readCells 20 rfl) (lv_at hl 2 rfl) ?_
          refine lv_bipush (v := 8) hx hb (fh_d d_Rd_readCells 21 rfl) (by decide) ?_
          refine lv_icmp_ge (tgt := 157) hx hb (fh_d d_Rd_readCells 22 rfl) rfl (fun c36 => ?_) (fun c36 => ?_)
          · refine lv_iconst (v := 0) hx hb (fh_d d_Rd_readCells 79 rfl) (by decide) ?_
            exact fh_zret X hP hS (fh_d d_Rd_readCells 80 rfl) (by decide) ⟨rfl, Or.inr ⟨by rw [← hq0]; simp only [pCell]; rw [if_neg (fun z => absurd z.2 (by have := (nI_leI (a := 8) (b := col) (by decide) (by omega)).mp c36; omega))], rfl, rdF_mk (by repeat' first | assumption | apply okR_7 | apply okR_8 | apply okR_nu | apply okR_li | apply okR_l6 | apply okR_l7 | omega)⟩⟩
          · have hcol2 : col < 8 := Nat.not_le.mp fun z => c36 ((nI_leI (a := 8) (b := col) (by decide) (by omega)).mpr z)
            refine lv_aload_n hx hb (fh_d d_Rd_readCells 23 rfl) rfl (lv_at hl 4 rfl) ?_
            refine lv_iload_n hx hb (fh_d d_Rd_readCells 24 rfl) rfl (lv_at hl 6 rfl) ?_
            refine lv_iconst (v := 1) hx hb (fh_d d_Rd_readCells 25 rfl) (by decide) ?_
            refine lv_iadd hx hb (fh_d d_Rd_readCells 26 rfl) ?_
            have hrc : row < 8 ∧ col < 8 := ⟨hrow2, hcol2⟩
            rw [nI_1 dp]
            refine fh_callV (cc' := c_Rd_readLine) (nL' := 6) (rest := []) (a := x + 2) (As := [.int (nI (dp + 1))]) X hR (hL1 (r - 1) (by omega) nc lc a C R CL RL (by omega) (by omega) (by omega) (by repeat' first | assumption | apply okR_7 | apply okR_8 | apply okR_nu | apply okR_li | apply okR_l6 | apply okR_l7 | omega)) w303 w300 w302 v0 w2 ⟨by decide, by decide, by show _ = some 1; decide +kernel⟩ (by omega) (by decide) (fh_recv hK hP mkR_rd rfl) hP hS hl.1 rfl (by exact Nat.le_of_ble_eq_true rfl) (fh_d d_Rd_readCells 27 rfl) ⟨Nat.le_refl _, Nat.le_refl _⟩ (fun v9 h9 n9 H locs hq hP hS => ?_)
            obtain ⟨ua37, ⟨nc_37, lc_37, a_37, C_37, R_37, CL_37, RL_37, e37, rfl, ub37⟩ | ⟨e37, rfl, nc_37, lc_37, a_37, C_37, R_37, CL_37, RL_37, ub37, uk37⟩⟩ := hq
            · rw [ua37, ub37] at hP
              have hB37 := hB1 _ _ _ _ _ _ _ _ _ _ _ _ _ _ (by omega) (by omega) (by omega) (by repeat' first | assumption | apply okR_7 | apply okR_8 | apply okR_nu | apply okR_li | apply okR_l6 | apply okR_l7 | omega) e37
              have uk37 := hB37.2.2.2.2.2.2
              refine lv_astore (lv' := [(7, .ref (x + 65 + lc)), (6, .int (nI i0)), (5, .ref (x + 65 + q)), (4, .int (nI col)), (3, .int (nI row)), (0, .ref (x + 2)), (1, .ref (x + 4 + i)), (2, .int (nI dp))]) hx hb (fh_d d_Rd_readCells 28 rfl) hl (by decide) rfl (fun ls hl => ?_)
              refine lv_aload hx hb (fh_d d_Rd_readCells 29 rfl) (lv_at hl 0 rfl) ?_
              refine lv_ifnonnull (tgt := 59) hx hb (fh_d d_Rd_readCells 30 rfl) rfl ?_
              refine lv_aload hx hb (fh_d d_Rd_readCells 33 rfl) (lv_at hl 0 rfl) ?_
              refine lv_iload_n hx hb (fh_d d_Rd_readCells 34 rfl) rfl (lv_at hl 4 rfl) ?_
              refine fh_put (own := "FormulaSetter$Reader") (ref := "FormulaSetter$Line") (C := "FormulaSetter$Line") (T := T_Li) (N := 9) (v := .int (nI row)) (ty := .int) hx hb hT i_Li t_Li k_Li n_Li hown hK hP hS (mkR_li (by omega)) rfl 6 (by decide) (hT _ w158) (fun _ h9 => h9) rfl (by decide +kernel) rfl rfl (Nat.le_of_ble_eq_true rfl) (fh_d d_Rd_readCells 35 rfl) (fun H locs hP hS => ?_)
              replace hP := fh_P.eq (h' := mkR x kA aA g (nI nc_37) (nI lc_37) (.ref (x + 1)) (nI L) (nI a_37) C_37 R_37 (sT CL_37 lc 6 (nI row)) RL_37) hP (mkR_li6 (v := nI row) (by omega))
              have f39 : (sT CL_37 lc 6 (nI row)) lc 6 = nI row := sT_same
              refine lv_aload hx hb (fh_d d_Rd_readCells 36 rfl) (lv_at hl 0 rfl) ?_
              refine lv_iload hx hb (fh_d d_Rd_readCells 37 rfl) (lv_at hl 3 rfl) ?_
              refine fh_put (own := "FormulaSetter$Reader") (ref := "FormulaSetter$Line") (C := "FormulaSetter$Line") (T := T_Li) (N := 9) (v := .int (nI col)) (ty := .int) hx hb hT i_Li t_Li k_Li n_Li hown hK hP hS (mkR_li (by omega)) rfl 7 (by decide) (hT _ w161) (fun _ h9 => h9) rfl (by decide +kernel) rfl rfl (Nat.le_of_ble_eq_true rfl) (fh_d d_Rd_readCells 38 rfl) (fun H locs hP hS => ?_)
              replace hP := fh_P.eq (h' := mkR x kA aA g (nI nc_37) (nI lc_37) (.ref (x + 1)) (nI L) (nI a_37) C_37 R_37 (sT (sT CL_37 lc 6 (nI row)) lc 7 (nI col)) RL_37) hP (mkR_li7 (v := nI col) (by omega))
              have f40 : (sT (sT CL_37 lc 6 (nI row)) lc 7 (nI col)) lc 6 = nI row := (sT_ne (by omega)).trans f39
              have f41 : (sT (sT CL_37 lc 6 (nI row)) lc 7 (nI col)) lc 7 = nI col := sT_same
              refine lv_aload hx hb (fh_d d_Rd_readCells 39 rfl) (lv_at hl 2 rfl) ?_
              refine lv_ifnonnull (tgt := 86) hx hb (fh_d d_Rd_readCells 40 rfl) rfl ?_
              refine lv_aload hx hb (fh_d d_Rd_readCells 45 rfl) (lv_at hl 2 rfl) ?_
              refine lv_aload hx hb (fh_d d_Rd_readCells 46 rfl) (lv_at hl 0 rfl) ?_
              refine fh_put (own := "FormulaSetter$Reader") (ref := "FormulaSetter$Line") (C := "FormulaSetter$Line") (T := T_Li) (N := 9) (v := .ref (x + 65 + lc)) (ty := (.object "FormulaSetter$Line")) hx hb hT i_Li t_Li k_Li n_Li hown hK hP hS (mkR_li (hq)) rfl 8 (by decide) (hT _ w164) (fun _ h9 => h9) rfl (by decide +kernel) rfl rfl (Nat.le_of_ble_eq_true rfl) (fh_d d_Rd_readCells 47 rfl) (fun H locs hP hS => ?_)
              replace hP := fh_P.eq (h' := mkR x kA aA g (nI nc_37) (nI lc_37) (.ref (x + 1)) (nI L) (nI a_37) C_37 R_37 (sT (sT CL_37 lc 6 (nI row)) lc 7 (nI col)) (sT RL_37 q 8 (some lc))) hP (mkR_li8 (v := some lc) (hq))
              have f43 : (sT RL_37 q 8 (some lc)) q 8 = some lc := sT_same
              refine lv_aload hx hb (fh_d d_Rd_readCells 48 rfl) (lv_at hl 0 rfl) ?_
              refine lv_astore (lv' := [(5, .ref (x + 65 + lc)), (7, .ref (x + 65 + lc)), (6, .int (nI i0)), (4, .int (nI col)), (3, .int (nI row)), (0, .ref (x + 2)), (1, .ref (x + 4 + i)), (2, .int (nI dp))]) hx hb (fh_d d_Rd_readCells 49 rfl) hl (by decide) rfl (fun ls hl => ?_)
              refine lv_aload_n hx hb (fh_d d_Rd_readCells 50 rfl) rfl (lv_at hl 5 rfl) ?_
              refine lv_bipush (v := 125) hx hb (fh_d d_Rd_readCells 51 rfl) (by decide) ?_
              have hC := m_Rd_take l D ct b RO hR (r - 1) (by omega) n x kA aA g C_37 R_37 (sT (sT CL_37 lc 6 (nI row)) lc 7 (nI col)) (sT RL_37 q 8 (some lc)) (nI nc_37) (nI lc_37) f L a_37 hL (by omega) hg1 hf 125
              by_cases t44 : hre f L (sk f L a_37) = 125
              · simp only [if_pos t44] at hC
                refine fh_callV (cc' := c_Rd_take) (nL' := 2) (rest := []) (a := x + 2) (As := [.int 125]) X hR (hC) w519 w516 w518 v11 w2 ⟨by decide, by decide, by show _ = some 1; decide +kernel⟩ (by omega) (by decide) (fh_recv hK hP mkR_rd rfl) hP hS hl.1 rfl (by exact Nat.le_of_ble_eq_true rfl) (fh_d d_Rd_readCells 52 rfl) ⟨Nat.le_refl _, Nat.le_refl _⟩ (fun v9 h9 n9 H locs hq hP hS => ?_)
                obtain ⟨rfl, u45, u46⟩ := hq
                rw [u45, u46] at hP
                have t44l : sk f L a_37 < L := hre_lt (by rw [t44]; decide)
                refine lv_if_eq (tgt := 108) hx hb (fh_d d_Rd_readCells 53 rfl) rfl (fun c47 => absurd c47 (by decide)) (fun c47 => ?_)
                refine lv_iconst (v := 1) hx hb (fh_d d_Rd_readCells 54 rfl) (by decide) ?_
                exact fh_zret X hP hS (fh_d d_Rd_readCells 55 rfl) (by decide) ⟨rfl, Or.inl ⟨_, _, _, _, _, _, _, by rw [← hq0]; simp only [pCell, if_pos hrc, e37, Option.bind_some, if_pos t44]; rfl, rfl, rfl⟩⟩
              · simp only [if_neg t44] at hC
                refine fh_callV (cc' := c_Rd_take) (nL' := 2) (rest := []) (a := x + 2) (As := [.int 125]) X hR (hC) w519 w516 w518 v11 w2 ⟨by decide, by decide, by show _ = some 1; decide +kernel⟩ (by omega) (by decide) (fh_recv hK hP mkR_rd rfl) hP hS hl.1 rfl (by exact Nat.le_of_ble_eq_true rfl) (fh_d d_Rd_readCells 52 rfl) ⟨Nat.le_refl _, Nat.le_refl _⟩ (fun v9 h9 n9 H locs hq hP hS => ?_)
                obtain ⟨rfl, u48, u49⟩ := hq
                rw [u48, u49] at hP
                have t44l : sk f L a_37 ≤ L := (sk_ge f L _ a_37 rfl).2 (by omega)
                refine lv_if_eq (tgt := 108) hx hb (fh_d d_Rd_readCells 53 rfl) rfl (fun c50 => ?_) (fun c50 => absurd c50 (Classical.not_not.mpr rfl))
                refine lv_aload_n hx hb (fh_d d_Rd_readCells 56 rfl) rfl (lv_at hl 5 rfl) ?_
                refine lv_bipush (v := 38) hx hb (fh_d d_Rd_readCells 57 rfl) (by decide) ?_
                have hC := m_Rd_take l D ct b RO hR (r - 1) (by omega) n x kA aA g C_37 R_37 (sT (sT CL_37 lc 6 (nI row)) lc 7 (nI col)) (sT RL_37 q 8 (some lc)) (nI nc_37) (nI lc_37) f L (sk f L a_37) hL (by omega) hg1 hf 38
                rw [sk_id f L _ a_37 rfl] at hC
                by_cases t51 : hre f L (sk f L a_37) = 38
                · simp only [if_pos t51] at hC
                  refine fh_callV (cc' := c_Rd_take) (nL' := 2) (rest := []) (a := x + 2) (As := [.int 38]) X hR (hC) w519 w516 w518 v11 w2 ⟨by decide, by decide, by show _ = some 1; decide +kernel⟩ (by omega) (by decide) (fh_recv hK hP mkR_rd rfl) hP hS hl.1 rfl (by exact Nat.le_of_ble_eq_true rfl) (fh_d d_Rd_readCells 58 rfl) ⟨Nat.le_refl _, Nat.le_refl _⟩ (fun v9 h9 n9 H locs hq hP hS => ?_)
                  obtain ⟨rfl, u52, u53⟩ := hq
                  rw [u52, u53] at hP
                  have t51l : sk f L a_37 < L := hre_lt (by rw [t51]; decide)
                  refine lv_if_eq (tgt := 123) hx hb (fh_d d_Rd_readCells 59 rfl) rfl (fun c54 => absurd c54 (by decide)) (fun c54 => ?_)
                  refine lv_iinc (k := 3) (v := (nI col) + 1) (lv' := [(4, .int ((nI col) + 1)), (5, .ref (x + 65 + lc)), (7, .ref (x + 65 + lc)), (6, .int (nI i0)), (3, .int (nI row)), (0, .ref (x + 2)), (1, .ref (x + 4 + i)), (2, .int (nI dp))]) hx hb (fh_d d_Rd_readCells 60 rfl) hl rfl (by rfl) (by decide) rfl (fun ls hl => ?_)
                  refine lv_goto (tgt := 151) hx hb (fh_d d_Rd_readCells 61 rfl) rfl ?_
                  refine lv_iinc (k := 3) (v := (nI i0) + 1) (lv' := [(6, .int ((nI i0) + 1)), (4, .int ((nI col) + 1)), (5, .ref (x + 65 + lc)), (7, .ref (x + 65 + lc)), (3, .int (nI row)), (0, .ref (x + 2)), (1, .ref (x + 4 + i)), (2, .int (nI dp))]) hx hb (fh_d d_Rd_readCells 77 rfl) hl rfl (by rfl) (by decide) rfl (fun ls hl => ?_)
                  refine lv_goto (tgt := 22) hx hb (fh_d d_Rd_readCells 78 rfl) rfl ?_
                  rw [nI_1, nI_1] at hl
                  refine ih (i0 + 1) (by omega) row (col + 1) (some lc) _ _ _ _ _ _ _ (by omega) (by omega) (fun z hz => by obtain rfl := Option.some.inj hz; omega) (by omega) (by omega) (by omega) (by repeat' first | assumption | apply okR_7 | apply okR_8 | apply okR_nu | apply okR_li | apply okR_l6 | apply okR_l7 | omega) ?_ H _ _ hP hS (lv_sub hl [0, 2, 1, 4, 5, 6, 7] rfl)
                  rw [← hq0]; simp only [pCell, if_pos hrc, e37, Option.bind_some, if_neg t44, if_pos t51]; rfl
                · simp only [if_neg t51] at hC
                  refine fh_callV (cc' := c_Rd_take) (nL' := 2) (rest := []) (a := x + 2) (As := [.int 38]) X hR (hC) w519 w516 w518 v11 w2 ⟨by decide, by decide, by show _ = some 1; decide +kernel⟩ (by omega) (by decide) (fh_recv hK hP mkR_rd rfl) hP hS hl.1 rfl (by exact Nat.le_of_ble_eq_true rfl) (fh_d d_Rd_readCells 58 rfl) ⟨Nat.le_refl _, Nat.le_refl _⟩ (fun v9 h9 n9 H locs hq hP hS => ?_)
                  obtain ⟨rfl, u55, u56⟩ := hq
                  rw [u55, u56] at hP
                  have t51l : sk f L a_37 ≤ L := by omega
                  refine lv_if_eq (tgt := 123) hx hb (fh_d d_Rd_readCells 59 rfl) rfl (fun c57 => ?_) (fun c57 => absurd c57 (Classical.not_not.mpr rfl))
                  refine lv_aload_n hx hb (fh_d d_Rd_readCells 62 rfl) rfl (lv_at hl 5 rfl) ?_
                  have hC := m_Rd_seesRowEnd l D ct b RO hR (r - 1) (by omega) n x kA aA g C_37 R_37 (sT (sT CL_37 lc 6 (nI row)) lc 7 (nI col)) (sT RL_37 q 8 (some lc)) (nI nc_37) (nI lc_37) f L (sk f L a_37) hL (by omega) hg1 hf
                  rw [sk_id f L _ a_37 rfl] at hC
                  by_cases t58 : hre f L (sk f L a_37) = 92 ∧ hre f L (sk f L a_37 + 1) = 92
                  · rw [if_pos t58] at hC
                    refine fh_callV (cc' := c_Rd_seesRowEnd) (nL' := 1) (rest := []) (a := x + 2) (As := []) X hR (hC) w323 w320 w322 v4 w2 ⟨by decide, by decide, by show _ = some 0; decide +kernel⟩ (by omega) (by decide) (fh_recv hK hP mkR_rd rfl) hP hS hl.1 rfl (by exact Nat.le_of_ble_eq_true rfl) (fh_d d_Rd_readCells 63 rfl) ⟨Nat.le_refl _, Nat.le_refl _⟩ (fun v9 h9 n9 H locs hq hP hS => ?_)
                    obtain ⟨rfl, u59, u60⟩ := hq
                    rw [u59, u60] at hP
                    have t58l : sk f L a_37 + 1 < L := hre_lt (by rw [t58.2]; decide)
                    refine lv_if_eq (tgt := 149) hx hb (fh_d d_Rd_readCells 64 rfl) rfl (fun c61 => absurd c61 (by decide)) (fun c61 => ?_)
                    refine lv_aload_n hx hb (fh_d d_Rd_readCells 65 rfl) rfl (lv_at hl 5 rfl) ?_
                    refine lv_dup hx hb (fh_d d_Rd_readCells 66 rfl) rfl ?_
                    refine fh_get (own := "FormulaSetter$Reader") (ref := "FormulaSetter$Reader") (C := "FormulaSetter$Reader") (T := T_Rd) (N := 7) (v := .int (nI (sk f L a_37))) hx hb hT i_Rd hown hK hP mkR_rd rfl 6 (by decide) (hT _ w186) (fun _ h9 => h9) (rfl) (fh_d d_Rd_readCells 67 rfl) ?_
                    refine lv_iconst (v := 2) hx hb (fh_d d_Rd_readCells 68 rfl) (by decide) ?_
                    refine lv_iadd hx hb (fh_d d_Rd_readCells 69 rfl) ?_
                    refine fh_put (own := "FormulaSetter$Reader") (ref := "FormulaSetter$Reader") (C := "FormulaSetter$Reader") (T := T_Rd) (N := 7) (v := .int ((nI (sk f L a_37)) + 2)) (ty := .int) hx hb hT i_Rd t_Rd k_Rd n_Rd hown hK hP hS mkR_rd rfl 6 (by decide) (hT _ w186) (fun _ h9 => h9) rfl (by decide +kernel) rfl rfl (Nat.le_of_ble_eq_true rfl) (fh_d d_Rd_readCells 70 rfl) (fun H locs hP hS => ?_)
                    replace hP := fh_P.eq (h' := mkR x kA aA g (nI nc_37) (nI lc_37) (.ref (x + 1)) (nI L) ((nI (sk f L a_37)) + 2) C_37 R_37 (sT (sT CL_37 lc 6 (nI row)) lc 7 (nI col)) (sT RL_37 q 8 (some lc))) hP mkR_urd
                    rw [show ∀ z, nI z + 2 = nI (z + 2) from fun z => nI_add z 2] at hP
                    refine lv_iinc (k := 4) (v := (nI row) + 1) (lv' := [(3, .int ((nI row) + 1)), (5, .ref (x + 65 + lc)), (7, .ref (x + 65 + lc)), (6, .int (nI i0)), (4, .int (nI col)), (0, .ref (x + 2)), (1, .ref (x + 4 + i)), (2, .int (nI dp))]) hx hb (fh_d d_Rd_readCells 71 rfl) hl rfl (by rfl) (by decide) rfl (fun ls hl => ?_)
                    refine lv_iconst (v := 0) hx hb (fh_d d_Rd_readCells 72 rfl) (by decide) ?_
                    refine lv_istore (lv' := [(4, .int 0), (3, .int ((nI row) + 1)), (5, .ref (x + 65 + lc)), (7, .ref (x + 65 + lc)), (6, .int (nI i0)), (0, .ref (x + 2)), (1, .ref (x + 4 + i)), (2, .int (nI dp))]) hx hb (fh_d d_Rd_readCells 73 rfl) hl (by decide) rfl (fun ls hl => ?_)
                    refine lv_goto (tgt := 151) hx hb (fh_d d_Rd_readCells 74 rfl) rfl ?_
                    refine lv_iinc (k := 4) (v := (nI i0) + 1) (lv' := [(6, .int ((nI i0) + 1)), (4, .int 0), (3, .int ((nI row) + 1)), (5, .ref (x + 65 + lc)), (7, .ref (x + 65 + lc)), (0, .ref (x + 2)), (1, .ref (x + 4 + i)), (2, .int (nI dp))]) hx hb (fh_d d_Rd_readCells 77 rfl) hl rfl (by rfl) (by decide) rfl (fun ls hl => ?_)
                    refine lv_goto (tgt := 22) hx hb (fh_d d_Rd_readCells 78 rfl) rfl ?_
                    rw [nI_1, nI_1] at hl
                    refine ih (i0 + 1) (by omega) (row + 1) 0 (some lc) _ _ _ _ _ _ _ (by omega) (by omega) (fun z hz => by obtain rfl := Option.some.inj hz; omega) (by omega) (by omega) (by omega) (by repeat' first | assumption | apply okR_7 | apply okR_8 | apply okR_nu | apply okR_li | apply okR_l6 | apply okR_l7 | omega) ?_ H _ _ hP hS (lv_sub hl [0, 3, 1, 2, 5, 6, 7] rfl)
                    rw [← hq0]; simp only [pCell, if_pos hrc, e37, Option.bind_some, if_neg t44, if_neg t51, if_pos t58]; rfl
                  · rw [if_neg t58] at hC
                    refine fh_callV (cc' := c_Rd_seesRowEnd) (nL' := 1) (rest := []) (a := x + 2) (As := []) X hR (hC) w323 w320 w322 v4 w2 ⟨by decide, by decide, by show _ = some 0; decide +kernel⟩ (by omega) (by decide) (fh_recv hK hP mkR_rd rfl) hP hS hl.1 rfl (by exact Nat.le_of_ble_eq_true rfl) (fh_d d_Rd_readCells 63 rfl) ⟨Nat.le_refl _, Nat.le_refl _⟩ (fun v9 h9 n9 H locs hq hP hS => ?_)
                    obtain ⟨rfl, u62, u63⟩ := hq
                    rw [u62, u63] at hP
                    refine lv_if_eq (tgt := 149) hx hb (fh_d d_Rd_readCells 64 rfl) rfl (fun c64 => ?_) (fun c64 => absurd c64 (Classical.not_not.mpr rfl))
                    refine lv_iconst (v := 0) hx hb (fh_d d_Rd_readCells 75 rfl) (by decide) ?_
                    exact fh_zret X hP hS (fh_d d_Rd_readCells 76 rfl) (by decide) ⟨rfl, Or.inr ⟨by rw [← hq0]; simp only [pCell, if_pos hrc, e37, Option.bind_some, if_neg t44, if_neg t51, if_neg t58], rfl, rdF_mk (by repeat' first | assumption | apply okR_7 | apply okR_8 | apply okR_nu | apply okR_li | apply okR_l6 | apply okR_l7 | omega)⟩⟩
            · rw [ua37, ub37] at hP
              refine W.eq (g2 := F0 m 50 ls [.null]) rfl ?_
              refine lv_astoreN (lv' := [(7, .null), (6, .int (nI i0)), (5, .ref (x + 65 + q)), (4, .int (nI col)), (3, .int (nI row)), (0, .ref (x + 2)), (1, .ref (x + 4 + i)), (2, .int (nI dp))]) hx hb (fh_d d_Rd_readCells 28 rfl) hl (by decide) rfl (fun ls hl => ?_)
              refine lv_aloadN hx hb (fh_d d_Rd_readCells 29 rfl) (lv_at hl 0 rfl) ?_
              refine lv_ifnonnullN hx hb (fh_d d_Rd_readCells 30 rfl) ?_
              refine lv_iconst (v := 0) hx hb (fh_d d_Rd_readCells 31 rfl) (by decide) ?_
              exact fh_zret X hP hS (fh_d d_Rd_readCells 32 rfl) (by decide) ⟨rfl, Or.inr ⟨by rw [← hq0]; simp only [pCell, if_pos hrc, e37, Option.bind_none], rfl, rdF_mk (by repeat' first | assumption | apply okR_7 | apply okR_8 | apply okR_nu | apply okR_li | apply okR_l6 | apply okR_l7 | omega)⟩⟩
  refine lv_aload_n hx hb (fh_d d_Rd_readCells 0 rfl) rfl (lv_at hl 0 rfl) ?_
  refine lv_bipush (v := 123) hx hb (fh_d d_Rd_readCells 1 rfl) (by decide) ?_
  have hC := m_Rd_take l D ct b RO hR (r - 1) (by omega) n x kA aA g C R CL RL (nI nc) (nI lc) f L a hL (by omega) hg1 hf 123
  by_cases t66 : hre f L (sk f L a) = 123
  · simp only [if_pos t66] at hC
    refine fh_callV (cc' := c_Rd_take) (nL' := 2) (rest := []) (a := x + 2) (As := [.int 123]) X hR (hC) w519 w516 w518 v11 w2 ⟨by decide, by decide, by show _ = some 1; decide +kernel⟩ (by omega) (by decide) (fh_recv hK hP mkR_rd rfl) hP hS hl.1 rfl (by exact Nat.le_of_ble_eq_true rfl) (fh_d d_Rd_readCells 2 rfl) ⟨Nat.le_refl _, Nat.le_refl _⟩ (fun v9 h9 n9 H locs hq hP hS => ?_)
    obtain ⟨rfl, u67, u68⟩ := hq
    rw [u67, u68] at hP
    have t66l : sk f L a < L := hre_lt (by rw [t66]; decide)
    refine lv_if_ne (tgt := 11) hx hb (fh_d d_Rd_readCells 3 rfl) rfl (fun c69 => ?_) (fun c69 => absurd c69 (by decide))
    refine lv_iconst (v := 0) hx hb (fh_d d_Rd_readCells 6 rfl) (by decide) ?_
    refine lv_istore_n (lv' := [(3, .int 0), (0, .ref (x + 2)), (1, .ref (x + 4 + i)), (2, .int (nI dp))]) hx hb (fh_d d_Rd_readCells 7 rfl) rfl hl (by decide) rfl (fun ls hl => ?_)
    refine lv_iconst (v := 0) hx hb (fh_d d_Rd_readCells 8 rfl) (by decide) ?_
    refine lv_istore (lv' := [(4, .int 0), (3, .int 0), (0, .ref (x + 2)), (1, .ref (x + 4 + i)), (2, .int (nI dp))]) hx hb (fh_d d_Rd_readCells 9 rfl) hl (by decide) rfl (fun ls hl => ?_)
    refine lv_null hx hb (fh_d d_Rd_readCells 10 rfl) ?_
    refine lv_astoreN (lv' := [(5, .null), (4, .int 0), (3, .int 0), (0, .ref (x + 2)), (1, .ref (x + 4 + i)), (2, .int (nI dp))]) hx hb (fh_d d_Rd_readCells 11 rfl) hl (by decide) rfl (fun ls hl => ?_)
    refine lv_iconst (v := 0) hx hb (fh_d d_Rd_readCells 12 rfl) (by decide) ?_
    refine lv_istore (lv' := [(6, .int 0), (5, .null), (4, .int 0), (3, .int 0), (0, .ref (x + 2)), (1, .ref (x + 4 + i)), (2, .int (nI dp))]) hx hb (fh_d d_Rd_readCells 13 rfl) hl (by decide) rfl (fun ls hl => ?_)
    exact loop 161 0 rfl 0 0 none _ _ _ _ _ _ _ (by omega) (by omega) (fun z hz => nomatch hz) hnc hlc (by omega) hok (by rw [hQ0]; simp only [pCells, if_pos t66]) H _ _ hP hS hl
  · simp only [if_neg t66] at hC
    refine fh_callV (cc' := c_Rd_take) (nL' := 2) (rest := []) (a := x + 2) (As := [.int 123]) X hR (hC) w519 w516 w518 v11 w2 ⟨by decide, by decide, by show _ = some 1; decide +kernel⟩ (by omega) (by decide) (fh_recv hK hP mkR_rd rfl) hP hS hl.1 rfl (by exact Nat.le_of_ble_eq_true rfl) (fh_d d_Rd_readCells 2 rfl) ⟨Nat.le_refl _, Nat.le_refl _⟩ (fun v9 h9 n9 H locs hq hP hS => ?_)
    obtain ⟨rfl, u70, u71⟩ := hq
    rw [u70, u71] at hP
    have t66l : sk f L a ≤ L := (sk_ge f L _ a rfl).2 (by omega)
    refine lv_if_ne (tgt := 11) hx hb (fh_d d_Rd_readCells 3 rfl) rfl (fun c72 => absurd c72 (Classical.not_not.mpr rfl)) (fun c72 => ?_)
    refine lv_iconst (v := 0) hx hb (fh_d d_Rd_readCells 4 rfl) (by decide) ?_
    exact fh_zret X hP hS (fh_d d_Rd_readCells 5 rfl) (by decide) ⟨rfl, Or.inr ⟨by rw [hQ0]; simp only [pCells, if_neg t66], rfl, rdF_mk (by repeat' first | assumption | apply okR_7 | apply okR_8 | apply okR_nu | apply okR_li | apply okR_l6 | apply okR_l7 | omega)⟩⟩
