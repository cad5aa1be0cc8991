/-! The Reader: readScripts. Printed by wip/whole/gen/p49.py -/
def cN (l : Launch) (D : va_G) (ct : Nat → ClassId) (b : Nat) (RO : State → Prop) (kA aA : Nat → Nat) (n x : Nat) (g : fh_H) (L dp r0 : Nat) (N : RT → Option RT) : Prop := ∀ r, r0 ≤ r → ∀ (nc lc a : Nat) (C : Nat → Nat → Int32) (R : Nat → Nat → Option Nat) (CL : Nat → Nat → Int32) (RL : Nat → Nat → Option Nat), nc ≤ 60 → lc ≤ 161 → a ≤ L → okR C CL → fh_C l D fh_cl (fh_tys ct) b RO y_Rd_readNucleus (Cond.code y_Rd_readNucleus c_Rd_readNucleus 3 (some (.object "FormulaSetter$Nucleus")) :: fh_T) (fh_rm r 0 0) [.ref (x + 2), .int (nI dp)] (mkR x kA aA g (nI nc) (nI lc) (.ref (x + 1)) (nI L) (nI a) C R CL RL) n (rdP x kA aA g L n (x + 4 + nc) (N (nc, lc, a, C, R, CL, RL))) 0 0
def cL (l : Launch) (D : va_G) (ct : Nat → ClassId) (b : Nat) (RO : State → Prop) (kA aA : Nat → Nat) (n x : Nat) (g : fh_H) (L dp r0 : Nat) (N : RT → Option RT) : Prop := ∀ r, r0 ≤ r → ∀ (nc lc a : Nat) (C : Nat → Nat → Int32) (R : Nat → Nat → Option Nat) (CL : Nat → Nat → Int32) (RL : Nat → Nat → Option Nat), nc ≤ 60 → lc ≤ 161 → a ≤ L → okR C CL → fh_C l D fh_cl (fh_tys ct) b RO y_Rd_readLine (Cond.code y_Rd_readLine c_Rd_readLine 6 (some (.object "FormulaSetter$Line")) :: fh_T) (fh_rm r 0 0) [.ref (x + 2), .int (nI dp)] (mkR x kA aA g (nI nc) (nI lc) (.ref (x + 1)) (nI L) (nI a) C R CL RL) n (rdP x kA aA g L n (x + 65 + lc) (N (nc, lc, a, C, R, CL, RL))) 0 0
/-- bounds that reading keeps -/
def bN (L : Nat) (N : RT → Option RT) : Prop := ∀ (nc lc a : Nat) (C : Nat → Nat → Int32) (R : Nat → Nat → Option Nat) (CL : Nat → Nat → Int32) (RL : Nat → Nat → Option Nat) (nc' lc' a' : Nat) (C' : Nat → Nat → Int32) (R' : Nat → Nat → Option Nat) (CL' : Nat → Nat → Int32) (RL' : Nat → Nat → Option Nat), nc ≤ 60 → lc ≤ 161 → a ≤ L → okR C CL → N (nc, lc, a, C, R, CL, RL) = some (nc', lc', a', C', R', CL', RL') → nc ≤ nc' ∧ nc' ≤ 60 ∧ lc ≤ lc' ∧ lc' ≤ 161 ∧ a' ≤ L ∧ okR C' CL'
/-- what readLine keeps besides: a line was made -/
def bL (L : Nat) (N : RT → Option RT) : Prop := ∀ (nc lc a : Nat) (C : Nat → Nat → Int32) (R : Nat → Nat → Option Nat) (CL : Nat → Nat → Int32) (RL : Nat → Nat → Option Nat) (nc' lc' a' : Nat) (C' : Nat → Nat → Int32) (R' : Nat → Nat → Option Nat) (CL' : Nat → Nat → Int32) (RL' : Nat → Nat → Option Nat), nc ≤ 60 → lc ≤ 161 → a ≤ L → okR C CL → N (nc, lc, a, C, R, CL, RL) = some (nc', lc', a', C', R', CL', RL') → lc < lc' ∧ nc ≤ nc' ∧ nc' ≤ 60 ∧ lc ≤ lc' ∧ lc' ≤ 161 ∧ a' ≤ L ∧ okR C' CL'
set_option maxHeartbeats 4000000 in
set_option maxRecDepth 100000 in
theorem m_Rd_readScripts (l : Launch) (D : va_G) (ct : Nat → ClassId) (b : Nat) (RO : State → Prop) (hR : fh_R b RO) (sA sV : Nat → Nat) (hSt : ∀ U, RO U → ro_S b sA sV U) (kA aA yA : Nat → Nat) (tK tS tM : Nat) (hEn : ∀ U, RO U → ro_E b sA kA aA yA tK tS tM U) (hAd : ad_ok kA aA yA) (n x : Nat) (g : fh_H) (f : Nat → Int32) (L : Nat) (hL : L ≤ 160) (hg1 : g (x + 1) = some (.inl (ct 1, 160, .inl f))) (hf7 : ∀ j, f j = (nI (ixI (f j))) ∧ ixI (f j) < 128) (N1 : RT → Option RT) (dp r0 : Nat) (hN1 : cN l D ct b RO kA aA n x g L (dp + 1) r0 N1) (hB1 : bN L N1) (r : Nat) (hr : r0 + 1 ≤ r) (hr4 : 4 ≤ r) (i : Nat) (hi : i < 60) (nc lc a : Nat) (C : Nat → Nat → Int32) (R : Nat → Nat → Option Nat) (CL : Nat → Nat → Int32) (RL : Nat → Nat → Option Nat) (hnc : nc ≤ 60) (hlc : lc ≤ 161) (hal : a ≤ L) (hok : okR C CL) : fh_C l D fh_cl (fh_tys ct) b RO y_Rd_readScripts (Cond.code y_Rd_readScripts c_Rd_readScripts 6 (Option.some FieldType.boolean) :: fh_T) (fh_rm r 0 0) [.ref (x + 2), .ref (x + 4 + i), .int (nI dp)] (mkR x kA aA g (nI nc) (nI lc) (.ref (x + 1)) (nI L) (nI a) C R CL RL) n (rdB x kA aA g L n (pScr f L N1 i 2 (nc, lc, a, C, R, CL, RL))) 0 0 := by
  refine fh_enter (by decide) (Nat.le_of_ble_eq_true rfl) [(0, .ref (x + 2)), (1, .ref (x + 4 + i)), (2, .int (nI dp))] rfl ?_
  intro p e s m args below meth c H ls X hP hS hl
  have hx := X.1
  have hb := X.2.1
  have hml := X.2.2.1
  have hown : s.vm.findClass "FormulaSetter$Reader" = some m.cls := X.2.2.2.1
  have hT := X.2.2.2.2.1
  have hK := X.2.2.2.2.2.1
  have hRO := X.2.2.2.2.2.2.1
  have hnm : meth.name = "readScripts" := X.2.2.2.2.2.2.2.2.2.2
  have hf : ∀ j, f j = (nI (ixI (f j))) ∧ ixI (f j) < 256 := fun j => ⟨(hf7 j).1, by have := (hf7 j).2; omega⟩
  obtain ⟨Q0, hQ0⟩ : ∃ z, z = pScr f L N1 i 2 (nc, lc, a, C, R, CL, RL) := ⟨_, rfl⟩
  rw [← hQ0]
  have loop : ∀ (k i0 : Nat), i0 + k = 2 → ∀ (nc lc a : Nat) (C : Nat → Nat → Int32) (R : Nat → Nat → Option Nat) (CL : Nat → Nat → Int32) (RL : Nat → Nat → Option Nat), nc ≤ 60 → lc ≤ 161 → a ≤ L → okR C CL → pScr f L N1 i k (nc, lc, a, C, R, CL, RL) = Q0 → ∀ (H : Heap) (locs : List Loc) (ls : Array Slot), fh_P D fh_cl b (mkR x kA aA g (nI nc) (nI lc) (.ref (x + 1)) (nI L) (nI a) C R CL RL) n H → va_S (fh_A b) s.heap H locs → lv_has ls 6 [(3, .int (nI i0)), (0, .ref (x + 2)), (1, .ref (x + 4 + i)), (2, .int (nI dp))] → W p l e (fh_rm r 0 0) s m args below meth c H locs 0 0 (MQ below (fh_Post D fh_cl b (rdB x kA aA g L n Q0)) args s 0 0 (fh_A b)) (F0 m 2 ls []) := by
    intro k
    induction k with
    | zero =>
      intro i0 hik nc lc a C R CL RL hnc hlc hal hok hq0 H locs ls hP hS hl
      refine lv_iload_n hx hb (fh_d d_Rd_readScripts 2 rfl) rfl (lv_at hl 0 rfl) ?_
      refine lv_iconst (v := 2) hx hb (fh_d d_Rd_readScripts 3 rfl) (by decide) ?_
      refine lv_icmp_ge (tgt := 94) hx hb (fh_d d_Rd_readScripts 4 rfl) rfl (fun c1 => ?_) (fun c1 => absurd c1 (fun c9 => c1 ((nI_leI (a := 2) (b := i0) (by decide) (by omega)).mpr (by omega))))
      refine lv_iconst (v := 1) hx hb (fh_d d_Rd_readScripts 48 rfl) (by decide) ?_
      exact fh_zret X hP hS (fh_d d_Rd_readScripts 49 rfl) (by decide) ⟨rfl, Or.inl ⟨_, _, _, _, _, _, _, hq0.symm, rfl, rfl⟩⟩
    | succ k ih =>
      intro i0 hik nc lc a C R CL RL hnc hlc hal hok hq0 H locs ls hP hS hl
      refine lv_iload_n hx hb (fh_d d_Rd_readScripts 2 rfl) rfl (lv_at hl 0 rfl) ?_
      refine lv_iconst (v := 2) hx hb (fh_d d_Rd_readScripts 3 rfl) (by decide) ?_
      refine lv_icmp_ge (tgt := 94) hx hb (fh_d d_Rd_readScripts 4 rfl) rfl (fun c2 => absurd c2 (fun c9 => absurd ((nI_leI (a := 2) (b := i0) (by decide) (by omega)).mp c9) (by omega))) (fun c2 => ?_)
      refine lv_aload_n hx hb (fh_d d_Rd_readScripts 5 rfl) rfl (lv_at hl 1 rfl) ?_
      refine lv_bipush (v := 94) hx hb (fh_d d_Rd_readScripts 6 rfl) (by decide) ?_
      have hC := m_Rd_take l D ct b RO hR (r - 1) (by omega) n x kA aA g C R CL RL (nI nc) (nI lc) f L a hL (by omega) hg1 hf 94
      by_cases t3 : hre f L (sk f L a) = 94
      · simp only [if_pos t3] at hC
        refine fh_callV (cc' := c_Rd_take) (nL' := 2) (rest := []) (a := x + 2) (As := [.int 94]) X hR (hC) w519 w516 w518 v11 w2 ⟨by decide, by decide, by show _ = some 1; decide +kernel⟩ (by omega) (by decide) (fh_recv hK hP mkR_rd rfl) hP hS hl.1 rfl (by exact Nat.le_of_ble_eq_true rfl) (fh_d d_Rd_readScripts 7 rfl) ⟨Nat.le_refl _, Nat.le_refl _⟩ (fun v9 h9 n9 H locs hq hP hS => ?_)
        obtain ⟨rfl, u4, u5⟩ := hq
        rw [u4, u5] at hP
        have t3l : sk f L a < L := hre_lt (by rw [t3]; decide)
        refine lv_istore (lv' := [(4, .int 1), (3, .int (nI i0)), (0, .ref (x + 2)), (1, .ref (x + 4 + i)), (2, .int (nI dp))]) hx hb (fh_d d_Rd_readScripts 8 rfl) hl (by decide) rfl (fun ls hl => ?_)
        refine lv_iload hx hb (fh_d d_Rd_readScripts 9 rfl) (lv_at hl 0 rfl) ?_
        refine lv_if_ne (tgt := 31) hx hb (fh_d d_Rd_readScripts 10 rfl) rfl (fun c6 => ?_) (fun c6 => absurd c6 (by decide))
        refine lv_iload hx hb (fh_d d_Rd_readScripts 17 rfl) (lv_at hl 0 rfl) ?_
        refine lv_if_eq (tgt := 43) hx hb (fh_d d_Rd_readScripts 18 rfl) rfl (fun c7 => absurd c7 (by decide)) (fun c7 => ?_)
        refine lv_aload_n hx hb (fh_d d_Rd_readScripts 19 rfl) rfl (lv_at hl 3 rfl) ?_
        refine fh_get (own := "FormulaSetter$Reader") (ref := "FormulaSetter$Nucleus") (C := "FormulaSetter$Nucleus") (T := T_Nu) (N := 15) (v := va_rf (((R i) 12).map (fun z => x + 4 + z))) hx hb hT i_Nu hown hK hP (mkR_nu (hi)) rfl 12 (by decide) (hT _ w75) (fun _ h9 => h9) (rfl) (fh_d d_Rd_readScripts 20 rfl) ?_
        refine lv_goto (tgt := 47) hx hb (fh_d d_Rd_readScripts 21 rfl) rfl ?_
        rcases hup : R i 12 with _ | z9
        · have hup2 := hup
          refine W.eq (g2 := F0 m 47 ls [.null]) rfl ?_
          refine lv_ifnullN (tgt := 52) hx hb (fh_d d_Rd_readScripts 24 rfl) rfl ?_
          refine lv_aload_n hx hb (fh_d d_Rd_readScripts 27 rfl) rfl (lv_at hl 2 rfl) ?_
          refine lv_iload_n hx hb (fh_d d_Rd_readScripts 28 rfl) rfl (lv_at hl 4 rfl) ?_
          refine lv_iconst (v := 1) hx hb (fh_d d_Rd_readScripts 29 rfl) (by decide) ?_
          refine lv_iadd hx hb (fh_d d_Rd_readScripts 30 rfl) ?_
          rw [nI_1 dp]
          refine fh_callV (cc' := c_Rd_readNucleus) (nL' := 3) (rest := []) (a := x + 2) (As := [.int (nI (dp + 1))]) X hR (hN1 (r - 1) (by omega) nc lc (sk f L a + 1) C R CL RL (by omega) (by omega) (by omega) (by repeat' first | assumption | apply okR_7 | apply okR_8 | apply okR_nu | apply okR_li | apply okR_l6 | apply okR_l7 | omega)) w383 w380 w382 v6 w2 ⟨by decide, by decide, by show _ = some 1; decide +kernel⟩ (by omega) (by decide) (fh_recv hK hP mkR_rd rfl) hP hS hl.1 rfl (by exact Nat.le_of_ble_eq_true rfl) (fh_d d_Rd_readScripts 31 rfl) ⟨Nat.le_refl _, Nat.le_refl _⟩ (fun v9 h9 n9 H locs hq hP hS => ?_)
          obtain ⟨ua9, ⟨nc_9, lc_9, a_9, C_9, R_9, CL_9, RL_9, e9, rfl, ub9⟩ | ⟨e9, rfl, nc_9, lc_9, a_9, C_9, R_9, CL_9, RL_9, ub9, uk9⟩⟩ := hq
          · rw [ua9, ub9] at hP
            have hB9 := hB1 _ _ _ _ _ _ _ _ _ _ _ _ _ _ (by omega) (by omega) (by omega) (by repeat' first | assumption | apply okR_7 | apply okR_8 | apply okR_nu | apply okR_li | apply okR_l6 | apply okR_l7 | omega) e9
            have uk9 := hB9.2.2.2.2.2
            refine lv_astore (lv' := [(5, .ref (x + 4 + nc)), (4, .int 1), (3, .int (nI i0)), (0, .ref (x + 2)), (1, .ref (x + 4 + i)), (2, .int (nI dp))]) hx hb (fh_d d_Rd_readScripts 32 rfl) hl (by decide) rfl (fun ls hl => ?_)
            refine lv_aload hx hb (fh_d d_Rd_readScripts 33 rfl) (lv_at hl 0 rfl) ?_
            refine lv_ifnonnull (tgt := 68) hx hb (fh_d d_Rd_readScripts 34 rfl) rfl ?_
            refine lv_iload hx hb (fh_d d_Rd_readScripts 37 rfl) (lv_at hl 1 rfl) ?_
            refine lv_if_eq (tgt := 82) hx hb (fh_d d_Rd_readScripts 38 rfl) rfl (fun c11 => absurd c11 (by decide)) (fun c11 => ?_)
            refine lv_aload_n hx hb (fh_d d_Rd_readScripts 39 rfl) rfl (lv_at hl 4 rfl) ?_
            refine lv_aload hx hb (fh_d d_Rd_readScripts 40 rfl) (lv_at hl 0 rfl) ?_
            refine fh_put (own := "FormulaSetter$Reader") (ref := "FormulaSetter$Nucleus") (C := "FormulaSetter$Nucleus") (T := T_Nu) (N := 15) (v := .ref (x + 4 + nc)) (ty := (.object "FormulaSetter$Nucleus")) hx hb hT i_Nu t_Nu k_Nu n_Nu hown hK hP hS (mkR_nu (hi)) rfl 12 (by decide) (hT _ w75) (fun _ h9 => h9) rfl (by decide +kernel) rfl rfl (Nat.le_of_ble_eq_true rfl) (fh_d d_Rd_readScripts 41 rfl) (fun H locs hP hS => ?_)
            replace hP := fh_P.eq (h' := mkR x kA aA g (nI nc_9) (nI lc_9) (.ref (x + 1)) (nI L) (nI a_9) C_9 (sT R_9 i 12 (some nc)) CL_9 RL_9) hP (mkR_nu12 (v := some nc) (hi))
            have f12 : (sT R_9 i 12 (some nc)) i 12 = some nc := sT_same
            refine lv_goto (tgt := 88) hx hb (fh_d d_Rd_readScripts 42 rfl) rfl ?_
            refine lv_iinc (k := 2) (v := (nI i0) + 1) (lv' := [(3, .int ((nI i0) + 1)), (5, .ref (x + 4 + nc)), (4, .int 1), (0, .ref (x + 2)), (1, .ref (x + 4 + i)), (2, .int (nI dp))]) hx hb (fh_d d_Rd_readScripts 46 rfl) hl rfl (by rfl) (by decide) rfl (fun ls hl => ?_)
            refine lv_goto (tgt := 2) hx hb (fh_d d_Rd_readScripts 47 rfl) rfl ?_
            rw [nI_1] at hl
            refine ih (i0 + 1) (by omega) _ _ _ _ _ _ _ (by omega) (by omega) (by omega) (by repeat' first | assumption | apply okR_7 | apply okR_8 | apply okR_nu | apply okR_li | apply okR_l6 | apply okR_l7 | omega) ?_ H _ _ hP hS (lv_sub hl [0, 3, 4, 5] rfl)
            rw [← hq0]; conv => rhs; unfold pScr
            rw [if_pos t3, if_pos hup, e9]; rfl
          · rw [ua9, ub9] at hP
            refine W.eq (g2 := F0 m 59 ls [.null]) rfl ?_
            refine lv_astoreN (lv' := [(5, .null), (4, .int 1), (3, .int (nI i0)), (0, .ref (x + 2)), (1, .ref (x + 4 + i)), (2, .int (nI dp))]) hx hb (fh_d d_Rd_readScripts 32 rfl) hl (by decide) rfl (fun ls hl => ?_)
            refine lv_aloadN hx hb (fh_d d_Rd_readScripts 33 rfl) (lv_at hl 0 rfl) ?_
            refine lv_ifnonnullN hx hb (fh_d d_Rd_readScripts 34 rfl) ?_
            refine lv_iconst (v := 0) hx hb (fh_d d_Rd_readScripts 35 rfl) (by decide) ?_
            exact fh_zret X hP hS (fh_d d_Rd_readScripts 36 rfl) (by decide) ⟨rfl, Or.inr ⟨by rw [← hq0]; unfold pScr; rw [if_pos t3, if_pos hup, e9]; rfl, rfl, rdF_mk (by repeat' first | assumption | apply okR_7 | apply okR_8 | apply okR_nu | apply okR_li | apply okR_l6 | apply okR_l7 | omega)⟩⟩
        · refine W.eq (g2 := F0 m 47 ls [.ref (x + 4 + z9)]) rfl ?_
          refine lv_ifnull hx hb (fh_d d_Rd_readScripts 24 rfl) ?_
          refine lv_iconst (v := 0) hx hb (fh_d d_Rd_readScripts 25 rfl) (by decide) ?_
          exact fh_zret X hP hS (fh_d d_Rd_readScripts 26 rfl) (by decide) ⟨rfl, Or.inr ⟨by rw [← hq0]; unfold pScr; rw [if_pos t3, if_neg (by rw [hup]; exact fun z => nomatch z)], rfl, rdF_mk (by repeat' first | assumption | apply okR_7 | apply okR_8 | apply okR_nu | apply okR_li | apply okR_l6 | apply okR_l7 | omega)⟩⟩
      · simp only [if_neg t3] at hC
        refine fh_callV (cc' := c_Rd_take) (nL' := 2) (rest := []) (a := x + 2) (As := [.int 94]) X hR (hC) w519 w516 w518 v11 w2 ⟨by decide, by decide, by show _ = some 1; decide +kernel⟩ (by omega) (by decide) (fh_recv hK hP mkR_rd rfl) hP hS hl.1 rfl (by exact Nat.le_of_ble_eq_true rfl) (fh_d d_Rd_readScripts 7 rfl) ⟨Nat.le_refl _, Nat.le_refl _⟩ (fun v9 h9 n9 H locs hq hP hS => ?_)
        obtain ⟨rfl, u15, u16⟩ := hq
        rw [u15, u16] at hP
        have t3l : sk f L a ≤ L := (sk_ge f L _ a rfl).2 (by omega)
        refine lv_istore (lv' := [(4, .int 0), (3, .int (nI i0)), (0, .ref (x + 2)), (1, .ref (x + 4 + i)), (2, .int (nI dp))]) hx hb (fh_d d_Rd_readScripts 8 rfl) hl (by decide) rfl (fun ls hl => ?_)
        refine lv_iload hx hb (fh_d d_Rd_readScripts 9 rfl) (lv_at hl 0 rfl) ?_
        refine lv_if_ne (tgt := 31) hx hb (fh_d d_Rd_readScripts 10 rfl) rfl (fun c17 => absurd c17 (Classical.not_not.mpr rfl)) (fun c17 => ?_)
        refine lv_aload_n hx hb (fh_d d_Rd_readScripts 11 rfl) rfl (lv_at hl 2 rfl) ?_
        refine lv_bipush (v := 95) hx hb (fh_d d_Rd_readScripts 12 rfl) (by decide) ?_
        have hC := m_Rd_take l D ct b RO hR (r - 1) (by omega) n x kA aA g C R CL RL (nI nc) (nI lc) f L (sk f L a) hL (by omega) hg1 hf 95
        rw [sk_id f L _ a rfl] at hC
        by_cases t18 : hre f L (sk f L a) = 95
        · simp only [if_pos t18] at hC
          refine fh_callV (cc' := c_Rd_take) (nL' := 2) (rest := []) (a := x + 2) (As := [.int 95]) X hR (hC) w519 w516 w518 v11 w2 ⟨by decide, by decide, by show _ = some 1; decide +kernel⟩ (by omega) (by decide) (fh_recv hK hP mkR_rd rfl) hP hS hl.1 rfl (by exact Nat.le_of_ble_eq_true rfl) (fh_d d_Rd_readScripts 13 rfl) ⟨Nat.le_refl _, Nat.le_refl _⟩ (fun v9 h9 n9 H locs hq hP hS => ?_)
          obtain ⟨rfl, u19, u20⟩ := hq
          rw [u19, u20] at hP
          have t18l : sk f L a < L := hre_lt (by rw [t18]; decide)
          refine lv_if_ne (tgt := 31) hx hb (fh_d d_Rd_readScripts 14 rfl) rfl (fun c21 => ?_) (fun c21 => absurd c21 (by decide))
          refine lv_iload hx hb (fh_d d_Rd_readScripts 17 rfl) (lv_at hl 0 rfl) ?_
          refine lv_if_eq (tgt := 43) hx hb (fh_d d_Rd_readScripts 18 rfl) rfl (fun c22 => ?_) (fun c22 => absurd c22 (Classical.not_not.mpr rfl))
          refine lv_aload_n hx hb (fh_d d_Rd_readScripts 22 rfl) rfl (lv_at hl 3 rfl) ?_
          refine fh_get (own := "FormulaSetter$Reader") (ref := "FormulaSetter$Nucleus") (C := "FormulaSetter$Nucleus") (T := T_Nu) (N := 15) (v := va_rf (((R i) 13).map (fun z => x + 4 + z))) hx hb hT i_Nu hown hK hP (mkR_nu (hi)) rfl 13 (by decide) (hT _ w78) (fun _ h9 => h9) (rfl) (fh_d d_Rd_readScripts 23 rfl) ?_
          rcases hup : R i 13 with _ | z9
          · have hup2 := hup
            refine W.eq (g2 := F0 m 47 ls [.null]) rfl ?_
            refine lv_ifnullN (tgt := 52) hx hb (fh_d d_Rd_readScripts 24 rfl) rfl ?_
            refine lv_aload_n hx hb (fh_d d_Rd_readScripts 27 rfl) rfl (lv_at hl 2 rfl) ?_
            refine lv_iload_n hx hb (fh_d d_Rd_readScripts 28 rfl) rfl (lv_at hl 4 rfl) ?_
            refine lv_iconst (v := 1) hx hb (fh_d d_Rd_readScripts 29 rfl) (by decide) ?_
            refine lv_iadd hx hb (fh_d d_Rd_readScripts 30 rfl) ?_
            rw [nI_1 dp]
            refine fh_callV (cc' := c_Rd_readNucleus) (nL' := 3) (rest := []) (a := x + 2) (As := [.int (nI (dp + 1))]) X hR (hN1 (r - 1) (by omega) nc lc (sk f L a + 1) C R CL RL (by omega) (by omega) (by omega) (by repeat' first | assumption | apply okR_7 | apply okR_8 | apply okR_nu | apply okR_li | apply okR_l6 | apply okR_l7 | omega)) w383 w380 w382 v6 w2 ⟨by decide, by decide, by show _ = some 1; decide +kernel⟩ (by omega) (by decide) (fh_recv hK hP mkR_rd rfl) hP hS hl.1 rfl (by exact Nat.le_of_ble_eq_true rfl) (fh_d d_Rd_readScripts 31 rfl) ⟨Nat.le_refl _, Nat.le_refl _⟩ (fun v9 h9 n9 H locs hq hP hS => ?_)
            obtain ⟨ua24, ⟨nc_24, lc_24, a_24, C_24, R_24, CL_24, RL_24, e24, rfl, ub24⟩ | ⟨e24, rfl, nc_24, lc_24, a_24, C_24, R_24, CL_24, RL_24, ub24, uk24⟩⟩ := hq
            · rw [ua24, ub24] at hP
              have hB24 := hB1 _ _ _ _ _ _ _ _ _ _ _ _ _ _ (by omega) (by omega) (by omega) (by repeat' first | assumption | apply okR_7 | apply okR_8 | apply okR_nu | apply okR_li | apply okR_l6 | apply okR_l7 | omega) e24
              have uk24 := hB24.2.2.2.2.2
              refine lv_astore (lv' := [(5, .ref (x + 4 + nc)), (4, .int 0), (3, .int (nI i0)), (0, .ref (x + 2)), (1, .ref (x + 4 + i)), (2, .int (nI dp))]) hx hb (fh_d d_Rd_readScripts 32 rfl) hl (by decide) rfl (fun ls hl => ?_)
              refine lv_aload hx hb (fh_d d_Rd_readScripts 33 rfl) (lv_at hl 0 rfl) ?_
              refine lv_ifnonnull (tgt := 68) hx hb (fh_d d_Rd_readScripts 34 rfl) rfl ?_
              refine lv_iload hx hb (fh_d d_Rd_readScripts 37 rfl) (lv_at hl 1 rfl) ?_
              refine lv_if_eq (tgt := 82) hx hb (fh_d d_Rd_readScripts 38 rfl) rfl (fun c26 => ?_) (fun c26 => absurd c26 (Classical.not_not.mpr rfl))
              refine lv_aload_n hx hb (fh_d d_Rd_readScripts 43 rfl) rfl (lv_at hl 4 rfl) ?_
              refine lv_aload hx hb (fh_d d_Rd_readScripts 44 rfl) (lv_at hl 0 rfl) ?_
              refine fh_put (own := "FormulaSetter$Reader") (ref := "FormulaSetter$Nucleus") (C := "FormulaSetter$Nucleus") (T := T_Nu) (N := 15) (v := .ref (x + 4 + nc)) (ty := (.object "FormulaSetter$Nucleus")) hx hb hT i_Nu t_Nu k_Nu n_Nu hown hK hP hS (mkR_nu (hi)) rfl 13 (by decide) (hT _ w78) (fun _ h9 => h9) rfl (by decide +kernel) rfl rfl (Nat.le_of_ble_eq_true rfl) (fh_d d_Rd_readScripts 45 rfl) (fun H locs hP hS => ?_)
              replace hP := fh_P.eq (h' := mkR x kA aA g (nI nc_24) (nI lc_24) (.ref (x + 1)) (nI L) (nI a_24) C_24 (sT R_24 i 13 (some nc)) CL_24 RL_24) hP (mkR_nu13 (v := some nc) (hi))
              have f27 : (sT R_24 i 13 (some nc)) i 13 = some nc := sT_same
              refine lv_iinc (k := 2) (v := (nI i0) + 1) (lv' := [(3, .int ((nI i0) + 1)), (5, .ref (x + 4 + nc)), (4, .int 0), (0, .ref (x + 2)), (1, .ref (x + 4 + i)), (2, .int (nI dp))]) hx hb (fh_d d_Rd_readScripts 46 rfl) hl rfl (by rfl) (by decide) rfl (fun ls hl => ?_)
              refine lv_goto (tgt := 2) hx hb (fh_d d_Rd_readScripts 47 rfl) rfl ?_
              rw [nI_1] at hl
              refine ih (i0 + 1) (by omega) _ _ _ _ _ _ _ (by omega) (by omega) (by omega) (by repeat' first | assumption | apply okR_7 | apply okR_8 | apply okR_nu | apply okR_li | apply okR_l6 | apply okR_l7 | omega) ?_ H _ _ hP hS (lv_sub hl [0, 3, 4, 5] rfl)
              rw [← hq0]; conv => rhs; unfold pScr
              rw [if_neg t3, if_pos t18, if_pos hup, e24]; rfl
            · rw [ua24, ub24] at hP
              refine W.eq (g2 := F0 m 59 ls [.null]) rfl ?_
              refine lv_astoreN (lv' := [(5, .null), (4, .int 0), (3, .int (nI i0)), (0, .ref (x + 2)), (1, .ref (x + 4 + i)), (2, .int (nI dp))]) hx hb (fh_d d_Rd_readScripts 32 rfl) hl (by decide) rfl (fun ls hl => ?_)
              refine lv_aloadN hx hb (fh_d d_Rd_readScripts 33 rfl) (lv_at hl 0 rfl) ?_
              refine lv_ifnonnullN hx hb (fh_d d_Rd_readScripts 34 rfl) ?_
              refine lv_iconst (v := 0) hx hb (fh_d d_Rd_readScripts 35 rfl) (by decide) ?_
              exact fh_zret X hP hS (fh_d d_Rd_readScripts 36 rfl) (by decide) ⟨rfl, Or.inr ⟨by rw [← hq0]; unfold pScr; rw [if_neg t3, if_pos t18, if_pos hup, e24]; rfl, rfl, rdF_mk (by repeat' first | assumption | apply okR_7 | apply okR_8 | apply okR_nu | apply okR_li | apply okR_l6 | apply okR_l7 | omega)⟩⟩
          · refine W.eq (g2 := F0 m 47 ls [.ref (x + 4 + z9)]) rfl ?_
            refine lv_ifnull hx hb (fh_d d_Rd_readScripts 24 rfl) ?_
            refine lv_iconst (v := 0) hx hb (fh_d d_Rd_readScripts 25 rfl) (by decide) ?_
            exact fh_zret X hP hS (fh_d d_Rd_readScripts 26 rfl) (by decide) ⟨rfl, Or.inr ⟨by rw [← hq0]; unfold pScr; rw [if_neg t3, if_pos t18, if_neg (by rw [hup]; exact fun z => nomatch z)], rfl, rdF_mk (by repeat' first | assumption | apply okR_7 | apply okR_8 | apply okR_nu | apply okR_li | apply okR_l6 | apply okR_l7 | omega)⟩⟩
        · simp only [if_neg t18] at hC
          refine fh_callV (cc' := c_Rd_take) (nL' := 2) (rest := []) (a := x + 2) (As := [.int 95]) X hR (hC) w519 w516 w518 v11 w2 ⟨by decide, by decide, by show _ = some 1; decide +kernel⟩ (by omega) (by decide) (fh_recv hK hP mkR_rd rfl) hP hS hl.1 rfl (by exact Nat.le_of_ble_eq_true rfl) (fh_d d_Rd_readScripts 13 rfl) ⟨Nat.le_refl _, Nat.le_refl _⟩ (fun v9 h9 n9 H locs hq hP hS => ?_)
          obtain ⟨rfl, u30, u31⟩ := hq
          rw [u30, u31] at hP
          have t18l : sk f L a ≤ L := by omega
          refine lv_if_ne (tgt := 31) hx hb (fh_d d_Rd_readScripts 14 rfl) rfl (fun c32 => absurd c32 (Classical.not_not.mpr rfl)) (fun c32 => ?_)
          refine lv_iconst (v := 1) hx hb (fh_d d_Rd_readScripts 15 rfl) (by decide) ?_
          exact fh_zret X hP hS (fh_d d_Rd_readScripts 16 rfl) (by decide) ⟨rfl, Or.inl ⟨_, _, _, _, _, _, _, by rw [← hq0]; unfold pScr; rw [if_neg t3, if_neg t18], rfl, rfl⟩⟩
  refine lv_iconst (v := 0) hx hb (fh_d d_Rd_readScripts 0 rfl) (by decide) ?_
  refine lv_istore_n (lv' := [(3, .int 0), (0, .ref (x + 2)), (1, .ref (x + 4 + i)), (2, .int (nI dp))]) hx hb (fh_d d_Rd_readScripts 1 rfl) rfl hl (by decide) rfl (fun ls hl => ?_)
  exact loop 2 0 rfl nc lc a C R CL RL hnc hlc hal hok hQ0.symm H _ _ hP hS hl
