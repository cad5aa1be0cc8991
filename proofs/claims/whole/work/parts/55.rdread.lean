/-! readNucleus and readLine at each depth; Reader.read. Printed by wip/whole/gen/p55.py -/
theorem cN_0 (l : Launch) (D : va_G) (ct : Nat → ClassId) (b : Nat) (RO : State → Prop) (hR : fh_R b RO) (sA sV : Nat → Nat) (hSt : ∀ U, RO U → ro_S b sA sV U) (kA aA yA : Nat → Nat) (tK tS tM : Nat) (hEn : ∀ U, RO U → ro_E b sA kA aA yA tK tS tM U) (hAd : ad_ok kA aA yA) (n x : Nat) (g : fh_H) (f : Nat → Int32) (L : Nat) (hL : L ≤ 160) (hg1 : g (x + 1) = some (.inl (ct 1, 160, .inl f))) (hf7 : ∀ j, f j = (nI (ixI (f j))) ∧ ixI (f j) < 128) (dp r0 : Nat) (h1 : 7 ≤ dp) (h2 : dp ≤ 100) : cN l D ct b RO kA aA n x g L dp r0 (pN f L 0) := fun r _ nc lc a C R CL RL _ _ _ a4 => by
  have h := m_Rd_readNucleus0 l D ct b RO hR sA sV hSt kA aA yA tK tS tM hEn hAd n x g f L hL hg1 hf7 dp h1 h2 r nc lc a C R CL RL a4
  rw [pN_0]
  exact h
theorem cN_up {l : Launch} {D : va_G} {ct : Nat → ClassId} {b : Nat} {RO : State → Prop} {kA aA : Nat → Nat} {n x : Nat} {g : fh_H} {L dp r0 r1 : Nat} {N : RT → Option RT} (h : r0 ≤ r1) (hN : cN l D ct b RO kA aA n x g L dp r0 N) : cN l D ct b RO kA aA n x g L dp r1 N := fun r hr => hN r (Nat.le_trans h hr)
theorem rd_all (l : Launch) (D : va_G) (ct : Nat → ClassId) (b : Nat) (RO : State → Prop) (hR : fh_R b RO) (sA sV : Nat → Nat) (hSt : ∀ U, RO U → ro_S b sA sV U) (kA aA yA : Nat → Nat) (tK tS tM : Nat) (hEn : ∀ U, RO U → ro_E b sA kA aA yA tK tS tM U) (hAd : ad_ok kA aA yA) (n x : Nat) (g : fh_H) (f : Nat → Int32) (L : Nat) (hL : L ≤ 160) (hg1 : g (x + 1) = some (.inl (ct 1, 160, .inl f))) (hf7 : ∀ j, f j = (nI (ixI (f j))) ∧ ixI (f j) < 128) (hg3 : g (x + 3) = some (.inl (ct 4, 60, fh_q (rd_F (x + 4) 60)))) (hg6 : g (x + 64) = some (.inl (ct 5, 161, fh_q (rd_F (x + 65) 161)))) : ∀ d dp, d + dp = 7 → cN l D ct b RO kA aA n x g L dp (4 * d + 7) (pN f L d) ∧ cL l D ct b RO kA aA n x g L dp (4 * d + 8) (pL f L d)
  | 0, dp, h => ⟨cN_0 l D ct b RO hR sA sV hSt kA aA yA tK tS tM hEn hAd n x g f L hL hg1 hf7 dp _ (by omega) (by omega), fun r hr nc lc a C R CL RL a1 a2 a3 a4 => m_Rd_readLine l D ct b RO hR sA sV hSt kA aA yA tK tS tM hEn hAd n x g f L hL hg1 hf7 hg6 (pN f L 0) (pN f L 0) dp 7 0 (cN_0 l D ct b RO hR sA sV hSt kA aA yA tK tS tM hEn hAd n x g f L hL hg1 hf7 dp _ (by omega) (by omega)) (gK_bN (pN_gK f L 0).1 (pN_gR f L 0)) (pN_gK f L 0).2 (cN_0 l D ct b RO hR sA sV hSt kA aA yA tK tS tM hEn hAd n x g f L hL hg1 hf7 (dp + 1) _ (by omega) (by omega)) (gK_bN (pN_gK f L 0).1 (pN_gR f L 0)) (pN_gK f L 0).2 r (by omega) (by omega) (by omega) nc lc a C R CL RL a1 a2 a3 a4⟩
  | d + 1, dp, h => by
    have ih := rd_all l D ct b RO hR sA sV hSt kA aA yA tK tS tM hEn hAd n x g f L hL hg1 hf7 hg3 hg6 d (dp + 1) (by omega)
    have hN : cN l D ct b RO kA aA n x g L dp (4 * (d + 1) + 7) (pN f L (d + 1)) := fun r hr nc lc a C R CL RL a1 a2 a3 a4 => by
      rw [pN_s]
      exact m_Rd_readNucleus l D ct b RO hR sA sV hSt kA aA yA tK tS tM hEn hAd n x g f L hL hg1 hf7 hg3 (pN f L d) (pL f L d) dp (4 * d + 8) (cN_up (by omega) ih.1) (gK_bN (pN_gK f L d).1 (pN_gR f L d)) ih.2 (pL_bL f L d) (by omega) r (by omega) (by omega) nc lc a C R CL RL a1 a2 a3 a4
    exact ⟨hN, fun r hr nc lc a C R CL RL a1 a2 a3 a4 => m_Rd_readLine l D ct b RO hR sA sV hSt kA aA yA tK tS tM hEn hAd n x g f L hL hg1 hf7 hg6 (pN f L (d + 1)) (pN f L d) dp (4 * (d + 1) + 7) (4 * d + 7) hN (gK_bN (pN_gK f L (d + 1)).1 (pN_gR f L (d + 1))) (pN_gK f L (d + 1)).2 ih.1 (gK_bN (pN_gK f L d).1 (pN_gR f L d)) (pN_gK f L d).2 r (by omega) (by omega) (by omega) nc lc a C R CL RL a1 a2 a3 a4⟩
/-- the whole text: its tables, if it is a formula -/
def rdOk (f : Nat → Int32) (L : Nat) (S : RT) : Option RT := (pL f L 7 S).bind fun S' => if L ≤ S'.2.2.1 then some S' else none
set_option maxHeartbeats 4000000 in
set_option maxRecDepth 100000 in
theorem m_Rd_read (l : Launch) (D : va_G) (ct : Nat → ClassId) (b : Nat) (RO : State → Prop) (hR : fh_R b RO) (sA sV : Nat → Nat) (hSt : ∀ U, RO U → ro_S b sA sV U) (kA aA yA : Nat → Nat) (tK tS tM : Nat) (hEn : ∀ U, RO U → ro_E b sA kA aA yA tK tS tM U) (hAd : ad_ok kA aA yA) (n x : Nat) (g : fh_H) (f : Nat → Int32) (L : Nat) (hL : L ≤ 160) (hg1 : g (x + 1) = some (.inl (ct 1, 160, .inl f))) (hf7 : ∀ j, f j = (nI (ixI (f j))) ∧ ixI (f j) < 128) (hg3 : g (x + 3) = some (.inl (ct 4, 60, fh_q (rd_F (x + 4) 60)))) (hg6 : g (x + 64) = some (.inl (ct 5, 161, fh_q (rd_F (x + 65) 161)))) (r : Nat) (hr : 37 ≤ r) (nc0 lc0 : Int32) (tx0 : Value) (len0 at0 : Int32) (C : Nat → Nat → Int32) (R : Nat → Nat → Option Nat) (CL : Nat → Nat → Int32) (RL : Nat → Nat → Option Nat) (hok : okR C CL) : fh_C l D fh_cl (fh_tys ct) b RO y_Rd_read (Cond.code y_Rd_read c_Rd_read 4 (Option.some (FieldType.object "FormulaSetter$Line")) :: fh_T) (fh_rm r 0 0) [.ref (x + 2), .ref (x + 1), .int (nI L)] (mkR x kA aA g nc0 lc0 tx0 len0 at0 C R CL RL) n (rdP x kA aA g L n (x + 65) (rdOk f L (0, 0, 0, C, R, CL, RL))) 0 0 := by
  refine fh_enter (by decide) (Nat.le_of_ble_eq_true rfl) [(0, .ref (x + 2)), (1, .ref (x + 1)), (2, .int (nI L))] rfl ?_
  intro p e s m args below meth c H ls X hP hS hl
  have hx := X.1
  have hb := X.2.1
  have hml := X.2.2.1
  have hown : s.vm.findClass "FormulaSetter$Reader" = some m.cls := X.2.2.2.1
  have hT := X.2.2.2.2.1
  have hK := X.2.2.2.2.2.1
  have hRO := X.2.2.2.2.2.2.1
  have hnm : meth.name = "read" := X.2.2.2.2.2.2.2.2.2.2
  have hmin : (if (160 : Int32) < nI L then (160 : Int32) else nI L) = nI L := if_neg (fun z => absurd ((nI_ltI (a := 160) (b := L) (by decide) (by omega)).mp z) (by omega))
  refine lv_aload_n hx hb (fh_d d_Rd_read 0 rfl) rfl (lv_at hl 0 rfl) ?_
  refine lv_aload_n hx hb (fh_d d_Rd_read 1 rfl) rfl (lv_at hl 1 rfl) ?_
  refine fh_put (own := "FormulaSetter$Reader") (ref := "FormulaSetter$Reader") (C := "FormulaSetter$Reader") (T := T_Rd) (N := 7) (v := .ref (x + 1)) (ty := (.array .char)) hx hb hT i_Rd t_Rd k_Rd n_Rd hown hK hP hS mkR_rd rfl 4 (by decide) (hT _ w184) (fun _ h9 => h9) rfl (by decide +kernel) rfl rfl (Nat.le_of_ble_eq_true rfl) (fh_d d_Rd_read 2 rfl) (fun H locs hP hS => ?_)
  replace hP := fh_P.eq (h' := mkR x kA aA g nc0 lc0 (.ref (x + 1)) len0 at0 C R CL RL) hP mkR_urd
  refine lv_aload_n hx hb (fh_d d_Rd_read 3 rfl) rfl (lv_at hl 0 rfl) ?_
  refine lv_iload_n hx hb (fh_d d_Rd_read 4 rfl) rfl (lv_at hl 2 rfl) ?_
  refine lv_aload_n hx hb (fh_d d_Rd_read 5 rfl) rfl (lv_at hl 1 rfl) ?_
  refine fh_alen (v := 160) hx hb hK hP 1 ((mkR_g (by omega) (by omega) (by omega)).trans hg1) rfl rfl (fh_d d_Rd_read 6 rfl) ?_
  refine va_mmin hx hb (hml.trans hl.1.symm) hown (hT _ w297) (hT _ w298) (hT _ w14) (hT _ w299) (by show 1 ≤ r; omega) (by show _ ≤ 60 * r; simp [Value.category]; omega) (Nat.le_refl _) (Nat.le_refl _) (fh_d d_Rd_read 7 rfl) ?_
  rw [hmin]
  refine fh_put (own := "FormulaSetter$Reader") (ref := "FormulaSetter$Reader") (C := "FormulaSetter$Reader") (T := T_Rd) (N := 7) (v := .int (nI L)) (ty := .int) hx hb hT i_Rd t_Rd k_Rd n_Rd hown hK hP hS mkR_rd rfl 5 (by decide) (hT _ w185) (fun _ h9 => h9) rfl (by decide +kernel) rfl rfl (Nat.le_of_ble_eq_true rfl) (fh_d d_Rd_read 8 rfl) (fun H locs hP hS => ?_)
  replace hP := fh_P.eq (h' := mkR x kA aA g nc0 lc0 (.ref (x + 1)) (nI L) at0 C R CL RL) hP mkR_urd
  refine lv_aload_n hx hb (fh_d d_Rd_read 9 rfl) rfl (lv_at hl 0 rfl) ?_
  refine lv_iconst (v := 0) hx hb (fh_d d_Rd_read 10 rfl) (by decide) ?_
  refine fh_put (own := "FormulaSetter$Reader") (ref := "FormulaSetter$Reader") (C := "FormulaSetter$Reader") (T := T_Rd) (N := 7) (v := .int 0) (ty := .int) hx hb hT i_Rd t_Rd k_Rd n_Rd hown hK hP hS mkR_rd rfl 6 (by decide) (hT _ w186) (fun _ h9 => h9) rfl (by decide +kernel) rfl rfl (Nat.le_of_ble_eq_true rfl) (fh_d d_Rd_read 11 rfl) (fun H locs hP hS => ?_)
  replace hP := fh_P.eq (h' := mkR x kA aA g nc0 lc0 (.ref (x + 1)) (nI L) 0 C R CL RL) hP mkR_urd
  refine lv_aload_n hx hb (fh_d d_Rd_read 12 rfl) rfl (lv_at hl 0 rfl) ?_
  refine lv_iconst (v := 0) hx hb (fh_d d_Rd_read 13 rfl) (by decide) ?_
  refine fh_put (own := "FormulaSetter$Reader") (ref := "FormulaSetter$Reader") (C := "FormulaSetter$Reader") (T := T_Rd) (N := 7) (v := .int 0) (ty := .int) hx hb hT i_Rd t_Rd k_Rd n_Rd hown hK hP hS mkR_rd rfl 2 (by decide) (hT _ w182) (fun _ h9 => h9) rfl (by decide +kernel) rfl rfl (Nat.le_of_ble_eq_true rfl) (fh_d d_Rd_read 14 rfl) (fun H locs hP hS => ?_)
  replace hP := fh_P.eq (h' := mkR x kA aA g 0 lc0 (.ref (x + 1)) (nI L) 0 C R CL RL) hP mkR_urd
  refine lv_aload_n hx hb (fh_d d_Rd_read 15 rfl) rfl (lv_at hl 0 rfl) ?_
  refine lv_iconst (v := 0) hx hb (fh_d d_Rd_read 16 rfl) (by decide) ?_
  refine fh_put (own := "FormulaSetter$Reader") (ref := "FormulaSetter$Reader") (C := "FormulaSetter$Reader") (T := T_Rd) (N := 7) (v := .int 0) (ty := .int) hx hb hT i_Rd t_Rd k_Rd n_Rd hown hK hP hS mkR_rd rfl 3 (by decide) (hT _ w183) (fun _ h9 => h9) rfl (by decide +kernel) rfl rfl (Nat.le_of_ble_eq_true rfl) (fh_d d_Rd_read 17 rfl) (fun H locs hP hS => ?_)
  replace hP := fh_P.eq (h' := mkR x kA aA g 0 0 (.ref (x + 1)) (nI L) 0 C R CL RL) hP mkR_urd
  refine lv_aload_n hx hb (fh_d d_Rd_read 18 rfl) rfl (lv_at hl 0 rfl) ?_
  refine lv_iconst (v := 0) hx hb (fh_d d_Rd_read 19 rfl) (by decide) ?_
  replace hP : fh_P D fh_cl b (mkR x kA aA g (nI 0) (nI 0) (.ref (x + 1)) (nI L) (nI 0) C R CL RL) n H := hP
  have hC := (rd_all l D ct b RO hR sA sV hSt kA aA yA tK tS tM hEn hAd n x g f L hL hg1 hf7 hg3 hg6 7 0 rfl).2
  have hBL := pL_bL f L 7
  refine fh_callV (cc' := c_Rd_readLine) (nL' := 6) (rest := []) (a := x + 2) (As := [.int 0]) X hR (hC (r - 1) (by omega) 0 0 0 C R CL RL (by omega) (by omega) (by omega) hok) w303 w300 w302 v0 w2 ⟨by decide, by decide, by show _ = some 1; decide +kernel⟩ (by omega) (by decide) (fh_recv hK hP mkR_rd rfl) hP hS hl.1 rfl (by exact Nat.le_of_ble_eq_true rfl) (fh_d d_Rd_read 20 rfl) ⟨Nat.le_refl _, Nat.le_refl _⟩ (fun v9 h9 n9 H locs hq hP hS => ?_)
  obtain ⟨ua1, ⟨nc_1, lc_1, a_1, C_1, R_1, CL_1, RL_1, e1, rfl, ub1⟩ | ⟨e1, rfl, nc_1, lc_1, a_1, C_1, R_1, CL_1, RL_1, ub1, uk1⟩⟩ := hq
  · rw [ua1, ub1] at hP
    have hB1 := hBL _ _ _ _ _ _ _ _ _ _ _ _ _ _ (by omega) (by omega) (by omega) (by repeat' first | assumption | apply okR_7 | apply okR_8 | apply okR_nu | apply okR_li | apply okR_l6 | apply okR_l7 | omega) e1
    have uk1 := hB1.2.2.2.2.2.2
    refine lv_astore_n (lv' := [(3, .ref (x + 65 + 0)), (0, .ref (x + 2)), (1, .ref (x + 1)), (2, .int (nI L))]) hx hb (fh_d d_Rd_read 21 rfl) rfl hl (by decide) rfl (fun ls hl => ?_)
    refine lv_aload_n hx hb (fh_d d_Rd_read 22 rfl) rfl (lv_at hl 0 rfl) ?_
    refine lv_ifnull hx hb (fh_d d_Rd_read 23 rfl) ?_
    refine lv_aload_n hx hb (fh_d d_Rd_read 24 rfl) rfl (lv_at hl 1 rfl) ?_
    refine fh_get (own := "FormulaSetter$Reader") (ref := "FormulaSetter$Reader") (C := "FormulaSetter$Reader") (T := T_Rd) (N := 7) (v := .int (nI a_1)) hx hb hT i_Rd hown hK hP mkR_rd rfl 6 (by decide) (hT _ w186) (fun _ h9 => h9) (rfl) (fh_d d_Rd_read 25 rfl) ?_
    refine lv_aload_n hx hb (fh_d d_Rd_read 26 rfl) rfl (lv_at hl 1 rfl) ?_
    refine fh_get (own := "FormulaSetter$Reader") (ref := "FormulaSetter$Reader") (C := "FormulaSetter$Reader") (T := T_Rd) (N := 7) (v := .int (nI L)) hx hb hT i_Rd hown hK hP mkR_rd rfl 5 (by decide) (hT _ w185) (fun _ h9 => h9) (rfl) (fh_d d_Rd_read 27 rfl) ?_
    refine lv_icmp_lt (tgt := 55) hx hb (fh_d d_Rd_read 28 rfl) rfl (fun c3 => ?_) (fun c3 => ?_)
    · have ql : ¬ L ≤ a_1 := by have := (nI_ltI (a := a_1) (b := L) (by omega) (by omega)).mp c3; omega
      refine lv_null hx hb (fh_d d_Rd_read 31 rfl) ?_
      exact fh_aret (r := none) X hP hS (fh_d d_Rd_read 32 rfl) ⟨rfl, Or.inr ⟨by unfold rdOk; rw [e1]; exact if_neg ql, rfl, rdF_mk (by repeat' first | assumption | apply okR_7 | apply okR_8 | apply okR_nu | apply okR_li | apply okR_l6 | apply okR_l7 | omega)⟩⟩
    · have ql : L ≤ a_1 := Nat.not_lt.mp fun z => c3 ((nI_ltI (a := a_1) (b := L) (by omega) (by omega)).mpr z)
      refine lv_aload_n hx hb (fh_d d_Rd_read 29 rfl) rfl (lv_at hl 0 rfl) ?_
      refine lv_goto (tgt := 56) hx hb (fh_d d_Rd_read 30 rfl) rfl ?_
      exact fh_aret (r := some (x + 65)) X hP hS (fh_d d_Rd_read 32 rfl) ⟨rfl, Or.inl ⟨_, _, _, _, _, _, _, by unfold rdOk; rw [e1]; exact if_pos ql, rfl, rfl⟩⟩
  · rw [ua1, ub1] at hP
    refine W.eq (g2 := F0 m 35 ls [.null]) rfl ?_
    refine lv_astore_nN (lv' := [(3, .null), (0, .ref (x + 2)), (1, .ref (x + 1)), (2, .int (nI L))]) hx hb (fh_d d_Rd_read 21 rfl) rfl hl (by decide) rfl (fun ls hl => ?_)
    refine lv_aload_nN hx hb (fh_d d_Rd_read 22 rfl) rfl (lv_at hl 0 rfl) ?_
    refine lv_ifnullN (tgt := 55) hx hb (fh_d d_Rd_read 23 rfl) rfl ?_
    refine lv_null hx hb (fh_d d_Rd_read 31 rfl) ?_
    exact fh_aret (r := none) X hP hS (fh_d d_Rd_read 32 rfl) ⟨rfl, Or.inr ⟨by unfold rdOk; rw [e1]; rfl, rfl, rdF_mk (by repeat' first | assumption | apply okR_7 | apply okR_8 | apply okR_nu | apply okR_li | apply okR_l6 | apply okR_l7 | omega)⟩⟩
