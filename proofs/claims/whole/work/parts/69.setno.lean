/-! FormulaSetter.set where it throws. Printed by wip/whole/gen/p69.py -/
set_option maxHeartbeats 4000000 in
set_option maxRecDepth 100000 in
theorem m_FS_setBad (l : Launch) (D : va_G) (ct : Nat → ClassId) (b : Nat) (RO : State → Prop) (hR : fh_R b RO) (sA sV : Nat → Nat) (hSt : ∀ U, RO U → ro_S b sA sV U) (kA aA yA : Nat → Nat) (tK tS tM : Nat) (hEn : ∀ U, RO U → ro_E b sA kA aA yA tK tS tM U) (htr : l.stackTraces = false) (hRX : ∀ U, RO U → ro_X b U) (r n x : Nat) (hr : 8 ≤ r) (s1 : Int32) (hbad : ¬ (¬ s1 < 0 ∧ s1 < 4)) (h : fh_H) : fh_CT l D fh_cl (fh_tys ct) b RO y_FS_set (Cond.code y_FS_set c_FS_set 3 (Option.some FieldType.int) :: fh_T) (fh_rm r 1 6) [.ref x, .int s1] h n xI (fun h' n' => h' = h ∧ n' = n + 1) 1 6 := by
  refine fh_enterT (by decide) (Nat.le_of_ble_eq_true rfl) [(0, .ref x), (1, .int s1)] rfl ?_
  intro p e s m args below meth c H ls hout X hP hS hl
  have hx := X.1
  have hb := X.2.1
  have hml := X.2.2.1
  have hown : s.vm.findClass "FormulaSetter" = some m.cls := X.2.2.2.1
  have hT := X.2.2.2.2.1
  have hK := X.2.2.2.2.2.1
  have hRO := X.2.2.2.2.2.2.1
  have hnm : meth.name = "set" := X.2.2.2.2.2.2.2.2.2.2
  refine lv_iload_n hx hb (fh_d d_FS_set 0 rfl) rfl (lv_at hl 1 rfl) ?_
  refine lv_if_lt (tgt := 12) hx hb (fh_d d_FS_set 1 rfl) rfl (fun c1 => ?_) (fun c1 => ?_)
  · exact fh_throw (cls := xI) (tx := "the style is not 0 .. 3") (ixn := 40) (ixs := 42) (ic := 44) (q := sA 8) X hR htr hRX (fun U h9 => ((hSt U h9).1 8 (by decide)).2.2.2.2) (by decide +kernel) (fun U h9 A => xI_own h9 A) w571 w572 w13 hout hP hS hl.1 (fh_d d_FS_set 6 rfl) (fh_d d_FS_set 7 rfl) (fh_d d_FS_set 8 rfl) (fh_d d_FS_set 9 rfl) (fh_d d_FS_set 10 rfl) (by omega) ⟨Nat.le_refl _, Nat.le_refl _⟩ ⟨rfl, rfl⟩
  · refine lv_iload_n hx hb (fh_d d_FS_set 2 rfl) rfl (lv_at hl 1 rfl) ?_
    refine va_gets (own := "FormulaSetter") (ref := "FormulaSetter") hx hb (hEn _ hRO).2.2.2.2.2.1 hS hown (hT _ w569) (fun _ h9 => h9) (fh_d d_FS_set 3 rfl) ?_
    refine va_tlen (v := 4) hx hb (hEn _ hRO).2.2.2.2.2.2.1 hS rfl (fh_d d_FS_set 4 rfl) ?_
    refine lv_icmp_lt (tgt := 22) hx hb (fh_d d_FS_set 5 rfl) rfl (fun c2 => ?_) (fun c2 => ?_)
    · exact absurd ⟨c1, c2⟩ hbad
    · exact fh_throw (cls := xI) (tx := "the style is not 0 .. 3") (ixn := 40) (ixs := 42) (ic := 44) (q := sA 8) X hR htr hRX (fun U h9 => ((hSt U h9).1 8 (by decide)).2.2.2.2) (by decide +kernel) (fun U h9 A => xI_own h9 A) w571 w572 w13 hout hP hS hl.1 (fh_d d_FS_set 6 rfl) (fh_d d_FS_set 7 rfl) (fh_d d_FS_set 8 rfl) (fh_d d_FS_set 9 rfl) (fh_d d_FS_set 10 rfl) (by omega) ⟨Nat.le_refl _, Nat.le_refl _⟩ ⟨rfl, rfl⟩

set_option maxHeartbeats 4000000 in
set_option maxRecDepth 100000 in
theorem m_FS_setNo (l : Launch) (D : va_G) (ct : Nat → ClassId) (b : Nat) (RO : State → Prop) (hR : fh_R b RO) (sA sV : Nat → Nat) (hSt : ∀ U, RO U → ro_S b sA sV U) (kA aA yA : Nat → Nat) (tK tS tM : Nat) (hEn : ∀ U, RO U → ro_E b sA kA aA yA tK tS tM U) (hAd : ad_ok kA aA yA) (n x : Nat) (g : fh_H) (f : Nat → Int32) (L : Nat) (hL : L ≤ 160) (hg1 : g (x + 1) = some (.inl (ct 1, 160, .inl f))) (hf7 : ∀ j, f j = (nI (ixI (f j))) ∧ ixI (f j) < 128) (hg3 : g (x + 3) = some (.inl (ct 4, 60, fh_q (rd_F (x + 4) 60)))) (hg6 : g (x + 64) = some (.inl (ct 5, 161, fh_q (rd_F (x + 65) 161)))) (htr : l.stackTraces = false) (hRX : ∀ U, RO U → ro_X b U) (w0 h0 d0 : Int32) (hgx : g x = some (fs_o x (nI L) w0 h0 d0)) (r : Nat) (hr : 38 ≤ r) (nc0 lc0 : Int32) (tx0 : Value) (len0 at0 : Int32) (C : Nat → Nat → Int32) (R : Nat → Nat → Option Nat) (CL : Nat → Nat → Int32) (RL : Nat → Nat → Option Nat) (hok : okR C CL) (s0 : Nat) (hs0 : s0 < 4) (hno : rdOk f L (0, 0, 0, C, R, CL, RL) = none) : fh_CT l D fh_cl (fh_tys ct) b RO y_FS_set (Cond.code y_FS_set c_FS_set 3 (Option.some FieldType.int) :: fh_T) (fh_rm r 1 6) [.ref x, .int (nI s0)] (mkR x kA aA g nc0 lc0 tx0 len0 at0 C R CL RL) n xI (fun h' n' => rdF x kA aA g L h' ∧ n' = n + 1) 1 6 := by
  refine fh_enterT (by decide) (Nat.le_of_ble_eq_true rfl) [(0, .ref x), (1, .int (nI s0))] rfl ?_
  intro p e s m args below meth c H ls hout X hP hS hl
  have hx := X.1
  have hb := X.2.1
  have hml := X.2.2.1
  have hown : s.vm.findClass "FormulaSetter" = some m.cls := X.2.2.2.1
  have hT := X.2.2.2.2.1
  have hK := X.2.2.2.2.2.1
  have hRO := X.2.2.2.2.2.2.1
  have hnm : meth.name = "set" := X.2.2.2.2.2.2.2.2.2.2
  refine lv_iload_n hx hb (fh_d d_FS_set 0 rfl) rfl (lv_at hl 1 rfl) ?_
  refine lv_if_lt (tgt := 12) hx hb (fh_d d_FS_set 1 rfl) rfl (fun c1 => absurd c1 (nI_pos (by omega))) (fun c1 => ?_)
  refine lv_iload_n hx hb (fh_d d_FS_set 2 rfl) rfl (lv_at hl 1 rfl) ?_
  refine va_gets (own := "FormulaSetter") (ref := "FormulaSetter") hx hb (hEn _ hRO).2.2.2.2.2.1 hS hown (hT _ w569) (fun _ h9 => h9) (fh_d d_FS_set 3 rfl) ?_
  refine va_tlen (v := 4) hx hb (hEn _ hRO).2.2.2.2.2.2.1 hS rfl (fh_d d_FS_set 4 rfl) ?_
  refine lv_icmp_lt (tgt := 22) hx hb (fh_d d_FS_set 5 rfl) rfl (fun c2 => ?_) (fun c2 => absurd c2 (fun z => z ((nI_ltI (a := s0) (b := 4) (by omega) (by decide)).mpr hs0)))
  refine lv_aload_n hx hb (fh_d d_FS_set 11 rfl) rfl (lv_at hl 0 rfl) ?_
  refine fh_get (own := "FormulaSetter") (ref := "FormulaSetter") (C := "FormulaSetter") (T := T_FS) (N := 7) (v := .ref (x + 2)) hx hb hT i_FS hown hK hP ((mkR_g (by omega) (by omega) (by omega)).trans hgx) rfl 1 (by decide) (hT _ w256) (fun _ h9 => h9) rfl (fh_d d_FS_set 12 rfl) ?_
  refine lv_aload_n hx hb (fh_d d_FS_set 13 rfl) rfl (lv_at hl 0 rfl) ?_
  refine fh_get (own := "FormulaSetter") (ref := "FormulaSetter") (C := "FormulaSetter") (T := T_FS) (N := 7) (v := .ref (x + 1)) hx hb hT i_FS hown hK hP ((mkR_g (by omega) (by omega) (by omega)).trans hgx) rfl 0 (by decide) (hT _ w255) (fun _ h9 => h9) rfl (fh_d d_FS_set 14 rfl) ?_
  refine lv_aload_n hx hb (fh_d d_FS_set 15 rfl) rfl (lv_at hl 0 rfl) ?_
  refine fh_get (own := "FormulaSetter") (ref := "FormulaSetter") (C := "FormulaSetter") (T := T_FS) (N := 7) (v := .int (nI L)) hx hb hT i_FS hown hK hP ((mkR_g (by omega) (by omega) (by omega)).trans hgx) rfl 3 (by decide) (hT _ w258) (fun _ h9 => h9) rfl (fh_d d_FS_set 16 rfl) ?_
  refine fh_callV (cc' := c_Rd_read) (nL' := 4) (rest := []) (a := x + 2) (As := [.ref (x + 1), .int (nI L)]) X hR (m_Rd_read l D ct b RO hR sA sV hSt kA aA yA tK tS tM hEn hAd n x g f L hL hg1 hf7 hg3 hg6 (r - 1) (by omega) nc0 lc0 tx0 len0 at0 C R CL RL hok) w296 w293 w294 w295 w2 ⟨by decide, by decide, by show _ = some 2; decide +kernel⟩ (by omega) (by decide) (fh_recv hK hP mkR_rd rfl) hP hS hl.1 rfl (by exact Nat.le_of_ble_eq_true rfl) (fh_d d_FS_set 17 rfl) ⟨by omega, by omega⟩ (fun v9 h9 n9 H locs hq hP hS => ?_)
  obtain ⟨ua, ⟨nc9, lc9, a9, C9, R9, CL9, RL9, e9, rfl, ub⟩ | ⟨e9, rfl, nc9, lc9, a9, C9, R9, CL9, RL9, ub, uk9⟩⟩ := hq
  · rw [hno] at e9
    cases e9
  · rw [ua, ub] at hP
    refine W.eq (g2 := F0 m 37 ls [.null]) rfl ?_
    refine lv_astore_nN (lv' := [(2, .null), (0, .ref x), (1, .int (nI s0))]) hx hb (fh_d d_FS_set 18 rfl) rfl hl (by decide) rfl (fun ls hl => ?_)
    refine lv_aload_nN hx hb (fh_d d_FS_set 19 rfl) rfl (lv_at hl 0 rfl) ?_
    refine lv_ifnonnullN hx hb (fh_d d_FS_set 20 rfl) ?_
    exact fh_throw (cls := xI) (tx := "the text is no formula") (ixn := 40) (ixs := 51) (ic := 44) (q := sA 9) X hR htr hRX (fun U h9 => ((hSt U h9).1 9 (by decide)).2.2.2.2) (by decide +kernel) (fun U h9 A => xI_own h9 A) w571 w572 w13 hout hP hS hl.1 (fh_d d_FS_set 21 rfl) (fh_d d_FS_set 22 rfl) (fh_d d_FS_set 23 rfl) (fh_d d_FS_set 24 rfl) (fh_d d_FS_set 25 rfl) (by omega) ⟨Nat.le_refl _, Nat.le_refl _⟩ ⟨rdF_mk (by assumption), rfl⟩
