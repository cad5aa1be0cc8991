/-! String.indexOf. Printed by wip/whole/gen/p42.py -/
set_option maxHeartbeats 4000000 in
set_option maxRecDepth 100000 in
theorem m_Sl_indexOf (l : Launch) (D : va_G) (ct : Nat → ClassId) (b : Nat) (RO : State → Prop) (hR : fh_R b RO) (sA sV : Nat → Nat) (hSt : ∀ U, RO U → ro_S b sA sV U) (r n i q : Nat) (hr : 1 ≤ r) (hi : i < 28) (hq : q < 128) (h : fh_H) : fh_C l D fh_cl (fh_tys ct) b RO y_Sl_indexOf (Cond.code y_Sl_indexOf c_Sl_indexOf 4 (Option.some FieldType.int) :: fh_T) (fh_rm r 0 0) [.ref (sV i), .int (nI q), .int 0, .int (nI (st_b i).length)] h n (fun v h' n' => v = some (.int (ixo (st_b i) (nI q) 0)) ∧ h' = h ∧ n' = n) 0 0 := by
  refine fh_enter (by decide) (Nat.le_of_ble_eq_true rfl) [(0, .ref (sV i)), (1, .int (nI q)), (2, .int 0), (3, .int (nI (st_b i).length))] rfl ?_
  intro p e s m args below meth c H ls X hP hS hl
  have hx := X.1
  have hb := X.2.1
  have hml := X.2.2.1
  have hown : s.vm.findClass "java/lang/StringLatin1" = some m.cls := X.2.2.2.1
  have hT := X.2.2.2.2.1
  have hK := X.2.2.2.2.2.1
  have hRO := X.2.2.2.2.2.2.1
  have hnm : meth.name = "indexOf" := X.2.2.2.2.2.2.2.2.2.2
  have hlen := (st_ok i hi).1
  refine lv_iload_n hx hb (fh_d d_Sl_indexOf 0 rfl) rfl (lv_at hl 1 rfl) ?_
  refine fh_callS (cc' := c_Sl_canEncode) (nL' := 1) (rest := []) (av := [.int (nI q)]) X hR (m_Sl_canEncode l D ct b RO (r - 1) n q (by omega) h) w429 w427 w428 w16 ⟨by decide, by decide, by show _ = some 1; decide +kernel⟩ (by omega) (by decide) hP hS hl.1 rfl (by exact Nat.le_of_ble_eq_true rfl) (fh_d d_Sl_indexOf 1 rfl) ⟨Nat.le_refl _, Nat.le_refl _⟩ (fun v9 h9 n9 H locs hq hP hS => ?_)
  obtain ⟨rfl, u1, u2⟩ := hq
  rw [u1, u2] at hP
  refine lv_if_ne (tgt := 9) hx hb (fh_d d_Sl_indexOf 2 rfl) rfl (fun c3 => ?_) (fun c3 => absurd c3 (by decide))
  refine lv_iload_n hx hb (fh_d d_Sl_indexOf 5 rfl) rfl (lv_at hl 2 rfl) ?_
  refine lv_iconst (v := 0) hx hb (fh_d d_Sl_indexOf 6 rfl) (by decide) ?_
  refine va_mmax hx hb (hml.trans hl.1.symm) hown (hT _ w430) (hT _ w431) (hT _ w14) (hT _ w432) (by show 1 ≤ r; omega) (by show _ ≤ 60 * r; simp [Value.category]; omega) (Nat.le_refl _) (Nat.le_refl _) (fh_d d_Sl_indexOf 7 rfl) ?_
  refine W.eq (g2 := F0 m 14 ls [.int 0]) rfl ?_
  refine lv_istore_n (lv' := [(2, .int 0), (0, .ref (sV i)), (1, .int (nI q)), (3, .int (nI (st_b i).length))]) hx hb (fh_d d_Sl_indexOf 8 rfl) rfl hl (by decide) rfl (fun ls hl => ?_)
  refine lv_iload_n hx hb (fh_d d_Sl_indexOf 9 rfl) rfl (lv_at hl 3 rfl) ?_
  refine lv_aload_n hx hb (fh_d d_Sl_indexOf 10 rfl) rfl (lv_at hl 1 rfl) ?_
  refine va_tlen (v := nI (st_b i).length) hx hb ((hSt _ hRO).1 i hi).2.2.2.1 hS rfl (fh_d d_Sl_indexOf 11 rfl) ?_
  refine va_mmin hx hb (hml.trans hl.1.symm) hown (hT _ w433) (hT _ w298) (hT _ w14) (hT _ w299) (by show 1 ≤ r; omega) (by show _ ≤ 60 * r; simp [Value.category]; omega) (Nat.le_refl _) (Nat.le_refl _) (fh_d d_Sl_indexOf 12 rfl) ?_
  rw [ite_self]
  refine lv_istore_n (lv' := [(3, .int (nI (st_b i).length)), (2, .int 0), (0, .ref (sV i)), (1, .int (nI q))]) hx hb (fh_d d_Sl_indexOf 13 rfl) rfl hl (by decide) rfl (fun ls hl => ?_)
  refine lv_iload_n hx hb (fh_d d_Sl_indexOf 14 rfl) rfl (lv_at hl 1 rfl) ?_
  refine lv_iload_n hx hb (fh_d d_Sl_indexOf 15 rfl) rfl (lv_at hl 0 rfl) ?_
  refine lv_icmp_lt (tgt := 29) hx hb (fh_d d_Sl_indexOf 16 rfl) rfl (fun c4 => ?_) (fun c4 => ?_)
  · refine lv_aload_n hx hb (fh_d d_Sl_indexOf 19 rfl) rfl (lv_at hl 2 rfl) ?_
    refine lv_iload_n hx hb (fh_d d_Sl_indexOf 20 rfl) rfl (lv_at hl 3 rfl) ?_
    refine lv_iload_n hx hb (fh_d d_Sl_indexOf 21 rfl) rfl (lv_at hl 1 rfl) ?_
    refine lv_iload_n hx hb (fh_d d_Sl_indexOf 22 rfl) rfl (lv_at hl 0 rfl) ?_
    refine fh_callS (cc' := c_Sl_indexOfChar) (nL' := 6) (rest := []) (av := [.ref (sV i), .int (nI q), .int 0, .int (nI (st_b i).length)]) X hR (m_Sl_indexOfChar l D ct b RO sA sV hSt (r - 1) n i q hi hq h) w436 w434 w435 w16 ⟨by decide, by decide, by show _ = some 4; decide +kernel⟩ (by omega) (by decide) hP hS hl.1 rfl (by exact Nat.le_of_ble_eq_true rfl) (fh_d d_Sl_indexOf 23 rfl) ⟨Nat.le_refl _, Nat.le_refl _⟩ (fun v9 h9 n9 H locs hq hP hS => ?_)
    obtain ⟨rfl, u5, u6⟩ := hq
    rw [u5, u6] at hP
    exact fh_iret X hP hS (fh_d d_Sl_indexOf 24 rfl) ⟨rfl, rfl, rfl⟩
  · refine lv_iconst (v := (-1)) hx hb (fh_d d_Sl_indexOf 17 rfl) (by decide) ?_
    exact fh_iret X hP hS (fh_d d_Sl_indexOf 18 rfl) ⟨by rw [ixo_n (fun z => c4 ((nI_ltI (a := 0) (b := (st_b i).length) (by decide) (by omega)).mpr z))], rfl, rfl⟩

set_option maxHeartbeats 4000000 in
set_option maxRecDepth 100000 in
theorem m_St_indexOf1 (l : Launch) (D : va_G) (ct : Nat → ClassId) (b : Nat) (RO : State → Prop) (hR : fh_R b RO) (sA sV : Nat → Nat) (hSt : ∀ U, RO U → ro_S b sA sV U) (r n i q : Nat) (hr : 2 ≤ r) (hi : i < 28) (hq : q < 128) (h : fh_H) : fh_C l D fh_cl (fh_tys ct) b RO y_St_indexOf1 (Cond.code y_St_indexOf1 c_St_indexOf1 3 (Option.some FieldType.int) :: fh_T) (fh_rm r 0 0) [.ref (sA i), .int (nI q), .int 0] h n (fun v h' n' => v = some (.int (ixo (st_b i) (nI q) 0)) ∧ h' = h ∧ n' = n) 0 0 := by
  refine fh_enter (by decide) (Nat.le_of_ble_eq_true rfl) [(0, .ref (sA i)), (1, .int (nI q)), (2, .int 0)] rfl ?_
  intro p e s m args below meth c H ls X hP hS hl
  have hx := X.1
  have hb := X.2.1
  have hml := X.2.2.1
  have hown : s.vm.findClass "java/lang/String" = some m.cls := X.2.2.2.1
  have hT := X.2.2.2.2.1
  have hK := X.2.2.2.2.2.1
  have hRO := X.2.2.2.2.2.2.1
  have hnm : meth.name = "indexOf" := X.2.2.2.2.2.2.2.2.2.2
  refine lv_aload_n hx hb (fh_d d_St_indexOf1 0 rfl) rfl (lv_at hl 0 rfl) ?_
  refine fh_callV (cc' := c_St_isLatin1) (nL' := 1) (rest := []) (a := sA i) (As := []) X hR (m_St_isLatin1 l D ct b RO sA sV hSt (r - 1) n i hi h) w346 w343 w344 w345 w15 ⟨by decide, by decide, by show _ = some 0; decide +kernel⟩ (by omega) (by decide) (fs_recv ((hSt _ hRO).1 i hi).1 hS) hP hS hl.1 rfl (by exact Nat.le_of_ble_eq_true rfl) (fh_d d_St_indexOf1 1 rfl) ⟨Nat.le_refl _, Nat.le_refl _⟩ (fun v9 h9 n9 H locs hq hP hS => ?_)
  obtain ⟨rfl, u1, u2⟩ := hq
  rw [u1, u2] at hP
  refine lv_if_eq (tgt := 23) hx hb (fh_d d_St_indexOf1 2 rfl) rfl (fun c3 => absurd c3 (by decide)) (fun c3 => ?_)
  refine lv_aload_n hx hb (fh_d d_St_indexOf1 3 rfl) rfl (lv_at hl 0 rfl) ?_
  refine vk_getf (own := "java/lang/String") (ref := "java/lang/String") hx hb (((hSt _ hRO).1 i hi).2.2.1) hS hown (hT _ w1241) (fun _ h9 => h9) (fh_d d_St_indexOf1 4 rfl) ?_
  refine lv_iload_n hx hb (fh_d d_St_indexOf1 5 rfl) rfl (lv_at hl 1 rfl) ?_
  refine lv_iload_n hx hb (fh_d d_St_indexOf1 6 rfl) rfl (lv_at hl 2 rfl) ?_
  refine lv_aload_n hx hb (fh_d d_St_indexOf1 7 rfl) rfl (lv_at hl 0 rfl) ?_
  refine fh_callV (cc' := c_St_length) (nL' := 1) (rest := [.int 0, .int (nI q), .ref (sV i)]) (a := sA i) (As := []) X hR (m_St_length l D ct b RO hR sA sV hSt (r - 1) n i (by omega) hi h) w332 w423 w330 w331 w15 ⟨by decide, by decide, by show _ = some 0; decide +kernel⟩ (by omega) (by decide) (fs_recv ((hSt _ hRO).1 i hi).1 hS) hP hS hl.1 rfl (by exact Nat.le_of_ble_eq_true rfl) (fh_d d_St_indexOf1 8 rfl) ⟨Nat.le_refl _, Nat.le_refl _⟩ (fun v9 h9 n9 H locs hq hP hS => ?_)
  obtain ⟨rfl, u4, u5⟩ := hq
  rw [u4, u5] at hP
  refine fh_callS (cc' := c_Sl_indexOf) (nL' := 4) (rest := []) (av := [.ref (sV i), .int (nI q), .int 0, .int (nI (st_b i).length)]) X hR (m_Sl_indexOf l D ct b RO hR sA sV hSt (r - 1) n i q (by omega) hi hq h) w426 w424 w425 w16 ⟨by decide, by decide, by show _ = some 4; decide +kernel⟩ (by omega) (by decide) hP hS hl.1 rfl (by exact Nat.le_of_ble_eq_true rfl) (fh_d d_St_indexOf1 9 rfl) ⟨Nat.le_refl _, Nat.le_refl _⟩ (fun v9 h9 n9 H locs hq hP hS => ?_)
  obtain ⟨rfl, u6, u7⟩ := hq
  rw [u6, u7] at hP
  refine lv_goto (tgt := 36) hx hb (fh_d d_St_indexOf1 10 rfl) rfl ?_
  exact fh_iret X hP hS (fh_d d_St_indexOf1 18 rfl) ⟨rfl, rfl, rfl⟩

set_option maxHeartbeats 4000000 in
set_option maxRecDepth 100000 in
theorem m_St_indexOf0 (l : Launch) (D : va_G) (ct : Nat → ClassId) (b : Nat) (RO : State → Prop) (hR : fh_R b RO) (sA sV : Nat → Nat) (hSt : ∀ U, RO U → ro_S b sA sV U) (r n i q : Nat) (hr : 3 ≤ r) (hi : i < 28) (hq : q < 128) (h : fh_H) : fh_C l D fh_cl (fh_tys ct) b RO y_St_indexOf0 (Cond.code y_St_indexOf0 c_St_indexOf0 2 (Option.some FieldType.int) :: fh_T) (fh_rm r 0 0) [.ref (sA i), .int (nI q)] h n (fun v h' n' => v = some (.int (ixo (st_b i) (nI q) 0)) ∧ h' = h ∧ n' = n) 0 0 := by
  refine fh_enter (by decide) (Nat.le_of_ble_eq_true rfl) [(0, .ref (sA i)), (1, .int (nI q))] rfl ?_
  intro p e s m args below meth c H ls X hP hS hl
  have hx := X.1
  have hb := X.2.1
  have hml := X.2.2.1
  have hown : s.vm.findClass "java/lang/String" = some m.cls := X.2.2.2.1
  have hT := X.2.2.2.2.1
  have hK := X.2.2.2.2.2.1
  have hRO := X.2.2.2.2.2.2.1
  have hnm : meth.name = "indexOf" := X.2.2.2.2.2.2.2.2.2.2
  refine lv_aload_n hx hb (fh_d d_St_indexOf0 0 rfl) rfl (lv_at hl 0 rfl) ?_
  refine lv_iload_n hx hb (fh_d d_St_indexOf0 1 rfl) rfl (lv_at hl 1 rfl) ?_
  refine lv_iconst (v := 0) hx hb (fh_d d_St_indexOf0 2 rfl) (by decide) ?_
  refine fh_callV (cc' := c_St_indexOf1) (nL' := 3) (rest := []) (a := sA i) (As := [.int (nI q), .int 0]) X hR (m_St_indexOf1 l D ct b RO hR sA sV hSt (r - 1) n i q (by omega) hi hq h) w422 w419 w420 w421 w15 ⟨by decide, by decide, by show _ = some 2; decide +kernel⟩ (by omega) (by decide) (fs_recv ((hSt _ hRO).1 i hi).1 hS) hP hS hl.1 rfl (by exact Nat.le_of_ble_eq_true rfl) (fh_d d_St_indexOf0 3 rfl) ⟨Nat.le_refl _, Nat.le_refl _⟩ (fun v9 h9 n9 H locs hq hP hS => ?_)
  obtain ⟨rfl, u1, u2⟩ := hq
  rw [u1, u2] at hP
  exact fh_iret X hP hS (fh_d d_St_indexOf0 4 rfl) ⟨rfl, rfl, rfl⟩
