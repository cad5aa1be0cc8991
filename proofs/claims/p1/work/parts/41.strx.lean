/-! String.charAt and indexOf on the constants. Printed by wip/whole/gen/p41.py -/
set_option maxHeartbeats 4000000 in
set_option maxRecDepth 100000 in
theorem m_Pc_checkIndexN (l : Launch) (D : va_G) (ct : Nat → ClassId) (b : Nat) (RO : State → Prop) (r n k L : Nat) (hk : k < L) (hL : L < 1000) (h : fh_H) : fh_C l D fh_cl (fh_tys ct) b RO y_Pc_checkIndex (Cond.code y_Pc_checkIndex c_Pc_checkIndex 3 (Option.some FieldType.int) :: fh_T) (fh_rm r 0 0) [.int (nI k), .int (nI L), .null] h n (fun v h' n' => v = some (.int (nI k)) ∧ h' = h ∧ n' = n) 0 0 := by
  refine fh_enter (by decide) (Nat.le_of_ble_eq_true rfl) [(0, .int (nI k)), (1, .int (nI L)), (2, .null)] rfl ?_
  intro p e s m args below meth c H ls X hP hS hl
  have hx := X.1
  have hb := X.2.1
  have hml := X.2.2.1
  have hown : s.vm.findClass "jdk/internal/util/Preconditions" = some m.cls := X.2.2.2.1
  have hT := X.2.2.2.2.1
  have hK := X.2.2.2.2.2.1
  have hRO := X.2.2.2.2.2.2.1
  have hnm : meth.name = "checkIndex" := X.2.2.2.2.2.2.2.2.2.2
  refine lv_iload_n hx hb (fh_d d_Pc_checkIndex 0 rfl) rfl (lv_at hl 0 rfl) ?_
  refine lv_if_lt (tgt := 9) hx hb (fh_d d_Pc_checkIndex 1 rfl) rfl (fun c1 => absurd c1 (nI_pos (by omega))) (fun c1 => ?_)
  refine lv_iload_n hx hb (fh_d d_Pc_checkIndex 2 rfl) rfl (lv_at hl 0 rfl) ?_
  refine lv_iload_n hx hb (fh_d d_Pc_checkIndex 3 rfl) rfl (lv_at hl 1 rfl) ?_
  refine lv_icmp_lt (tgt := 16) hx hb (fh_d d_Pc_checkIndex 4 rfl) rfl (fun c2 => ?_) (fun c2 => absurd c2 (fun c9 => c2 (nI_lt hk (by omega))))
  refine lv_iload_n hx hb (fh_d d_Pc_checkIndex 10 rfl) rfl (lv_at hl 0 rfl) ?_
  exact fh_iret X hP hS (fh_d d_Pc_checkIndex 11 rfl) ⟨rfl, rfl, rfl⟩

set_option maxHeartbeats 4000000 in
set_option maxRecDepth 100000 in
theorem m_Pc_checkIndexR (l : Launch) (D : va_G) (ct : Nat → ClassId) (b : Nat) (RO : State → Prop) (r n k L : Nat) (t9 : Nat) (hk : k < L) (hL : L < 1000) (h : fh_H) : fh_C l D fh_cl (fh_tys ct) b RO y_Pc_checkIndex (Cond.code y_Pc_checkIndex c_Pc_checkIndex 3 (Option.some FieldType.int) :: fh_T) (fh_rm r 0 0) [.int (nI k), .int (nI L), .ref t9] h n (fun v h' n' => v = some (.int (nI k)) ∧ h' = h ∧ n' = n) 0 0 := by
  refine fh_enter (by decide) (Nat.le_of_ble_eq_true rfl) [(0, .int (nI k)), (1, .int (nI L)), (2, .ref t9)] rfl ?_
  intro p e s m args below meth c H ls X hP hS hl
  have hx := X.1
  have hb := X.2.1
  have hml := X.2.2.1
  have hown : s.vm.findClass "jdk/internal/util/Preconditions" = some m.cls := X.2.2.2.1
  have hT := X.2.2.2.2.1
  have hK := X.2.2.2.2.2.1
  have hRO := X.2.2.2.2.2.2.1
  have hnm : meth.name = "checkIndex" := X.2.2.2.2.2.2.2.2.2.2
  refine lv_iload_n hx hb (fh_d d_Pc_checkIndex 0 rfl) rfl (lv_at hl 0 rfl) ?_
  refine lv_if_lt (tgt := 9) hx hb (fh_d d_Pc_checkIndex 1 rfl) rfl (fun c1 => absurd c1 (nI_pos (by omega))) (fun c1 => ?_)
  refine lv_iload_n hx hb (fh_d d_Pc_checkIndex 2 rfl) rfl (lv_at hl 0 rfl) ?_
  refine lv_iload_n hx hb (fh_d d_Pc_checkIndex 3 rfl) rfl (lv_at hl 1 rfl) ?_
  refine lv_icmp_lt (tgt := 16) hx hb (fh_d d_Pc_checkIndex 4 rfl) rfl (fun c2 => ?_) (fun c2 => absurd c2 (fun c9 => c2 (nI_lt hk (by omega))))
  refine lv_iload_n hx hb (fh_d d_Pc_checkIndex 10 rfl) rfl (lv_at hl 0 rfl) ?_
  exact fh_iret X hP hS (fh_d d_Pc_checkIndex 11 rfl) ⟨rfl, rfl, rfl⟩

set_option maxHeartbeats 4000000 in
set_option maxRecDepth 100000 in
theorem m_St_checkIndex (l : Launch) (D : va_G) (ct : Nat → ClassId) (b : Nat) (RO : State → Prop) (hR : fh_R b RO) (sA sV : Nat → Nat) (hSt : ∀ U, RO U → ro_S b sA sV U) (r n k L : Nat) (hr : 1 ≤ r) (hk : k < L) (hL : L < 1000) (h : fh_H) : fh_C l D fh_cl (fh_tys ct) b RO y_St_checkIndex (Cond.code y_St_checkIndex c_St_checkIndex 2 (Option.none : Option FieldType) :: fh_T) (fh_rm r 0 0) [.int (nI k), .int (nI L)] h n (fun v h' n' => v = none ∧ h' = h ∧ n' = n) 0 0 := by
  refine fh_enter (by decide) (Nat.le_of_ble_eq_true rfl) [(0, .int (nI k)), (1, .int (nI L))] rfl ?_
  intro p e s m args below meth c H ls X hP hS hl
  have hx := X.1
  have hb := X.2.1
  have hml := X.2.2.1
  have hown : s.vm.findClass "java/lang/String" = some m.cls := X.2.2.2.1
  have hT := X.2.2.2.2.1
  have hK := X.2.2.2.2.2.1
  have hRO := X.2.2.2.2.2.2.1
  have hnm : meth.name = "checkIndex" := X.2.2.2.2.2.2.2.2.2.2
  refine lv_iload_n hx hb (fh_d d_St_checkIndex 0 rfl) rfl (lv_at hl 0 rfl) ?_
  refine lv_iload_n hx hb (fh_d d_St_checkIndex 1 rfl) rfl (lv_at hl 1 rfl) ?_
  rcases (hSt _ hRO).2.2 with hz | ⟨t9, hz⟩
  · refine va_gets (own := "java/lang/String") (ref := "jdk/internal/util/Preconditions") hx hb hz hS hown (hT _ w353) (fun _ h9 => h9) (fh_d d_St_checkIndex 2 rfl) ?_
    refine fh_callS (cc' := c_Pc_checkIndex) (nL' := 3) (rest := []) (av := [.int (nI k), .int (nI L), .null]) X hR (m_Pc_checkIndexN l D ct b RO (r - 1) n k L hk hL h) w357 w355 w356 w17 ⟨by decide, by decide, by show _ = some 3; decide +kernel⟩ (by omega) (by decide) hP hS hl.1 rfl (by exact Nat.le_of_ble_eq_true rfl) (fh_d d_St_checkIndex 3 rfl) ⟨Nat.le_refl _, Nat.le_refl _⟩ (fun v9 h9 n9 H locs hq hP hS => ?_)
    obtain ⟨rfl, u1, u2⟩ := hq
    rw [u1, u2] at hP
    refine lv_pop hx hb (fh_d d_St_checkIndex 4 rfl) rfl ?_
    exact fh_vret X hP hS (fh_d d_St_checkIndex 5 rfl) ⟨rfl, rfl, rfl⟩
  · refine va_gets (own := "java/lang/String") (ref := "jdk/internal/util/Preconditions") hx hb hz hS hown (hT _ w353) (fun _ h9 => h9) (fh_d d_St_checkIndex 2 rfl) ?_
    refine fh_callS (cc' := c_Pc_checkIndex) (nL' := 3) (rest := []) (av := [.int (nI k), .int (nI L), .ref t9]) X hR (m_Pc_checkIndexR l D ct b RO (r - 1) n k L t9 hk hL h) w357 w355 w356 w17 ⟨by decide, by decide, by show _ = some 3; decide +kernel⟩ (by omega) (by decide) hP hS hl.1 rfl (by exact Nat.le_of_ble_eq_true rfl) (fh_d d_St_checkIndex 3 rfl) ⟨Nat.le_refl _, Nat.le_refl _⟩ (fun v9 h9 n9 H locs hq hP hS => ?_)
    obtain ⟨rfl, u3, u4⟩ := hq
    rw [u3, u4] at hP
    refine lv_pop hx hb (fh_d d_St_checkIndex 4 rfl) rfl ?_
    exact fh_vret X hP hS (fh_d d_St_checkIndex 5 rfl) ⟨rfl, rfl, rfl⟩

theorem st_ch {i k : Nat} (hi : i < 28) (hk : k < (st_b i).length) : (((st_b i).getD k 0 &&& 255).toUInt32 % 65536).toInt32 = (st_b i).getD k 0 ∧ narrow .char (.int ((st_b i).getD k 0)) = .int ((st_b i).getD k 0) ∧ ((st_b i).getD k 0).toInt8.toInt32 = (st_b i).getD k 0 := by
  have hm : (st_b i).getD k 0 ∈ st_b i := by
    rw [List.getD_eq_getElem?_getD, List.getElem?_eq_getElem hk]
    exact List.getElem_mem hk
  obtain ⟨e, hl⟩ := (st_ok i hi).2 _ hm
  rw [e]
  generalize ixI ((st_b i).getD k 0) = q at hl
  revert hl
  revert q
  decide +kernel
set_option maxHeartbeats 4000000 in
set_option maxRecDepth 100000 in
theorem m_Sl_charAt (l : Launch) (D : va_G) (ct : Nat → ClassId) (b : Nat) (RO : State → Prop) (hR : fh_R b RO) (sA sV : Nat → Nat) (hSt : ∀ U, RO U → ro_S b sA sV U) (r n i k : Nat) (hr : 2 ≤ r) (hi : i < 28) (hk : k < (st_b i).length) (h : fh_H) : fh_C l D fh_cl (fh_tys ct) b RO y_Sl_charAt (Cond.code y_Sl_charAt c_Sl_charAt 2 (Option.some FieldType.char) :: fh_T) (fh_rm r 0 0) [.ref (sV i), .int (nI k)] h n (fun v h' n' => v = some (.int ((st_b i).getD k 0)) ∧ h' = h ∧ n' = n) 0 0 := by
  refine fh_enter (by decide) (Nat.le_of_ble_eq_true rfl) [(0, .ref (sV i)), (1, .int (nI k))] rfl ?_
  intro p e s m args below meth c H ls X hP hS hl
  have hx := X.1
  have hb := X.2.1
  have hml := X.2.2.1
  have hown : s.vm.findClass "java/lang/StringLatin1" = some m.cls := X.2.2.2.1
  have hT := X.2.2.2.2.1
  have hK := X.2.2.2.2.2.1
  have hRO := X.2.2.2.2.2.2.1
  have hnm : meth.name = "charAt" := X.2.2.2.2.2.2.2.2.2.2
  refine lv_iload_n hx hb (fh_d d_Sl_charAt 0 rfl) rfl (lv_at hl 1 rfl) ?_
  refine lv_aload_n hx hb (fh_d d_Sl_charAt 1 rfl) rfl (lv_at hl 0 rfl) ?_
  refine va_tlen (v := nI (st_b i).length) hx hb ((hSt _ hRO).1 i hi).2.2.2.1 hS rfl (fh_d d_Sl_charAt 2 rfl) ?_
  refine fh_callS (cc' := c_St_checkIndex) (nL' := 2) (rest := []) (av := [.int (nI k), .int (nI (st_b i).length)]) X hR (m_St_checkIndex l D ct b RO hR sA sV hSt (r - 1) n k (st_b i).length (by omega) hk (by have := (st_ok i hi).1; omega) h) w352 w350 w351 w15 ⟨by decide, by decide, by show _ = some 2; decide +kernel⟩ (by omega) (by decide) hP hS hl.1 rfl (by exact Nat.le_of_ble_eq_true rfl) (fh_d d_Sl_charAt 3 rfl) ⟨Nat.le_refl _, Nat.le_refl _⟩ (fun v9 h9 n9 H locs hq hP hS => ?_)
  obtain ⟨rfl, u1, u2⟩ := hq
  rw [u1, u2] at hP
  refine lv_aload_n hx hb (fh_d d_Sl_charAt 4 rfl) rfl (lv_at hl 0 rfl) ?_
  refine lv_iload_n hx hb (fh_d d_Sl_charAt 5 rfl) rfl (lv_at hl 1 rfl) ?_
  refine fs_byte hx hb ((hSt _ hRO).1 i hi).2.2.2.1 hS (k := k) (rfl) (hk) ((st_ok i hi).1) (fh_d d_Sl_charAt 6 rfl) ?_
  refine lv_sipush (v := 255) hx hb (fh_d d_Sl_charAt 7 rfl) (by decide) ?_
  refine lv_iand hx hb (fh_d d_Sl_charAt 8 rfl) ?_
  refine lv_i2c hx hb (fh_d d_Sl_charAt 9 rfl) rfl ?_
  rw [(st_ch hi hk).1]
  exact fh_zret X hP hS (fh_d d_Sl_charAt 10 rfl) (st_ch hi hk).2.1 ⟨rfl, rfl, rfl⟩

set_option maxHeartbeats 4000000 in
set_option maxRecDepth 100000 in
theorem m_St_charAt (l : Launch) (D : va_G) (ct : Nat → ClassId) (b : Nat) (RO : State → Prop) (hR : fh_R b RO) (sA sV : Nat → Nat) (hSt : ∀ U, RO U → ro_S b sA sV U) (r n i k : Nat) (hr : 3 ≤ r) (hi : i < 28) (hk : k < (st_b i).length) (h : fh_H) : fh_C l D fh_cl (fh_tys ct) b RO y_St_charAt (Cond.code y_St_charAt c_St_charAt 2 (Option.some FieldType.char) :: fh_T) (fh_rm r 0 0) [.ref (sA i), .int (nI k)] h n (fun v h' n' => v = some (.int ((st_b i).getD k 0)) ∧ h' = h ∧ n' = n) 0 0 := by
  refine fh_enter (by decide) (Nat.le_of_ble_eq_true rfl) [(0, .ref (sA i)), (1, .int (nI k))] rfl ?_
  intro p e s m args below meth c H ls X hP hS hl
  have hx := X.1
  have hb := X.2.1
  have hml := X.2.2.1
  have hown : s.vm.findClass "java/lang/String" = some m.cls := X.2.2.2.1
  have hT := X.2.2.2.2.1
  have hK := X.2.2.2.2.2.1
  have hRO := X.2.2.2.2.2.2.1
  have hnm : meth.name = "charAt" := X.2.2.2.2.2.2.2.2.2.2
  refine lv_aload_n hx hb (fh_d d_St_charAt 0 rfl) rfl (lv_at hl 0 rfl) ?_
  refine fh_callV (cc' := c_St_isLatin1) (nL' := 1) (rest := []) (a := sA i) (As := []) X hR (m_St_isLatin1 l D ct b RO sA sV hSt (r - 1) n i hi h) w346 w343 w344 w345 w15 ⟨by decide, by decide, by show _ = some 0; decide +kernel⟩ (by omega) (by decide) (fs_recv ((hSt _ hRO).1 i hi).1 hS) hP hS hl.1 rfl (by exact Nat.le_of_ble_eq_true rfl) (fh_d d_St_charAt 1 rfl) ⟨Nat.le_refl _, Nat.le_refl _⟩ (fun v9 h9 n9 H locs hq hP hS => ?_)
  obtain ⟨rfl, u1, u2⟩ := hq
  rw [u1, u2] at hP
  refine lv_if_eq (tgt := 16) hx hb (fh_d d_St_charAt 2 rfl) rfl (fun c3 => absurd c3 (by decide)) (fun c3 => ?_)
  refine lv_aload_n hx hb (fh_d d_St_charAt 3 rfl) rfl (lv_at hl 0 rfl) ?_
  refine vk_getf (own := "java/lang/String") (ref := "java/lang/String") hx hb (((hSt _ hRO).1 i hi).2.2.1) hS hown (hT _ w1241) (fun _ h9 => h9) (fh_d d_St_charAt 4 rfl) ?_
  refine lv_iload_n hx hb (fh_d d_St_charAt 5 rfl) rfl (lv_at hl 1 rfl) ?_
  refine fh_callS (cc' := c_Sl_charAt) (nL' := 2) (rest := []) (av := [.ref (sV i), .int (nI k)]) X hR (m_Sl_charAt l D ct b RO hR sA sV hSt (r - 1) n i k (by omega) hi hk h) w349 w347 w348 w16 ⟨by decide, by decide, by show _ = some 2; decide +kernel⟩ (by omega) (by decide) hP hS hl.1 rfl (by exact Nat.le_of_ble_eq_true rfl) (fh_d d_St_charAt 6 rfl) ⟨Nat.le_refl _, Nat.le_refl _⟩ (fun v9 h9 n9 H locs hq hP hS => ?_)
  obtain ⟨rfl, u4, u5⟩ := hq
  rw [u4, u5] at hP
  exact fh_zret X hP hS (fh_d d_St_charAt 7 rfl) (st_ch hi hk).2.1 ⟨rfl, rfl, rfl⟩

set_option maxHeartbeats 4000000 in
set_option maxRecDepth 100000 in
theorem m_Sl_canEncode (l : Launch) (D : va_G) (ct : Nat → ClassId) (b : Nat) (RO : State → Prop) (r n q : Nat) (hq : q < 256) (h : fh_H) : fh_C l D fh_cl (fh_tys ct) b RO y_Sl_canEncode (Cond.code y_Sl_canEncode c_Sl_canEncode 1 (Option.some FieldType.boolean) :: fh_T) (fh_rm r 0 0) [.int (nI q)] h n (fun v h' n' => v = some (.int (1)) ∧ h' = h ∧ n' = n) 0 0 := by
  refine fh_enter (by decide) (Nat.le_of_ble_eq_true rfl) [(0, .int (nI q))] rfl ?_
  intro p e s m args below meth c H ls X hP hS hl
  have hx := X.1
  have hb := X.2.1
  have hml := X.2.2.1
  have hown : s.vm.findClass "java/lang/StringLatin1" = some m.cls := X.2.2.2.1
  have hT := X.2.2.2.2.1
  have hK := X.2.2.2.2.2.1
  have hRO := X.2.2.2.2.2.2.1
  have hnm : meth.name = "canEncode" := X.2.2.2.2.2.2.2.2.2.2
  refine lv_iload_n hx hb (fh_d d_Sl_canEncode 0 rfl) rfl (lv_at hl 0 rfl) ?_
  refine lv_if_lt (tgt := 15) hx hb (fh_d d_Sl_canEncode 1 rfl) rfl (fun c1 => absurd c1 (nI_pos (by omega))) (fun c1 => ?_)
  refine lv_iload_n hx hb (fh_d d_Sl_canEncode 2 rfl) rfl (lv_at hl 0 rfl) ?_
  refine lv_sipush (v := 255) hx hb (fh_d d_Sl_canEncode 3 rfl) (by decide) ?_
  refine lv_icmp_gt (tgt := 15) hx hb (fh_d d_Sl_canEncode 4 rfl) rfl (fun c2 => absurd c2 (fun c9 => absurd ((nI_ltI (a := 255) (b := q) (by decide) (by omega)).mp c9) (by omega))) (fun c2 => ?_)
  refine lv_iconst (v := 1) hx hb (fh_d d_Sl_canEncode 5 rfl) (by decide) ?_
  refine lv_goto (tgt := 16) hx hb (fh_d d_Sl_canEncode 6 rfl) rfl ?_
  exact fh_zret X hP hS (fh_d d_Sl_canEncode 8 rfl) (by decide) ⟨rfl, rfl, rfl⟩

/-- the place of a character from k on -/
def ixo (bs : List Int32) (c : Int32) (k : Nat) : Int32 := if h : k < bs.length then (if bs.getD k 0 = c then nI k else ixo bs c (k + 1)) else -1
termination_by bs.length - k
theorem ixo_y {bs : List Int32} {c : Int32} {k : Nat} (h : k < bs.length) (e : bs.getD k 0 = c) : ixo bs c k = nI k := by rw [ixo, dif_pos h, if_pos e]
theorem ixo_s {bs : List Int32} {c : Int32} {k : Nat} (h : k < bs.length) (e : ¬ bs.getD k 0 = c) : ixo bs c k = ixo bs c (k + 1) := by rw [ixo, dif_pos h, if_neg e]
theorem ixo_n {bs : List Int32} {c : Int32} {k : Nat} (h : ¬ k < bs.length) : ixo bs c k = -1 := by rw [ixo, dif_neg h]
theorem st_i8 : ∀ q, q < 128 → (nI q).toInt8.toInt32 = nI q := by decide +kernel
set_option maxHeartbeats 4000000 in
set_option maxRecDepth 100000 in
theorem m_Sl_indexOfChar (l : Launch) (D : va_G) (ct : Nat → ClassId) (b : Nat) (RO : State → Prop) (sA sV : Nat → Nat) (hSt : ∀ U, RO U → ro_S b sA sV U) (r n i q : Nat) (hi : i < 28) (hq : q < 128) (h : fh_H) : fh_C l D fh_cl (fh_tys ct) b RO y_Sl_indexOfChar (Cond.code y_Sl_indexOfChar c_Sl_indexOfChar 6 (Option.some FieldType.int) :: fh_T) (fh_rm r 0 0) [.ref (sV i), .int (nI q), .int 0, .int (nI (st_b i).length)] h n (fun v h' n' => v = some (.int (ixo (st_b i) (nI q) 0)) ∧ h' = h ∧ n' = n) 0 0 := by
  refine fh_enter (by decide) (Nat.le_of_ble_eq_true rfl) [(0, .ref (sV i)), (1, .int (nI q)), (2, .int 0), (3, .int (nI (st_b i).length))] rfl ?_
  intro p e s m args below meth c H ls X hP hS hl
  have hx := X.1
  have hb := X.2.1
  have hml := X.2.2.1
  have hown : s.vm.findClass "java/lang/StringLatin1" = some m.cls := X.2.2.2.1
  have hT := X.2.2.2.2.1
  have hK := X.2.2.2.2.2.1
  have hRO := X.2.2.2.2.2.2.1
  have hnm : meth.name = "indexOfChar" := X.2.2.2.2.2.2.2.2.2.2
  have hlen := (st_ok i hi).1
  have loop : ∀ (j k : Nat), (st_b i).length - k = j → k ≤ (st_b i).length → ixo (st_b i) (nI q) k = ixo (st_b i) (nI q) 0 → ∀ (H : Heap) (locs : List Loc) (ls : Array Slot), fh_P D fh_cl b h n H → va_S (fh_A b) s.heap H locs → lv_has ls 6 [(5, .int (nI k)), (4, .int (nI q)), (0, .ref (sV i)), (1, .int (nI q)), (2, .int 0), (3, .int (nI (st_b i).length))] → W p l e (fh_rm r 0 0) s m args below meth c H locs 0 0 (MQ below (fh_Post D fh_cl b (fun v h' n' => v = some (.int (ixo (st_b i) (nI q) 0)) ∧ h' = h ∧ n' = n)) args s 0 0 (fh_A b)) (F0 m 7 ls []) := by
    intro j
    induction j with
    | zero =>
      intro k hjk hk hix H locs ls hP hS hl
      refine lv_iload hx hb (fh_d d_Sl_indexOfChar 5 rfl) (lv_at hl 0 rfl) ?_
      refine lv_iload_n hx hb (fh_d d_Sl_indexOfChar 6 rfl) rfl (lv_at hl 5 rfl) ?_
      refine lv_icmp_ge (tgt := 31) hx hb (fh_d d_Sl_indexOfChar 7 rfl) rfl (fun c1 => ?_) (fun c1 => absurd c1 (fun c9 => c1 (nI_le (a := (st_b i).length) (b := k) (by omega) (by omega))))
      refine lv_iconst (v := (-1)) hx hb (fh_d d_Sl_indexOfChar 17 rfl) (by decide) ?_
      exact fh_iret X hP hS (fh_d d_Sl_indexOfChar 18 rfl) ⟨by rw [← hix, ixo_n (by omega)], rfl, rfl⟩
    | succ j ih =>
      intro k hjk hk hix H locs ls hP hS hl
      refine lv_iload hx hb (fh_d d_Sl_indexOfChar 5 rfl) (lv_at hl 0 rfl) ?_
      refine lv_iload_n hx hb (fh_d d_Sl_indexOfChar 6 rfl) rfl (lv_at hl 5 rfl) ?_
      refine lv_icmp_ge (tgt := 31) hx hb (fh_d d_Sl_indexOfChar 7 rfl) rfl (fun c2 => absurd c2 (nI_ge (a := k) (b := (st_b i).length) (by omega) (by omega))) (fun c2 => ?_)
      refine lv_aload_n hx hb (fh_d d_Sl_indexOfChar 8 rfl) rfl (lv_at hl 2 rfl) ?_
      refine lv_iload hx hb (fh_d d_Sl_indexOfChar 9 rfl) (lv_at hl 0 rfl) ?_
      refine fs_byte hx hb ((hSt _ hRO).1 i hi).2.2.2.1 hS (k := k) (rfl) (by omega) ((st_ok i hi).1) (fh_d d_Sl_indexOfChar 10 rfl) ?_
      refine lv_iload hx hb (fh_d d_Sl_indexOfChar 11 rfl) (lv_at hl 1 rfl) ?_
      refine lv_icmp_ne (tgt := 25) hx hb (fh_d d_Sl_indexOfChar 12 rfl) rfl (fun c3 => ?_) (fun c3 => ?_)
      · refine lv_iinc (k := 0) (v := (nI k) + 1) (lv' := [(5, .int ((nI k) + 1)), (4, .int (nI q)), (0, .ref (sV i)), (1, .int (nI q)), (2, .int 0), (3, .int (nI (st_b i).length))]) hx hb (fh_d d_Sl_indexOfChar 15 rfl) hl rfl (by rfl) (by decide) rfl (fun ls hl => ?_)
        refine lv_goto (tgt := 7) hx hb (fh_d d_Sl_indexOfChar 16 rfl) rfl ?_
        rw [nI_1] at hl
        exact ih (k + 1) (by omega) (by omega) (by rw [← hix, ixo_s (by omega) c3]) H _ _ hP hS hl
      · refine lv_iload hx hb (fh_d d_Sl_indexOfChar 13 rfl) (lv_at hl 0 rfl) ?_
        exact fh_iret X hP hS (fh_d d_Sl_indexOfChar 14 rfl) ⟨by rw [← hix, ixo_y (by omega) c3], rfl, rfl⟩
  refine lv_iload_n hx hb (fh_d d_Sl_indexOfChar 0 rfl) rfl (lv_at hl 1 rfl) ?_
  refine lv_i2b hx hb (fh_d d_Sl_indexOfChar 1 rfl) rfl ?_
  rw [st_i8 q hq]
  refine lv_istore (lv' := [(4, .int (nI q)), (0, .ref (sV i)), (1, .int (nI q)), (2, .int 0), (3, .int (nI (st_b i).length))]) hx hb (fh_d d_Sl_indexOfChar 2 rfl) hl (by decide) rfl (fun ls hl => ?_)
  refine lv_iload_n hx hb (fh_d d_Sl_indexOfChar 3 rfl) rfl (lv_at hl 3 rfl) ?_
  refine lv_istore (lv' := [(5, .int 0), (4, .int (nI q)), (0, .ref (sV i)), (1, .int (nI q)), (2, .int 0), (3, .int (nI (st_b i).length))]) hx hb (fh_d d_Sl_indexOfChar 4 rfl) hl (by decide) rfl (fun ls hl => ?_)
  exact loop _ 0 rfl (by omega) rfl H _ _ hP hS hl
