/-! The reference: sizes, signs, most, tallFor, hand. Printed by wip/whole/gen/p95.py -/
def ms (a b : Int32) : Int32 := if a ≤ b then b else a
theorem nI_z {s : Nat} (h : s < 4) (e : nI s = 0) : s = 0 := (nI_eq (a := s) (b := 0) (by omega) (by decide)).mp e
theorem upd_s {f : Nat → Int32} {n : Nat} {v : Int32} : upd f n v n = v := if_pos rfl
theorem rz_z_y {s : Nat} (h : s < 4) : rz_z s = yS s := by
  rcases (by omega : s = 0 ∨ s = 1 ∨ s = 2 ∨ s = 3) with rfl | rfl | rfl | rfl <;> rfl
theorem rz_t_y {s : Nat} (h : s < 4) : (yS s + 2) / 3 = yT s := by
  rcases (by omega : s = 0 ∨ s = 1 ∨ s = 2 ∨ s = 3) with rfl | rfl | rfl | rfl <;> decide
theorem rz_x_y {s : Nat} (h : s < 4) : 5 * yS s / 2 = yX s := by
  rcases (by omega : s = 0 ∨ s = 1 ∨ s = 2 ∨ s = 3) with rfl | rfl | rfl | rfl <;> decide
theorem m_Mo_zO (l : Launch) (D : va_G) (ct : Nat → ClassId) (b : Nat) (RO : State → Prop) (hR : fh_R b RO) (r : Nat) (hr : 0 ≤ r) (n s0 : Nat) (hs0 : s0 < 4) (h : fh_H) : fh_C l D fh_cl (fh_tys ct) b RO y_Mo_zOf (Cond.code y_Mo_zOf c_Mo_zOf 1 (Option.some FieldType.int) :: fh_T) (fh_rm r 0 0) [.int (nI s0)] h n (fun v h' n' => v = some (.int (yS s0)) ∧ h' = h ∧ n' = n) 0 0 := by
  rw [← rz_z_y hs0]
  exact m_Mo_zOf l D ct b RO r n s0 hs0 h
set_option maxHeartbeats 4000000 in
set_option maxRecDepth 100000 in
theorem m_Mo_tO (l : Launch) (D : va_G) (ct : Nat → ClassId) (b : Nat) (RO : State → Prop) (hR : fh_R b RO) (r : Nat) (hr : 1 ≤ r) (n s0 : Nat) (hs0 : s0 < 4) (h : fh_H) : fh_C l D fh_cl (fh_tys ct) b RO y_Mo_tOf (Cond.code y_Mo_tOf c_Mo_tOf 1 (Option.some FieldType.int) :: fh_T) (fh_rm r 0 0) [.int (nI s0)] h n (fun v h' n' => v = some (.int (yT s0)) ∧ h' = h ∧ n' = n) 0 0 := by
  refine fh_enter (by decide) (Nat.le_of_ble_eq_true rfl) [(0, .int (nI s0))] rfl ?_
  intro p e s m args below meth c H ls X hP hS hl
  have hx := X.1
  have hb := X.2.1
  have hml := X.2.2.1
  have hown : s.vm.findClass "FormulaSetterModel" = some m.cls := X.2.2.2.1
  have hT := X.2.2.2.2.1
  have hK := X.2.2.2.2.2.1
  have hRO := X.2.2.2.2.2.2.1
  have hnm : meth.name = "tOf" := X.2.2.2.2.2.2.2.2.2.2
  refine lv_iload_n hx hb (fh_d d_Mo_tOf 0 rfl) rfl (lv_at hl 0 rfl) ?_
  refine fh_callS (cc' := c_Mo_zOf) (nL' := 1) (rest := []) (av := [.int (nI s0)]) X hR (m_Mo_zO l D ct b RO hR (r - 1) (by omega) n s0 hs0 (h)) w1139 w1137 w1138 w9 ⟨by decide, by decide, by show _ = some 1; decide +kernel⟩ (by omega) (by decide) hP hS hl.1 rfl (by exact Nat.le_of_ble_eq_true rfl) (fh_d d_Mo_tOf 1 rfl) ⟨Nat.le_refl _, Nat.le_refl _⟩ (fun v9 h9 n9 H locs hq hP hS => ?_)
  obtain ⟨rfl, q1a, q1b⟩ := hq
  rw [q1a, q1b] at hP
  refine W.eq (g2 := F0 m 4 ls [.int (yS s0)]) rfl ?_
  refine lv_iconst (v := 2) hx hb (fh_d d_Mo_tOf 2 rfl) (by decide) ?_
  refine lv_iadd hx hb (fh_d d_Mo_tOf 3 rfl) ?_
  refine lv_iconst (v := 3) hx hb (fh_d d_Mo_tOf 4 rfl) (by decide) ?_
  refine lv_idiv hx hb (fh_d d_Mo_tOf 5 rfl) (by decide) ?_
  exact fh_iret X hP hS (fh_d d_Mo_tOf 6 rfl) ⟨by rw [← rz_t_y hs0], rfl, rfl⟩

set_option maxHeartbeats 4000000 in
set_option maxRecDepth 100000 in
theorem m_Mo_xO (l : Launch) (D : va_G) (ct : Nat → ClassId) (b : Nat) (RO : State → Prop) (hR : fh_R b RO) (r : Nat) (hr : 1 ≤ r) (n s0 : Nat) (hs0 : s0 < 4) (h : fh_H) : fh_C l D fh_cl (fh_tys ct) b RO y_Mo_axisOf (Cond.code y_Mo_axisOf c_Mo_axisOf 1 (Option.some FieldType.int) :: fh_T) (fh_rm r 0 0) [.int (nI s0)] h n (fun v h' n' => v = some (.int (yX s0)) ∧ h' = h ∧ n' = n) 0 0 := by
  refine fh_enter (by decide) (Nat.le_of_ble_eq_true rfl) [(0, .int (nI s0))] rfl ?_
  intro p e s m args below meth c H ls X hP hS hl
  have hx := X.1
  have hb := X.2.1
  have hml := X.2.2.1
  have hown : s.vm.findClass "FormulaSetterModel" = some m.cls := X.2.2.2.1
  have hT := X.2.2.2.2.1
  have hK := X.2.2.2.2.2.1
  have hRO := X.2.2.2.2.2.2.1
  have hnm : meth.name = "axisOf" := X.2.2.2.2.2.2.2.2.2.2
  refine lv_iconst (v := 5) hx hb (fh_d d_Mo_axisOf 0 rfl) (by decide) ?_
  refine lv_iload_n hx hb (fh_d d_Mo_axisOf 1 rfl) rfl (lv_at hl 0 rfl) ?_
  refine fh_callS (cc' := c_Mo_zOf) (nL' := 1) (rest := [.int 5]) (av := [.int (nI s0)]) X hR (m_Mo_zO l D ct b RO hR (r - 1) (by omega) n s0 hs0 (h)) w1139 w1137 w1138 w9 ⟨by decide, by decide, by show _ = some 1; decide +kernel⟩ (by omega) (by decide) hP hS hl.1 rfl (by exact Nat.le_of_ble_eq_true rfl) (fh_d d_Mo_axisOf 2 rfl) ⟨Nat.le_refl _, Nat.le_refl _⟩ (fun v9 h9 n9 H locs hq hP hS => ?_)
  obtain ⟨rfl, q1a, q1b⟩ := hq
  rw [q1a, q1b] at hP
  refine W.eq (g2 := F0 m 5 ls [.int (yS s0), .int 5]) rfl ?_
  refine lv_imul hx hb (fh_d d_Mo_axisOf 3 rfl) ?_
  refine lv_iconst (v := 2) hx hb (fh_d d_Mo_axisOf 4 rfl) (by decide) ?_
  refine lv_idiv hx hb (fh_d d_Mo_axisOf 5 rfl) (by decide) ?_
  exact fh_iret X hP hS (fh_d d_Mo_axisOf 6 rfl) ⟨by rw [← rz_x_y hs0], rfl, rfl⟩

set_option maxHeartbeats 4000000 in
set_option maxRecDepth 100000 in
theorem m_Mo_signW (l : Launch) (D : va_G) (ct : Nat → ClassId) (b : Nat) (RO : State → Prop) (r n : Nat) (cd sz : Int32) (h : fh_H) : fh_C l D fh_cl (fh_tys ct) b RO y_Mo_signW (Cond.code y_Mo_signW c_Mo_signW 2 (Option.some FieldType.int) :: fh_T) (fh_rm r 0 0) [.int cd, .int sz] h n (fun v h' n' => v = some (.int (sgW cd sz)) ∧ h' = h ∧ n' = n) 0 0 := by
  refine fh_enter (by decide) (Nat.le_of_ble_eq_true rfl) [(0, .int cd), (1, .int sz)] rfl ?_
  intro p e s m args below meth c H ls X hP hS hl
  have hx := X.1
  have hb := X.2.1
  have hml := X.2.2.1
  have hown : s.vm.findClass "FormulaSetterModel" = some m.cls := X.2.2.2.1
  have hT := X.2.2.2.2.1
  have hK := X.2.2.2.2.2.1
  have hRO := X.2.2.2.2.2.2.1
  have hnm : meth.name = "signW" := X.2.2.2.2.2.2.2.2.2.2
  refine lv_iload_n hx hb (fh_d d_Mo_signW 0 rfl) rfl (lv_at hl 1 rfl) ?_
  refine lv_iconst (v := 4) hx hb (fh_d d_Mo_signW 1 rfl) (by decide) ?_
  refine lv_iload_n hx hb (fh_d d_Mo_signW 2 rfl) rfl (lv_at hl 0 rfl) ?_
  refine lv_iconst (v := 5) hx hb (fh_d d_Mo_signW 3 rfl) (by decide) ?_
  refine lv_irem hx hb (fh_d d_Mo_signW 4 rfl) (by decide) ?_
  refine lv_iadd hx hb (fh_d d_Mo_signW 5 rfl) ?_
  refine lv_imul hx hb (fh_d d_Mo_signW 6 rfl) ?_
  exact fh_iret X hP hS (fh_d d_Mo_signW 7 rfl) ⟨rfl, rfl, rfl⟩

set_option maxHeartbeats 4000000 in
set_option maxRecDepth 100000 in
theorem m_Mo_signH (l : Launch) (D : va_G) (ct : Nat → ClassId) (b : Nat) (RO : State → Prop) (r n : Nat) (cd sz : Int32) (h : fh_H) : fh_C l D fh_cl (fh_tys ct) b RO y_Mo_signH (Cond.code y_Mo_signH c_Mo_signH 2 (Option.some FieldType.int) :: fh_T) (fh_rm r 0 0) [.int cd, .int sz] h n (fun v h' n' => v = some (.int (sgH cd sz)) ∧ h' = h ∧ n' = n) 0 0 := by
  refine fh_enter (by decide) (Nat.le_of_ble_eq_true rfl) [(0, .int cd), (1, .int sz)] rfl ?_
  intro p e s m args below meth c H ls X hP hS hl
  have hx := X.1
  have hb := X.2.1
  have hml := X.2.2.1
  have hown : s.vm.findClass "FormulaSetterModel" = some m.cls := X.2.2.2.1
  have hT := X.2.2.2.2.1
  have hK := X.2.2.2.2.2.1
  have hRO := X.2.2.2.2.2.2.1
  have hnm : meth.name = "signH" := X.2.2.2.2.2.2.2.2.2.2
  refine lv_iload_n hx hb (fh_d d_Mo_signH 0 rfl) rfl (lv_at hl 1 rfl) ?_
  refine lv_iconst (v := 5) hx hb (fh_d d_Mo_signH 1 rfl) (by decide) ?_
  refine lv_iload_n hx hb (fh_d d_Mo_signH 2 rfl) rfl (lv_at hl 0 rfl) ?_
  refine lv_iconst (v := 3) hx hb (fh_d d_Mo_signH 3 rfl) (by decide) ?_
  refine lv_irem hx hb (fh_d d_Mo_signH 4 rfl) (by decide) ?_
  refine lv_iadd hx hb (fh_d d_Mo_signH 5 rfl) ?_
  refine lv_imul hx hb (fh_d d_Mo_signH 6 rfl) ?_
  exact fh_iret X hP hS (fh_d d_Mo_signH 7 rfl) ⟨rfl, rfl, rfl⟩

set_option maxHeartbeats 4000000 in
set_option maxRecDepth 100000 in
theorem m_Mo_signD (l : Launch) (D : va_G) (ct : Nat → ClassId) (b : Nat) (RO : State → Prop) (r n : Nat) (cd sz : Int32) (h : fh_H) : fh_C l D fh_cl (fh_tys ct) b RO y_Mo_signD (Cond.code y_Mo_signD c_Mo_signD 2 (Option.some FieldType.int) :: fh_T) (fh_rm r 0 0) [.int cd, .int sz] h n (fun v h' n' => v = some (.int (sgD cd sz)) ∧ h' = h ∧ n' = n) 0 0 := by
  refine fh_enter (by decide) (Nat.le_of_ble_eq_true rfl) [(0, .int cd), (1, .int sz)] rfl ?_
  intro p e s m args below meth c H ls X hP hS hl
  have hx := X.1
  have hb := X.2.1
  have hml := X.2.2.1
  have hown : s.vm.findClass "FormulaSetterModel" = some m.cls := X.2.2.2.1
  have hT := X.2.2.2.2.1
  have hK := X.2.2.2.2.2.1
  have hRO := X.2.2.2.2.2.2.1
  have hnm : meth.name = "signD" := X.2.2.2.2.2.2.2.2.2.2
  refine lv_iload_n hx hb (fh_d d_Mo_signD 0 rfl) rfl (lv_at hl 0 rfl) ?_
  refine lv_iconst (v := 4) hx hb (fh_d d_Mo_signD 1 rfl) (by decide) ?_
  refine lv_irem hx hb (fh_d d_Mo_signD 2 rfl) (by decide) ?_
  refine lv_iconst (v := 1) hx hb (fh_d d_Mo_signD 3 rfl) (by decide) ?_
  refine lv_icmp_ne (tgt := 13) hx hb (fh_d d_Mo_signD 4 rfl) rfl (fun c1 => ?_) (fun c1 => ?_)
  · refine lv_iconst (v := 0) hx hb (fh_d d_Mo_signD 9 rfl) (by decide) ?_
    exact fh_iret X hP hS (fh_d d_Mo_signD 10 rfl) ⟨by unfold sgD; rw [if_neg c1], rfl, rfl⟩
  · refine lv_iconst (v := 2) hx hb (fh_d d_Mo_signD 5 rfl) (by decide) ?_
    refine lv_iload_n hx hb (fh_d d_Mo_signD 6 rfl) rfl (lv_at hl 1 rfl) ?_
    refine lv_imul hx hb (fh_d d_Mo_signD 7 rfl) ?_
    refine lv_goto (tgt := 14) hx hb (fh_d d_Mo_signD 8 rfl) rfl ?_
    exact fh_iret X hP hS (fh_d d_Mo_signD 10 rfl) ⟨by unfold sgD; rw [if_pos (c1)], rfl, rfl⟩

set_option maxHeartbeats 4000000 in
set_option maxRecDepth 100000 in
theorem m_Mo_most (l : Launch) (D : va_G) (ct : Nat → ClassId) (b : Nat) (RO : State → Prop) (r n : Nat) (v1 v2 : Int32) (h : fh_H) : fh_C l D fh_cl (fh_tys ct) b RO y_Mo_most (Cond.code y_Mo_most c_Mo_most 2 (Option.some FieldType.int) :: fh_T) (fh_rm r 0 0) [.int v1, .int v2] h n (fun v h' n' => v = some (.int (ms v1 v2)) ∧ h' = h ∧ n' = n) 0 0 := by
  refine fh_enter (by decide) (Nat.le_of_ble_eq_true rfl) [(0, .int v1), (1, .int v2)] rfl ?_
  intro p e s m args below meth c H ls X hP hS hl
  have hx := X.1
  have hb := X.2.1
  have hml := X.2.2.1
  have hown : s.vm.findClass "FormulaSetterModel" = some m.cls := X.2.2.2.1
  have hT := X.2.2.2.2.1
  have hK := X.2.2.2.2.2.1
  have hRO := X.2.2.2.2.2.2.1
  have hnm : meth.name = "most" := X.2.2.2.2.2.2.2.2.2.2
  refine lv_iload_n hx hb (fh_d d_Mo_most 0 rfl) rfl (lv_at hl 0 rfl) ?_
  refine lv_iload_n hx hb (fh_d d_Mo_most 1 rfl) rfl (lv_at hl 1 rfl) ?_
  refine lv_icmp_le (tgt := 9) hx hb (fh_d d_Mo_most 2 rfl) rfl (fun c1 => ?_) (fun c1 => ?_)
  · refine lv_iload_n hx hb (fh_d d_Mo_most 5 rfl) rfl (lv_at hl 1 rfl) ?_
    exact fh_iret X hP hS (fh_d d_Mo_most 6 rfl) ⟨by unfold ms; rw [if_pos (c1)], rfl, rfl⟩
  · refine lv_iload_n hx hb (fh_d d_Mo_most 3 rfl) rfl (lv_at hl 0 rfl) ?_
    refine lv_goto (tgt := 10) hx hb (fh_d d_Mo_most 4 rfl) rfl ?_
    exact fh_iret X hP hS (fh_d d_Mo_most 6 rfl) ⟨by unfold ms; rw [if_neg (c1)], rfl, rfl⟩

/-- a style's size as a number -/
def zN (s : Nat) : Nat := ([10, 10, 7, 5] : List Nat).getD s 0
theorem zN_y {s : Nat} (h : s < 4) : yS s = nI (zN s) ∧ 5 ≤ zN s ∧ zN s ≤ 10 := by
  rcases (by omega : s = 0 ∨ s = 1 ∨ s = 2 ∨ s = 3) with rfl | rfl | rfl | rfl <;> decide
theorem nI_div {a b : Nat} (ha : a < 2147483648) (hb : b < 2147483648) : nI a / nI b = nI (a / b) := by
  apply Int32.toInt_inj.mp
  have h3 : a / b ≤ a := Nat.div_le_self _ _
  rw [Int32.toInt_div, nI_toInt ha, nI_toInt hb, nI_toInt (by omega), Int.tdiv_eq_ediv_of_nonneg (by omega), ← Int.natCast_ediv]
  generalize a / b = q at h3
  rw [Int.bmod_eq_of_le] <;> omega
/-- how tall: the least multiple of 2 z that is enough -/
def tlN (z k : Nat) : Nat := (k + 2 * z - 1) / (2 * z) * (2 * z)
theorem yTa_N {s k : Nat} (h : s < 4) (hk : k ≤ 1000000000) : yTa s (nI k) = nI (tlN (zN s) k) := by
  obtain ⟨e, h1, h2⟩ := zN_y h
  unfold yTa tlN
  have e2 : 2 * yS s = nI (2 * zN s) := by rw [e]; exact pk_mul 2 _
  have e3 : nI k + nI (2 * zN s) - 1 = nI (k + 2 * zN s - 1) := by rw [nI_add, nI_m1 (by omega)]
  rw [e2, e3, nI_div (by omega) (by omega), pk_mul]
set_option maxHeartbeats 4000000 in
set_option maxRecDepth 100000 in
theorem m_Mo_tallFor (l : Launch) (D : va_G) (ct : Nat → ClassId) (b : Nat) (RO : State → Prop) (r n s0 : Nat) (hs0 : s0 < 4) (k : Nat) (hk : k ≤ 1000000000) (h : fh_H) : fh_C l D fh_cl (fh_tys ct) b RO y_Mo_tallFor (Cond.code y_Mo_tallFor c_Mo_tallFor 3 (Option.some FieldType.int) :: fh_T) (fh_rm r 0 0) [.int (nI k), .int (yS s0)] h n (fun v h' n' => v = some (.int (yTa s0 (nI k))) ∧ h' = h ∧ n' = n) 0 0 := by
  refine fh_enter (by decide) (Nat.le_of_ble_eq_true rfl) [(0, .int (nI k)), (1, .int (yS s0))] rfl ?_
  intro p e s m args below meth c H ls X hP hS hl
  have hx := X.1
  have hb := X.2.1
  have hml := X.2.2.1
  have hown : s.vm.findClass "FormulaSetterModel" = some m.cls := X.2.2.2.1
  have hT := X.2.2.2.2.1
  have hK := X.2.2.2.2.2.1
  have hRO := X.2.2.2.2.2.2.1
  have hnm : meth.name = "tallFor" := X.2.2.2.2.2.2.2.2.2.2
  obtain ⟨ez, z1, z2⟩ := zN_y hs0
  have loop : ∀ (t q : Nat), t + q = (k + 2 * zN s0 - 1) / (2 * zN s0) → ∀ (H : Heap) (locs : List Loc) (ls : Array Slot), fh_P D fh_cl b h n H → va_S (fh_A b) s.heap H locs → lv_has ls 3 [(2, .int (nI (q * (2 * zN s0)))), (0, .int (nI k)), (1, .int (yS s0))] → W p l e (fh_rm r 0 0) s m args below meth c H locs 0 0 (MQ below (fh_Post D fh_cl b (fun v h' n' => v = some (.int (yTa s0 (nI k))) ∧ h' = h ∧ n' = n)) args s 0 0 (fh_A b)) (F0 m 2 ls []) := by
    intro t
    induction t with
    | zero =>
      intro q hq H locs ls hP hS hl
      have hge : k ≤ q * (2 * zN s0) := by have h9 := Nat.div_add_mod (k + 2 * zN s0 - 1) (2 * zN s0); have h8 := Nat.mod_lt (k + 2 * zN s0 - 1) (show 0 < 2 * zN s0 by omega); rw [← hq, Nat.zero_add, Nat.mul_comm] at h9; omega
      have hle : q * (2 * zN s0) ≤ k + 20 := by have h9 := Nat.div_mul_le_self (k + 2 * zN s0 - 1) (2 * zN s0); rw [← hq, Nat.zero_add] at h9; omega
      refine lv_iload_n hx hb (fh_d d_Mo_tallFor 2 rfl) rfl (lv_at hl 0 rfl) ?_
      refine lv_iload_n hx hb (fh_d d_Mo_tallFor 3 rfl) rfl (lv_at hl 1 rfl) ?_
      refine lv_icmp_ge (tgt := 16) hx hb (fh_d d_Mo_tallFor 4 rfl) rfl (fun c1 => ?_) (fun c1 => absurd c1 (Classical.not_not.mpr ((nI_leI (a := k) (b := q * (2 * zN s0)) (by omega) (by omega)).mpr hge)))
      refine lv_iload_n hx hb (fh_d d_Mo_tallFor 12 rfl) rfl (lv_at hl 0 rfl) ?_
      exact fh_iret X hP hS (fh_d d_Mo_tallFor 13 rfl) ⟨by rw [yTa_N hs0 hk]; unfold tlN; rw [← hq, Nat.zero_add], rfl, rfl⟩
    | succ t ih =>
      intro q hq H locs ls hP hS hl
      have hlt : q * (2 * zN s0) < k := by have h9 := Nat.div_mul_le_self (k + 2 * zN s0 - 1) (2 * zN s0); rw [← hq] at h9; have h8 : (t + 1 + q) * (2 * zN s0) = t * (2 * zN s0) + 2 * zN s0 + q * (2 * zN s0) := (by rw [Nat.add_mul, Nat.add_mul, Nat.one_mul]); omega
      refine lv_iload_n hx hb (fh_d d_Mo_tallFor 2 rfl) rfl (lv_at hl 0 rfl) ?_
      refine lv_iload_n hx hb (fh_d d_Mo_tallFor 3 rfl) rfl (lv_at hl 1 rfl) ?_
      refine lv_icmp_ge (tgt := 16) hx hb (fh_d d_Mo_tallFor 4 rfl) rfl (fun c2 => absurd c2 (fun z => absurd ((nI_leI (a := k) (b := q * (2 * zN s0)) (by omega) (by omega)).mp z) (by omega))) (fun c2 => ?_)
      refine lv_iload_n hx hb (fh_d d_Mo_tallFor 5 rfl) rfl (lv_at hl 0 rfl) ?_
      refine lv_iconst (v := 2) hx hb (fh_d d_Mo_tallFor 6 rfl) (by decide) ?_
      refine lv_iload_n hx hb (fh_d d_Mo_tallFor 7 rfl) rfl (lv_at hl 2 rfl) ?_
      refine lv_imul hx hb (fh_d d_Mo_tallFor 8 rfl) ?_
      refine lv_iadd hx hb (fh_d d_Mo_tallFor 9 rfl) ?_
      refine lv_istore_n (lv' := [(2, .int ((nI (q * (2 * zN s0))) + (2 * (yS s0)))), (0, .int (nI k)), (1, .int (yS s0))]) hx hb (fh_d d_Mo_tallFor 10 rfl) rfl hl (by decide) rfl (fun ls hl => ?_)
      refine lv_goto (tgt := 2) hx hb (fh_d d_Mo_tallFor 11 rfl) rfl ?_
      have e9 : nI (q * (2 * zN s0)) + 2 * yS s0 = nI ((q + 1) * (2 * zN s0)) := by rw [ez, Nat.add_mul, Nat.one_mul, ← nI_add, ← pk_mul 2]; rfl
      exact ih (q + 1) (by omega) H locs _ hP hS (by rw [← e9]; exact hl)
  refine lv_iconst (v := 0) hx hb (fh_d d_Mo_tallFor 0 rfl) (by decide) ?_
  refine lv_istore_n (lv' := [(2, .int 0), (0, .int (nI k)), (1, .int (yS s0))]) hx hb (fh_d d_Mo_tallFor 1 rfl) rfl hl (by decide) rfl (fun ls hl => ?_)
  exact loop ((k + 2 * zN s0 - 1) / (2 * zN s0)) 0 (by omega) H _ _ hP hS (by rw [show nI (0 * (2 * zN s0)) = 0 from by rw [Nat.zero_mul]; rfl]; exact hl)

/-- a style handed to a node -/
def rf_hand (A : Nat → Nat → Int32) (k : Nat) (sv cv : Int32) : Nat → Nat → Int32 := if k = 0 then A else up2 (up2 A 20 (upd (A 20) k sv)) 21 (upd (A 21) k cv)
set_option maxHeartbeats 4000000 in
set_option maxRecDepth 100000 in
theorem m_Mo_hand (l : Launch) (D : va_G) (ct : Nat → ClassId) (b : Nat) (RO : State → Prop) (r : Nat) (n x : Nat) (g : fh_H) (A : Nat → Nat → Int32) (th co at_ wr no nu op pi wi he de : Int32) (k : Nat) (hk : k < 400) (sv cv : Int32) (hcv : cv = 0 ∨ cv = 1) : fh_C l D fh_cl (fh_tys ct) b RO y_Mo_hand (Cond.code y_Mo_hand c_Mo_hand 4 (Option.none : Option FieldType) :: fh_T) (fh_rm r 0 0) [.ref x, .int (nI k), .int sv, .int cv] (mkM ct x g A th co at_ wr no nu op pi wi he de) n (fun v h' n' => v = none ∧ h' = mkM ct x g (rf_hand A k sv cv) th co at_ wr no nu op pi wi he de ∧ n' = n) 0 0 := by
  refine fh_enter (by decide) (Nat.le_of_ble_eq_true rfl) [(0, .ref x), (1, .int (nI k)), (2, .int sv), (3, .int cv)] rfl ?_
  intro p e s m args below meth c H ls X hP hS hl
  have hx := X.1
  have hb := X.2.1
  have hml := X.2.2.1
  have hown : s.vm.findClass "FormulaSetterModel" = some m.cls := X.2.2.2.1
  have hT := X.2.2.2.2.1
  have hK := X.2.2.2.2.2.1
  have hRO := X.2.2.2.2.2.2.1
  have hnm : meth.name = "hand" := X.2.2.2.2.2.2.2.2.2.2
  refine lv_iload_n hx hb (fh_d d_Mo_hand 0 rfl) rfl (lv_at hl 1 rfl) ?_
  refine lv_if_le (tgt := 18) hx hb (fh_d d_Mo_hand 1 rfl) rfl (fun c1 => ?_) (fun c1 => ?_)
  · exact fh_vret X hP hS (fh_d d_Mo_hand 12 rfl) ⟨rfl, by unfold rf_hand; rw [if_pos (Nat.eq_zero_of_not_pos fun z => absurd ((nI_ltI (a := 0) (b := k) (by decide) (by omega)).mpr z) (Int32.not_lt.mpr c1))], rfl⟩
  · refine lv_aload_n hx hb (fh_d d_Mo_hand 2 rfl) rfl (lv_at hl 0 rfl) ?_
    refine fh_get (own := "FormulaSetterModel") (ref := "FormulaSetterModel") (C := "FormulaSetterModel") (T := T_Mo) (N := 53) (v := .ref (x + 21)) hx hb hT i_Mo hown hK hP mkM_o rfl 27 (by decide) (hT _ w887) (fun _ h9 => h9) rfl (fh_d d_Mo_hand 3 rfl) ?_
    refine lv_iload_n hx hb (fh_d d_Mo_hand 4 rfl) rfl (lv_at hl 1 rfl) ?_
    refine lv_iload_n hx hb (fh_d d_Mo_hand 5 rfl) rfl (lv_at hl 2 rfl) ?_
    refine fn_iast (f := A 20) (k := k) hx hb hK hP hS 0 mkM_a20 rfl (rfl) (by omega) (by decide) (fh_d d_Mo_hand 6 rfl) (fun H locs hP hS => ?_)
    replace hP := fh_P.eq (h' := mkM ct x g (up2 A 20 (upd (A 20) k sv)) th co at_ wr no nu op pi wi he de) hP mkM_u20
    refine lv_aload_n hx hb (fh_d d_Mo_hand 7 rfl) rfl (lv_at hl 0 rfl) ?_
    refine fh_get (own := "FormulaSetterModel") (ref := "FormulaSetterModel") (C := "FormulaSetterModel") (T := T_Mo) (N := 53) (v := .ref (x + 22)) hx hb hT i_Mo hown hK hP mkM_o rfl 28 (by decide) (hT _ w888) (fun _ h9 => h9) rfl (fh_d d_Mo_hand 8 rfl) ?_
    refine lv_iload_n hx hb (fh_d d_Mo_hand 9 rfl) rfl (lv_at hl 1 rfl) ?_
    refine lv_iload_n hx hb (fh_d d_Mo_hand 10 rfl) rfl (lv_at hl 3 rfl) ?_
    refine fn_zast (f := A 21) (k := k) hx hb hK hP hS 3 mkM_a21 rfl (rfl) (by omega) (by decide) (by rcases hcv with rfl | rfl <;> decide) (fh_d d_Mo_hand 11 rfl) (fun H locs hP hS => ?_)
    replace hP := fh_P.eq (h' := mkM ct x g (up2 (up2 A 20 (upd (A 20) k sv)) 21 (upd (A 21) k cv)) th co at_ wr no nu op pi wi he de) hP mkM_u21
    exact fh_vret X hP hS (fh_d d_Mo_hand 12 rfl) ⟨rfl, by unfold rf_hand; rw [if_neg (fun z => c1 (by rw [z]; decide))], rfl⟩
