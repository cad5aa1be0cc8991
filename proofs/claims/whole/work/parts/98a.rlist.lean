/-! The reference: spaceBetween, setList. Printed by wip/whole/gen/p98a.py -/
def spV (p : Nat) : Int32 := ([1230004, 11030004, 22002002, 33003003, 0, 1230004, 44044444, 41234044] : List Int32).getD p 0
def spD : Nat → Int32 → Int32
  | 0, r => r
  | k + 1, r => spD k (r / 10)
theorem spD_R {p q : Nat} (hp : p < 8) (hq : q < 8) : spD (7 - q) (spV p) - spD (7 - q) (spV p) / 10 * 10 = spR p q := by
  have h : ∀ p, p < 8 → ∀ q, q < 8 → spD (7 - q) (spV p) - spD (7 - q) (spV p) / 10 * 10 = spR p q := by decide +kernel
  exact h p hp q hq
set_option maxHeartbeats 4000000 in
set_option maxRecDepth 100000 in
theorem m_Mo_spaceBetween (l : Launch) (D : va_G) (ct : Nat → ClassId) (b : Nat) (RO : State → Prop) (r n p0 q0 : Nat) (hp0 : p0 < 8) (hq0 : q0 < 8) (h : fh_H) : fh_C l D fh_cl (fh_tys ct) b RO y_Mo_spaceBetween (Cond.code y_Mo_spaceBetween c_Mo_spaceBetween 4 (Option.some FieldType.int) :: fh_T) (fh_rm r 0 0) [.int (nI p0), .int (nI q0)] h n (fun v h' n' => v = some (.int (spR p0 q0)) ∧ h' = h ∧ n' = n) 0 0 := by
  refine fh_enter (by decide) (Nat.le_of_ble_eq_true rfl) [(0, .int (nI p0)), (1, .int (nI q0))] rfl ?_
  intro p e s m args below meth c H ls X hP hS hl
  have hx := X.1
  have hb := X.2.1
  have hml := X.2.2.1
  have hown : s.vm.findClass "FormulaSetterModel" = some m.cls := X.2.2.2.1
  have hT := X.2.2.2.2.1
  have hK := X.2.2.2.2.2.1
  have hRO := X.2.2.2.2.2.2.1
  have hnm : meth.name = "spaceBetween" := X.2.2.2.2.2.2.2.2.2.2
  have loop : ∀ (t : Nat) (v : Int32), q0 + t ≤ 7 → spD t v = spD (7 - q0) (spV p0) → ∀ (H : Heap) (locs : List Loc) (ls : Array Slot), fh_P D fh_cl b h n H → va_S (fh_A b) s.heap H locs → lv_has ls 4 [(2, .int v), (3, .int (nI (q0 + t))), (0, .int (nI p0)), (1, .int (nI q0))] → W p l e (fh_rm r 0 0) s m args below meth c H locs 0 0 (MQ below (fh_Post D fh_cl b (fun v h' n' => v = some (.int (spR p0 q0)) ∧ h' = h ∧ n' = n)) args s 0 0 (fh_A b)) (F0 m 75 ls []) := by
    intro t
    induction t with
    | zero =>
      intro v hqt hv H locs ls hP hS hl
      refine lv_iload_n hx hb (fh_d d_Mo_spaceBetween 36 rfl) rfl (lv_at hl 1 rfl) ?_
      refine lv_iload_n hx hb (fh_d d_Mo_spaceBetween 37 rfl) rfl (lv_at hl 3 rfl) ?_
      refine lv_icmp_le (tgt := 91) hx hb (fh_d d_Mo_spaceBetween 38 rfl) rfl (fun c1 => ?_) (fun c1 => absurd c1 (Classical.not_not.mpr (Int32.le_refl _)))
      refine lv_iload_n hx hb (fh_d d_Mo_spaceBetween 45 rfl) rfl (lv_at hl 0 rfl) ?_
      refine lv_bipush (v := 10) hx hb (fh_d d_Mo_spaceBetween 46 rfl) (by decide) ?_
      refine lv_irem hx hb (fh_d d_Mo_spaceBetween 47 rfl) (by decide) ?_
      exact fh_iret X hP hS (fh_d d_Mo_spaceBetween 48 rfl) ⟨by rw [← spD_R hp0 hq0, ← hv]; rfl, rfl, rfl⟩
    | succ t ih =>
      intro v hqt hv H locs ls hP hS hl
      refine lv_iload_n hx hb (fh_d d_Mo_spaceBetween 36 rfl) rfl (lv_at hl 1 rfl) ?_
      refine lv_iload_n hx hb (fh_d d_Mo_spaceBetween 37 rfl) rfl (lv_at hl 3 rfl) ?_
      refine lv_icmp_le (tgt := 91) hx hb (fh_d d_Mo_spaceBetween 38 rfl) rfl (fun c2 => absurd c2 (fun z => absurd ((nI_leI (a := q0 + (t + 1)) (b := q0) (by omega) (by omega)).mp z) (by omega))) (fun c2 => ?_)
      refine lv_iload_n hx hb (fh_d d_Mo_spaceBetween 39 rfl) rfl (lv_at hl 0 rfl) ?_
      refine lv_bipush (v := 10) hx hb (fh_d d_Mo_spaceBetween 40 rfl) (by decide) ?_
      refine lv_idiv hx hb (fh_d d_Mo_spaceBetween 41 rfl) (by decide) ?_
      refine lv_istore_n (lv' := [(2, .int (v / 10)), (3, .int (nI (q0 + (t + 1)))), (0, .int (nI p0)), (1, .int (nI q0))]) hx hb (fh_d d_Mo_spaceBetween 42 rfl) rfl hl (by decide) rfl (fun ls hl => ?_)
      refine lv_iinc (k := 1) (v := (nI (q0 + (t + 1))) + (-1)) (lv' := [(3, .int ((nI (q0 + (t + 1))) + (-1))), (2, .int (v / 10)), (0, .int (nI p0)), (1, .int (nI q0))]) hx hb (fh_d d_Mo_spaceBetween 43 rfl) hl rfl (by rfl) (by decide) rfl (fun ls hl => ?_)
      refine lv_goto (tgt := 75) hx hb (fh_d d_Mo_spaceBetween 44 rfl) rfl ?_
      have e9 : nI (q0 + (t + 1)) + (-1) = nI (q0 + t) := by rw [← Nat.add_assoc, ← Int32.sub_eq_add_neg]; exact nI_pred _
      exact ih (v / 10) (by omega) hv H locs _ hP hS (by rw [← e9]; exact lv_sub hl [1, 0, 2, 3] rfl)
  rcases (by omega : p0 = 0 ∨ p0 = 1 ∨ p0 = 2 ∨ p0 = 3 ∨ p0 = 4 ∨ p0 = 5 ∨ p0 = 6 ∨ p0 = 7) with hp | hp | hp | hp | hp | hp | hp | hp
  · have e0 : nI p0 = 0 := by rw [hp]; rfl
    refine lv_iload_n hx hb (fh_d d_Mo_spaceBetween 0 rfl) rfl (lv_at hl 0 rfl) ?_
    refine lv_if_eq (tgt := 9) hx hb (fh_d d_Mo_spaceBetween 1 rfl) rfl (fun c3 => ?_) (fun c3 => absurd c3 (Classical.not_not.mpr e0))
    refine lv_ldc (v := 1230004) hx hb hown (hT _ w1143) (fh_d d_Mo_spaceBetween 5 rfl) ?_
    refine lv_goto (tgt := 71) hx hb (fh_d d_Mo_spaceBetween 6 rfl) rfl ?_
    refine lv_istore_n (lv' := [(2, .int 1230004), (0, .int (nI p0)), (1, .int (nI q0))]) hx hb (fh_d d_Mo_spaceBetween 33 rfl) rfl hl (by decide) rfl (fun ls hl => ?_)
    refine lv_bipush (v := 7) hx hb (fh_d d_Mo_spaceBetween 34 rfl) (by decide) ?_
    refine lv_istore_n (lv' := [(3, .int 7), (2, .int 1230004), (0, .int (nI p0)), (1, .int (nI q0))]) hx hb (fh_d d_Mo_spaceBetween 35 rfl) rfl hl (by decide) rfl (fun ls hl => ?_)
    exact loop (7 - q0) 1230004 (by omega) (by rw [hp]; rfl) H _ _ hP hS (by rw [show q0 + (7 - q0) = 7 by omega]; exact lv_sub hl [1, 0, 2, 3] rfl)
  · have e0 : nI p0 = 1 := by rw [hp]; rfl
    refine lv_iload_n hx hb (fh_d d_Mo_spaceBetween 0 rfl) rfl (lv_at hl 0 rfl) ?_
    refine lv_if_eq (tgt := 9) hx hb (fh_d d_Mo_spaceBetween 1 rfl) rfl (fun c4 => absurd c4 (fun z => absurd (e0.symm.trans z) (by decide))) (fun c4 => ?_)
    refine lv_iload_n hx hb (fh_d d_Mo_spaceBetween 2 rfl) rfl (lv_at hl 0 rfl) ?_
    refine lv_iconst (v := 5) hx hb (fh_d d_Mo_spaceBetween 3 rfl) (by decide) ?_
    refine lv_icmp_ne (tgt := 14) hx hb (fh_d d_Mo_spaceBetween 4 rfl) rfl (fun c5 => ?_) (fun c5 => absurd c5 (fun z => absurd (e0.symm.trans z) (by decide)))
    refine lv_iload_n hx hb (fh_d d_Mo_spaceBetween 7 rfl) rfl (lv_at hl 0 rfl) ?_
    refine lv_iconst (v := 1) hx hb (fh_d d_Mo_spaceBetween 8 rfl) (by decide) ?_
    refine lv_icmp_ne (tgt := 25) hx hb (fh_d d_Mo_spaceBetween 9 rfl) rfl (fun c6 => absurd c6 (Classical.not_not.mpr e0)) (fun c6 => ?_)
    refine lv_ldcw (v := 11030004) hx hb hown (hT _ w1144) (fh_d d_Mo_spaceBetween 10 rfl) ?_
    refine lv_goto (tgt := 71) hx hb (fh_d d_Mo_spaceBetween 11 rfl) rfl ?_
    refine lv_istore_n (lv' := [(2, .int 11030004), (0, .int (nI p0)), (1, .int (nI q0))]) hx hb (fh_d d_Mo_spaceBetween 33 rfl) rfl hl (by decide) rfl (fun ls hl => ?_)
    refine lv_bipush (v := 7) hx hb (fh_d d_Mo_spaceBetween 34 rfl) (by decide) ?_
    refine lv_istore_n (lv' := [(3, .int 7), (2, .int 11030004), (0, .int (nI p0)), (1, .int (nI q0))]) hx hb (fh_d d_Mo_spaceBetween 35 rfl) rfl hl (by decide) rfl (fun ls hl => ?_)
    exact loop (7 - q0) 11030004 (by omega) (by rw [hp]; rfl) H _ _ hP hS (by rw [show q0 + (7 - q0) = 7 by omega]; exact lv_sub hl [1, 0, 2, 3] rfl)
  · have e0 : nI p0 = 2 := by rw [hp]; rfl
    refine lv_iload_n hx hb (fh_d d_Mo_spaceBetween 0 rfl) rfl (lv_at hl 0 rfl) ?_
    refine lv_if_eq (tgt := 9) hx hb (fh_d d_Mo_spaceBetween 1 rfl) rfl (fun c7 => absurd c7 (fun z => absurd (e0.symm.trans z) (by decide))) (fun c7 => ?_)
    refine lv_iload_n hx hb (fh_d d_Mo_spaceBetween 2 rfl) rfl (lv_at hl 0 rfl) ?_
    refine lv_iconst (v := 5) hx hb (fh_d d_Mo_spaceBetween 3 rfl) (by decide) ?_
    refine lv_icmp_ne (tgt := 14) hx hb (fh_d d_Mo_spaceBetween 4 rfl) rfl (fun c8 => ?_) (fun c8 => absurd c8 (fun z => absurd (e0.symm.trans z) (by decide)))
    refine lv_iload_n hx hb (fh_d d_Mo_spaceBetween 7 rfl) rfl (lv_at hl 0 rfl) ?_
    refine lv_iconst (v := 1) hx hb (fh_d d_Mo_spaceBetween 8 rfl) (by decide) ?_
    refine lv_icmp_ne (tgt := 25) hx hb (fh_d d_Mo_spaceBetween 9 rfl) rfl (fun c9 => ?_) (fun c9 => absurd c9 (fun z => absurd (e0.symm.trans z) (by decide)))
    refine lv_iload_n hx hb (fh_d d_Mo_spaceBetween 12 rfl) rfl (lv_at hl 0 rfl) ?_
    refine lv_iconst (v := 2) hx hb (fh_d d_Mo_spaceBetween 13 rfl) (by decide) ?_
    refine lv_icmp_ne (tgt := 36) hx hb (fh_d d_Mo_spaceBetween 14 rfl) rfl (fun c10 => absurd c10 (Classical.not_not.mpr e0)) (fun c10 => ?_)
    refine lv_ldcw (v := 22002002) hx hb hown (hT _ w1145) (fh_d d_Mo_spaceBetween 15 rfl) ?_
    refine lv_goto (tgt := 71) hx hb (fh_d d_Mo_spaceBetween 16 rfl) rfl ?_
    refine lv_istore_n (lv' := [(2, .int 22002002), (0, .int (nI p0)), (1, .int (nI q0))]) hx hb (fh_d d_Mo_spaceBetween 33 rfl) rfl hl (by decide) rfl (fun ls hl => ?_)
    refine lv_bipush (v := 7) hx hb (fh_d d_Mo_spaceBetween 34 rfl) (by decide) ?_
    refine lv_istore_n (lv' := [(3, .int 7), (2, .int 22002002), (0, .int (nI p0)), (1, .int (nI q0))]) hx hb (fh_d d_Mo_spaceBetween 35 rfl) rfl hl (by decide) rfl (fun ls hl => ?_)
    exact loop (7 - q0) 22002002 (by omega) (by rw [hp]; rfl) H _ _ hP hS (by rw [show q0 + (7 - q0) = 7 by omega]; exact lv_sub hl [1, 0, 2, 3] rfl)
  · have e0 : nI p0 = 3 := by rw [hp]; rfl
    refine lv_iload_n hx hb (fh_d d_Mo_spaceBetween 0 rfl) rfl (lv_at hl 0 rfl) ?_
    refine lv_if_eq (tgt := 9) hx hb (fh_d d_Mo_spaceBetween 1 rfl) rfl (fun c11 => absurd c11 (fun z => absurd (e0.symm.trans z) (by decide))) (fun c11 => ?_)
    refine lv_iload_n hx hb (fh_d d_Mo_spaceBetween 2 rfl) rfl (lv_at hl 0 rfl) ?_
    refine lv_iconst (v := 5) hx hb (fh_d d_Mo_spaceBetween 3 rfl) (by decide) ?_
    refine lv_icmp_ne (tgt := 14) hx hb (fh_d d_Mo_spaceBetween 4 rfl) rfl (fun c12 => ?_) (fun c12 => absurd c12 (fun z => absurd (e0.symm.trans z) (by decide)))
    refine lv_iload_n hx hb (fh_d d_Mo_spaceBetween 7 rfl) rfl (lv_at hl 0 rfl) ?_
    refine lv_iconst (v := 1) hx hb (fh_d d_Mo_spaceBetween 8 rfl) (by decide) ?_
    refine lv_icmp_ne (tgt := 25) hx hb (fh_d d_Mo_spaceBetween 9 rfl) rfl (fun c13 => ?_) (fun c13 => absurd c13 (fun z => absurd (e0.symm.trans z) (by decide)))
    refine lv_iload_n hx hb (fh_d d_Mo_spaceBetween 12 rfl) rfl (lv_at hl 0 rfl) ?_
    refine lv_iconst (v := 2) hx hb (fh_d d_Mo_spaceBetween 13 rfl) (by decide) ?_
    refine lv_icmp_ne (tgt := 36) hx hb (fh_d d_Mo_spaceBetween 14 rfl) rfl (fun c14 => ?_) (fun c14 => absurd c14 (fun z => absurd (e0.symm.trans z) (by decide)))
    refine lv_iload_n hx hb (fh_d d_Mo_spaceBetween 17 rfl) rfl (lv_at hl 0 rfl) ?_
    refine lv_iconst (v := 3) hx hb (fh_d d_Mo_spaceBetween 18 rfl) (by decide) ?_
    refine lv_icmp_ne (tgt := 47) hx hb (fh_d d_Mo_spaceBetween 19 rfl) rfl (fun c15 => absurd c15 (Classical.not_not.mpr e0)) (fun c15 => ?_)
    refine lv_ldcw (v := 33003003) hx hb hown (hT _ w1146) (fh_d d_Mo_spaceBetween 20 rfl) ?_
    refine lv_goto (tgt := 71) hx hb (fh_d d_Mo_spaceBetween 21 rfl) rfl ?_
    refine lv_istore_n (lv' := [(2, .int 33003003), (0, .int (nI p0)), (1, .int (nI q0))]) hx hb (fh_d d_Mo_spaceBetween 33 rfl) rfl hl (by decide) rfl (fun ls hl => ?_)
    refine lv_bipush (v := 7) hx hb (fh_d d_Mo_spaceBetween 34 rfl) (by decide) ?_
    refine lv_istore_n (lv' := [(3, .int 7), (2, .int 33003003), (0, .int (nI p0)), (1, .int (nI q0))]) hx hb (fh_d d_Mo_spaceBetween 35 rfl) rfl hl (by decide) rfl (fun ls hl => ?_)
    exact loop (7 - q0) 33003003 (by omega) (by rw [hp]; rfl) H _ _ hP hS (by rw [show q0 + (7 - q0) = 7 by omega]; exact lv_sub hl [1, 0, 2, 3] rfl)
  · have e0 : nI p0 = 4 := by rw [hp]; rfl
    refine lv_iload_n hx hb (fh_d d_Mo_spaceBetween 0 rfl) rfl (lv_at hl 0 rfl) ?_
    refine lv_if_eq (tgt := 9) hx hb (fh_d d_Mo_spaceBetween 1 rfl) rfl (fun c16 => absurd c16 (fun z => absurd (e0.symm.trans z) (by decide))) (fun c16 => ?_)
    refine lv_iload_n hx hb (fh_d d_Mo_spaceBetween 2 rfl) rfl (lv_at hl 0 rfl) ?_
    refine lv_iconst (v := 5) hx hb (fh_d d_Mo_spaceBetween 3 rfl) (by decide) ?_
    refine lv_icmp_ne (tgt := 14) hx hb (fh_d d_Mo_spaceBetween 4 rfl) rfl (fun c17 => ?_) (fun c17 => absurd c17 (fun z => absurd (e0.symm.trans z) (by decide)))
    refine lv_iload_n hx hb (fh_d d_Mo_spaceBetween 7 rfl) rfl (lv_at hl 0 rfl) ?_
    refine lv_iconst (v := 1) hx hb (fh_d d_Mo_spaceBetween 8 rfl) (by decide) ?_
    refine lv_icmp_ne (tgt := 25) hx hb (fh_d d_Mo_spaceBetween 9 rfl) rfl (fun c18 => ?_) (fun c18 => absurd c18 (fun z => absurd (e0.symm.trans z) (by decide)))
    refine lv_iload_n hx hb (fh_d d_Mo_spaceBetween 12 rfl) rfl (lv_at hl 0 rfl) ?_
    refine lv_iconst (v := 2) hx hb (fh_d d_Mo_spaceBetween 13 rfl) (by decide) ?_
    refine lv_icmp_ne (tgt := 36) hx hb (fh_d d_Mo_spaceBetween 14 rfl) rfl (fun c19 => ?_) (fun c19 => absurd c19 (fun z => absurd (e0.symm.trans z) (by decide)))
    refine lv_iload_n hx hb (fh_d d_Mo_spaceBetween 17 rfl) rfl (lv_at hl 0 rfl) ?_
    refine lv_iconst (v := 3) hx hb (fh_d d_Mo_spaceBetween 18 rfl) (by decide) ?_
    refine lv_icmp_ne (tgt := 47) hx hb (fh_d d_Mo_spaceBetween 19 rfl) rfl (fun c20 => ?_) (fun c20 => absurd c20 (fun z => absurd (e0.symm.trans z) (by decide)))
    refine lv_iload_n hx hb (fh_d d_Mo_spaceBetween 22 rfl) rfl (lv_at hl 0 rfl) ?_
    refine lv_iconst (v := 4) hx hb (fh_d d_Mo_spaceBetween 23 rfl) (by decide) ?_
    refine lv_icmp_ne (tgt := 56) hx hb (fh_d d_Mo_spaceBetween 24 rfl) rfl (fun c21 => absurd c21 (Classical.not_not.mpr e0)) (fun c21 => ?_)
    refine lv_iconst (v := 0) hx hb (fh_d d_Mo_spaceBetween 25 rfl) (by decide) ?_
    refine lv_goto (tgt := 71) hx hb (fh_d d_Mo_spaceBetween 26 rfl) rfl ?_
    refine lv_istore_n (lv' := [(2, .int 0), (0, .int (nI p0)), (1, .int (nI q0))]) hx hb (fh_d d_Mo_spaceBetween 33 rfl) rfl hl (by decide) rfl (fun ls hl => ?_)
    refine lv_bipush (v := 7) hx hb (fh_d d_Mo_spaceBetween 34 rfl) (by decide) ?_
    refine lv_istore_n (lv' := [(3, .int 7), (2, .int 0), (0, .int (nI p0)), (1, .int (nI q0))]) hx hb (fh_d d_Mo_spaceBetween 35 rfl) rfl hl (by decide) rfl (fun ls hl => ?_)
    exact loop (7 - q0) 0 (by omega) (by rw [hp]; rfl) H _ _ hP hS (by rw [show q0 + (7 - q0) = 7 by omega]; exact lv_sub hl [1, 0, 2, 3] rfl)
  · have e0 : nI p0 = 5 := by rw [hp]; rfl
    refine lv_iload_n hx hb (fh_d d_Mo_spaceBetween 0 rfl) rfl (lv_at hl 0 rfl) ?_
    refine lv_if_eq (tgt := 9) hx hb (fh_d d_Mo_spaceBetween 1 rfl) rfl (fun c22 => absurd c22 (fun z => absurd (e0.symm.trans z) (by decide))) (fun c22 => ?_)
    refine lv_iload_n hx hb (fh_d d_Mo_spaceBetween 2 rfl) rfl (lv_at hl 0 rfl) ?_
    refine lv_iconst (v := 5) hx hb (fh_d d_Mo_spaceBetween 3 rfl) (by decide) ?_
    refine lv_icmp_ne (tgt := 14) hx hb (fh_d d_Mo_spaceBetween 4 rfl) rfl (fun c23 => absurd c23 (Classical.not_not.mpr e0)) (fun c23 => ?_)
    refine lv_ldc (v := 1230004) hx hb hown (hT _ w1143) (fh_d d_Mo_spaceBetween 5 rfl) ?_
    refine lv_goto (tgt := 71) hx hb (fh_d d_Mo_spaceBetween 6 rfl) rfl ?_
    refine lv_istore_n (lv' := [(2, .int 1230004), (0, .int (nI p0)), (1, .int (nI q0))]) hx hb (fh_d d_Mo_spaceBetween 33 rfl) rfl hl (by decide) rfl (fun ls hl => ?_)
    refine lv_bipush (v := 7) hx hb (fh_d d_Mo_spaceBetween 34 rfl) (by decide) ?_
    refine lv_istore_n (lv' := [(3, .int 7), (2, .int 1230004), (0, .int (nI p0)), (1, .int (nI q0))]) hx hb (fh_d d_Mo_spaceBetween 35 rfl) rfl hl (by decide) rfl (fun ls hl => ?_)
    exact loop (7 - q0) 1230004 (by omega) (by rw [hp]; rfl) H _ _ hP hS (by rw [show q0 + (7 - q0) = 7 by omega]; exact lv_sub hl [1, 0, 2, 3] rfl)
  · have e0 : nI p0 = 6 := by rw [hp]; rfl
    refine lv_iload_n hx hb (fh_d d_Mo_spaceBetween 0 rfl) rfl (lv_at hl 0 rfl) ?_
    refine lv_if_eq (tgt := 9) hx hb (fh_d d_Mo_spaceBetween 1 rfl) rfl (fun c24 => absurd c24 (fun z => absurd (e0.symm.trans z) (by decide))) (fun c24 => ?_)
    refine lv_iload_n hx hb (fh_d d_Mo_spaceBetween 2 rfl) rfl (lv_at hl 0 rfl) ?_
    refine lv_iconst (v := 5) hx hb (fh_d d_Mo_spaceBetween 3 rfl) (by decide) ?_
    refine lv_icmp_ne (tgt := 14) hx hb (fh_d d_Mo_spaceBetween 4 rfl) rfl (fun c25 => ?_) (fun c25 => absurd c25 (fun z => absurd (e0.symm.trans z) (by decide)))
    refine lv_iload_n hx hb (fh_d d_Mo_spaceBetween 7 rfl) rfl (lv_at hl 0 rfl) ?_
    refine lv_iconst (v := 1) hx hb (fh_d d_Mo_spaceBetween 8 rfl) (by decide) ?_
    refine lv_icmp_ne (tgt := 25) hx hb (fh_d d_Mo_spaceBetween 9 rfl) rfl (fun c26 => ?_) (fun c26 => absurd c26 (fun z => absurd (e0.symm.trans z) (by decide)))
    refine lv_iload_n hx hb (fh_d d_Mo_spaceBetween 12 rfl) rfl (lv_at hl 0 rfl) ?_
    refine lv_iconst (v := 2) hx hb (fh_d d_Mo_spaceBetween 13 rfl) (by decide) ?_
    refine lv_icmp_ne (tgt := 36) hx hb (fh_d d_Mo_spaceBetween 14 rfl) rfl (fun c27 => ?_) (fun c27 => absurd c27 (fun z => absurd (e0.symm.trans z) (by decide)))
    refine lv_iload_n hx hb (fh_d d_Mo_spaceBetween 17 rfl) rfl (lv_at hl 0 rfl) ?_
    refine lv_iconst (v := 3) hx hb (fh_d d_Mo_spaceBetween 18 rfl) (by decide) ?_
    refine lv_icmp_ne (tgt := 47) hx hb (fh_d d_Mo_spaceBetween 19 rfl) rfl (fun c28 => ?_) (fun c28 => absurd c28 (fun z => absurd (e0.symm.trans z) (by decide)))
    refine lv_iload_n hx hb (fh_d d_Mo_spaceBetween 22 rfl) rfl (lv_at hl 0 rfl) ?_
    refine lv_iconst (v := 4) hx hb (fh_d d_Mo_spaceBetween 23 rfl) (by decide) ?_
    refine lv_icmp_ne (tgt := 56) hx hb (fh_d d_Mo_spaceBetween 24 rfl) rfl (fun c29 => ?_) (fun c29 => absurd c29 (fun z => absurd (e0.symm.trans z) (by decide)))
    refine lv_iload_n hx hb (fh_d d_Mo_spaceBetween 27 rfl) rfl (lv_at hl 0 rfl) ?_
    refine lv_bipush (v := 6) hx hb (fh_d d_Mo_spaceBetween 28 rfl) (by decide) ?_
    refine lv_icmp_ne (tgt := 68) hx hb (fh_d d_Mo_spaceBetween 29 rfl) rfl (fun c30 => absurd c30 (Classical.not_not.mpr e0)) (fun c30 => ?_)
    refine lv_ldcw (v := 44044444) hx hb hown (hT _ w1147) (fh_d d_Mo_spaceBetween 30 rfl) ?_
    refine lv_goto (tgt := 71) hx hb (fh_d d_Mo_spaceBetween 31 rfl) rfl ?_
    refine lv_istore_n (lv' := [(2, .int 44044444), (0, .int (nI p0)), (1, .int (nI q0))]) hx hb (fh_d d_Mo_spaceBetween 33 rfl) rfl hl (by decide) rfl (fun ls hl => ?_)
    refine lv_bipush (v := 7) hx hb (fh_d d_Mo_spaceBetween 34 rfl) (by decide) ?_
    refine lv_istore_n (lv' := [(3, .int 7), (2, .int 44044444), (0, .int (nI p0)), (1, .int (nI q0))]) hx hb (fh_d d_Mo_spaceBetween 35 rfl) rfl hl (by decide) rfl (fun ls hl => ?_)
    exact loop (7 - q0) 44044444 (by omega) (by rw [hp]; rfl) H _ _ hP hS (by rw [show q0 + (7 - q0) = 7 by omega]; exact lv_sub hl [1, 0, 2, 3] rfl)
  · have e0 : nI p0 = 7 := by rw [hp]; rfl
    refine lv_iload_n hx hb (fh_d d_Mo_spaceBetween 0 rfl) rfl (lv_at hl 0 rfl) ?_
    refine lv_if_eq (tgt := 9) hx hb (fh_d d_Mo_spaceBetween 1 rfl) rfl (fun c31 => absurd c31 (fun z => absurd (e0.symm.trans z) (by decide))) (fun c31 => ?_)
    refine lv_iload_n hx hb (fh_d d_Mo_spaceBetween 2 rfl) rfl (lv_at hl 0 rfl) ?_
    refine lv_iconst (v := 5) hx hb (fh_d d_Mo_spaceBetween 3 rfl) (by decide) ?_
    refine lv_icmp_ne (tgt := 14) hx hb (fh_d d_Mo_spaceBetween 4 rfl) rfl (fun c32 => ?_) (fun c32 => absurd c32 (fun z => absurd (e0.symm.trans z) (by decide)))
    refine lv_iload_n hx hb (fh_d d_Mo_spaceBetween 7 rfl) rfl (lv_at hl 0 rfl) ?_
    refine lv_iconst (v := 1) hx hb (fh_d d_Mo_spaceBetween 8 rfl) (by decide) ?_
    refine lv_icmp_ne (tgt := 25) hx hb (fh_d d_Mo_spaceBetween 9 rfl) rfl (fun c33 => ?_) (fun c33 => absurd c33 (fun z => absurd (e0.symm.trans z) (by decide)))
    refine lv_iload_n hx hb (fh_d d_Mo_spaceBetween 12 rfl) rfl (lv_at hl 0 rfl) ?_
    refine lv_iconst (v := 2) hx hb (fh_d d_Mo_spaceBetween 13 rfl) (by decide) ?_
    refine lv_icmp_ne (tgt := 36) hx hb (fh_d d_Mo_spaceBetween 14 rfl) rfl (fun c34 => ?_) (fun c34 => absurd c34 (fun z => absurd (e0.symm.trans z) (by decide)))
    refine lv_iload_n hx hb (fh_d d_Mo_spaceBetween 17 rfl) rfl (lv_at hl 0 rfl) ?_
    refine lv_iconst (v := 3) hx hb (fh_d d_Mo_spaceBetween 18 rfl) (by decide) ?_
    refine lv_icmp_ne (tgt := 47) hx hb (fh_d d_Mo_spaceBetween 19 rfl) rfl (fun c35 => ?_) (fun c35 => absurd c35 (fun z => absurd (e0.symm.trans z) (by decide)))
    refine lv_iload_n hx hb (fh_d d_Mo_spaceBetween 22 rfl) rfl (lv_at hl 0 rfl) ?_
    refine lv_iconst (v := 4) hx hb (fh_d d_Mo_spaceBetween 23 rfl) (by decide) ?_
    refine lv_icmp_ne (tgt := 56) hx hb (fh_d d_Mo_spaceBetween 24 rfl) rfl (fun c36 => ?_) (fun c36 => absurd c36 (fun z => absurd (e0.symm.trans z) (by decide)))
    refine lv_iload_n hx hb (fh_d d_Mo_spaceBetween 27 rfl) rfl (lv_at hl 0 rfl) ?_
    refine lv_bipush (v := 6) hx hb (fh_d d_Mo_spaceBetween 28 rfl) (by decide) ?_
    refine lv_icmp_ne (tgt := 68) hx hb (fh_d d_Mo_spaceBetween 29 rfl) rfl (fun c37 => ?_) (fun c37 => absurd c37 (fun z => absurd (e0.symm.trans z) (by decide)))
    refine lv_ldcw (v := 41234044) hx hb hown (hT _ w1148) (fh_d d_Mo_spaceBetween 32 rfl) ?_
    refine lv_istore_n (lv' := [(2, .int 41234044), (0, .int (nI p0)), (1, .int (nI q0))]) hx hb (fh_d d_Mo_spaceBetween 33 rfl) rfl hl (by decide) rfl (fun ls hl => ?_)
    refine lv_bipush (v := 7) hx hb (fh_d d_Mo_spaceBetween 34 rfl) (by decide) ?_
    refine lv_istore_n (lv' := [(3, .int 7), (2, .int 41234044), (0, .int (nI p0)), (1, .int (nI q0))]) hx hb (fh_d d_Mo_spaceBetween 35 rfl) rfl hl (by decide) rfl (fun ls hl => ?_)
    exact loop (7 - q0) 41234044 (by omega) (by rw [hp]; rfl) H _ _ hP hS (by rw [show q0 + (7 - q0) = 7 by omega]; exact lv_sub hl [1, 0, 2, 3] rfl)

def tr1 (bf so : Int32) : Int32 := if so = 2 ∧ (bf < 0 ∨ bf = 2 ∨ bf = 1 ∨ bf = 3 ∨ bf = 4 ∨ bf = 6) then 0 else so
def tr2 (be bh : Int32) : Int32 := if be = 2 ∧ (bh = 3 ∨ bh = 5 ∨ bh = 6) then 0 else be
def rl1 : List Nat → Int32 → (Nat → Nat → Int32) → Nat → Nat → Int32
  | [], _, A => A
  | i :: t, bf, A => rl1 t (tr1 bf (A 4 i)) (up2 A 33 (upd (A 33) i (tr1 bf (A 4 i))))
def bhd (A : Nat → Nat → Int32) : List Nat → Int32
  | [] => 5
  | j :: _ => A 33 j
def rl2 : List Nat → (Nat → Nat → Int32) → Nat → Nat → Int32
  | [], A => A
  | i :: t, A => rl2 t (up2 A 33 (upd (A 33) i (tr2 (A 33 i) (bhd A t))))
def rl0 (n0 : Nat) (A : Nat → Nat → Int32) : Nat → Nat → Int32 := up2 (up2 (up2 A 22 (upd (A 22) n0 0)) 23 (upd (A 23) n0 0)) 24 (upd (A 24) n0 0)
def sp3 (s0 : Nat) (v : Int32) : Int32 := if v = 1 then yS s0 else if v = 0 ∨ 1 < s0 then 0 else if v = 2 then 4 * yS s0 / 3 else if v = 3 then 5 * yS s0 / 3 else yS s0
def spv (A : Nat → Nat → Int32) (i : Nat) : List Nat → Int32
  | [] => 0
  | j :: _ => spR (ixI (A 33 i)) (ixI (A 33 j))
def rl3s (n0 i : Nat) (A : Nat → Nat → Int32) (z : Int32) : Nat → Nat → Int32 := up2 (up2 (up2 (up2 (up2 A 29 (upd (A 29) i (A 22 n0))) 30 (upd (A 30) i 0)) 22 (upd (A 22) n0 (A 22 n0 + (A 25 i + z)))) 23 (upd (A 23) n0 (ms (A 23 n0) (A 26 i)))) 24 (upd (A 24) n0 (ms (A 24 n0) (A 27 i)))
def rl3 (n0 s0 : Nat) : List Nat → (Nat → Nat → Int32) → Nat → Nat → Int32
  | [], A => A
  | i :: t, A => rl3 n0 s0 t (rl3s n0 i A (sp3 s0 (spv A i t)))
def rf_li (A : Nat → Nat → Int32) (n0 s0 : Nat) (cs : List Nat) : Nat → Nat → Int32 := rl3 n0 s0 cs (rl0 n0 (rl2 cs (rl1 cs (-1) A)))
theorem rl1_k {k : Nat} (h : k ≠ 33) : ∀ (t : List Nat) (bf : Int32) (A : Nat → Nat → Int32), rl1 t bf A k = A k
  | [], _, _ => rfl
  | i :: t, bf, A => (rl1_k h t _ _).trans (if_neg h)
theorem rl2_k {k : Nat} (h : k ≠ 33) : ∀ (t : List Nat) (A : Nat → Nat → Int32), rl2 t A k = A k
  | [], _ => rfl
  | i :: t, A => (rl2_k h t _).trans (if_neg h)
abbrev be8 (A : Nat → Nat → Int32) (j : Nat) : Prop := ∃ p, p < 8 ∧ A 33 j = nI p
theorem tr1_8 {bf so : Int32} (h : ∃ p, p < 8 ∧ so = nI p) : ∃ p, p < 8 ∧ tr1 bf so = nI p := by
  unfold tr1; split
  · exact ⟨0, by decide, rfl⟩
  · exact h
theorem tr2_8 {bf so : Int32} (h : ∃ p, p < 8 ∧ so = nI p) : ∃ p, p < 8 ∧ tr2 so bf = nI p := by
  unfold tr2; split
  · exact ⟨0, by decide, rfl⟩
  · exact h
theorem up33_8 {A : Nat → Nat → Int32} {i j : Nat} {v : Int32} (hv : ∃ p, p < 8 ∧ v = nI p) (hj : be8 A j ∨ j = i) : be8 (up2 A 33 (upd (A 33) i v)) j := by
  show ∃ p, p < 8 ∧ upd (A 33) i v j = nI p
  by_cases e : j = i
  · rw [e, upd_s]; exact hv
  · rw [upd_n e]; exact hj.elim id (fun z => absurd z e)
theorem rl1_8 : ∀ (t : List Nat) (bf : Int32) (A : Nat → Nat → Int32), (∀ i ∈ t, ∃ p, p < 8 ∧ A 4 i = nI p) → ∀ j, (be8 A j ∨ j ∈ t) → be8 (rl1 t bf A) j
  | [], _, _, _, j, h => h.elim id (fun z => absurd z (List.not_mem_nil))
  | i :: t, bf, A, hs, j, h => rl1_8 t (tr1 bf (A 4 i)) (up2 A 33 (upd (A 33) i (tr1 bf (A 4 i)))) (fun q hq => hs q (List.mem_cons_of_mem _ hq)) j (by
      by_cases e : j = i
      · exact Or.inl (up33_8 (tr1_8 (hs i List.mem_cons_self)) (Or.inr e))
      · rcases h with h | h
        · exact Or.inl (up33_8 (tr1_8 (hs i List.mem_cons_self)) (Or.inl h))
        · exact Or.inr ((List.mem_cons.mp h).resolve_left e))
theorem rl2_8 : ∀ (t : List Nat) (A : Nat → Nat → Int32), (∀ i ∈ t, be8 A i) → ∀ j, be8 A j → be8 (rl2 t A) j
  | [], _, _, _, h => h
  | i :: t, A, hs, j, h => rl2_8 t (up2 A 33 (upd (A 33) i (tr2 (A 33 i) (bhd A t)))) (fun q hq => up33_8 (tr2_8 (hs i List.mem_cons_self)) (Or.inl (hs q (List.mem_cons_of_mem _ hq)))) j (up33_8 (tr2_8 (hs i List.mem_cons_self)) (Or.inl h))
set_option maxHeartbeats 4000000 in
set_option maxRecDepth 100000 in
theorem m_Mo_setList (l : Launch) (D : va_G) (ct : Nat → ClassId) (b : Nat) (RO : State → Prop) (hR : fh_R b RO) (r : Nat) (hr : 2 ≤ r) (n x : Nat) (g : fh_H) (A : Nat → Nat → Int32) (th co at_ wr no nu op pi wi he de : Int32) (n0 : Nat) (hn0 : n0 < 400) (s0 : Nat) (hs0 : s0 < 4) (h20 : A 20 n0 = nI s0) (cs : List Nat) (h6 : A 6 n0 = nI (hdz cs)) (hnx : nxA (A 7) cs) (hso : ∀ i ∈ cs, ∃ p, p < 8 ∧ A 4 i = nI p) : fh_C l D fh_cl (fh_tys ct) b RO y_Mo_setList (Cond.code y_Mo_setList c_Mo_setList 7 (Option.none : Option FieldType) :: fh_T) (fh_rm r 0 0) [.ref x, .int (nI n0)] (mkM ct x g A th co at_ wr no nu op pi wi he de) n (fun v h' n' => v = none ∧ h' = mkM ct x g (rf_li A n0 s0 cs) th co at_ wr no nu op pi wi he de ∧ n' = n) 0 0 := by
  refine fh_enter (by decide) (Nat.le_of_ble_eq_true rfl) [(0, .ref x), (1, .int (nI n0))] rfl ?_
  intro p e s m args below meth c H ls X hP hS hl
  have hx := X.1
  have hb := X.2.1
  have hml := X.2.2.1
  have hown : s.vm.findClass "FormulaSetterModel" = some m.cls := X.2.2.2.1
  have hT := X.2.2.2.2.1
  have hK := X.2.2.2.2.2.1
  have hRO := X.2.2.2.2.2.2.1
  have hnm : meth.name = "setList" := X.2.2.2.2.2.2.2.2.2.2
  have l3 : ∀ (t : List Nat)  (A1 : Nat → Nat → Int32), nxA (A 7) t → A1 7 = A 7 → A1 20 = A 20 → (∀ i ∈ t, be8 A1 i) → rl3 n0 s0 t A1 = rf_li A n0 s0 cs → ∀ (H : Heap) (locs : List Loc) (ls : Array Slot), fh_P D fh_cl b (mkM ct x g A1 th co at_ wr no nu op pi wi he de) n H → va_S (fh_A b) s.heap H locs → lv_has ls 7 [(4, .int (nI (hdz t))), (3, .int (yS s0)), (0, .ref x), (1, .int (nI n0))] → W p l e (fh_rm r 0 0) s m args below meth c H locs 0 0 (MQ below (fh_Post D fh_cl b (fun v h' n' => v = none ∧ h' = mkM ct x g (rf_li A n0 s0 cs) th co at_ wr no nu op pi wi he de ∧ n' = n)) args s 0 0 (fh_A b)) (F0 m 229 ls []) := by
    intro t
    induction t with
    | nil =>
      intro A1 hnt h7 h20a hbe hfo H locs ls hP hS hl
      have hl : lv_has ls 7 [(4, .int (nI 0)), (3, .int (yS s0)), (0, .ref x), (1, .int (nI n0))] := hl
      refine lv_iload hx hb (fh_d d_Mo_setList 138 rfl) (lv_at hl 0 rfl) ?_
      refine lv_if_le (tgt := 428) hx hb (fh_d d_Mo_setList 139 rfl) rfl (fun c1 => ?_) (fun c1 => absurd c1 (fun z => z (by decide)))
      exact fh_vret X hP hS (fh_d d_Mo_setList 253 rfl) ⟨rfl, by rw [← hfo]; rfl, rfl⟩
    | cons i t ih =>
      intro A1 hnt h7 h20a hbe hfo H locs ls hP hS hl
      obtain ⟨p9, hp9, ep9⟩ := hbe i List.mem_cons_self
      rcases t with _ | ⟨j, t⟩
      · skip
        have hl : lv_has ls 7 [(4, .int (nI i)), (3, .int (yS s0)), (0, .ref x), (1, .int (nI n0))] := hl
        refine lv_iload hx hb (fh_d d_Mo_setList 138 rfl) (lv_at hl 0 rfl) ?_
        refine lv_if_le (tgt := 428) hx hb (fh_d d_Mo_setList 139 rfl) rfl (fun c2 => absurd c2 (nI_np hnt.1)) (fun c2 => ?_)
        refine lv_aload_n hx hb (fh_d d_Mo_setList 140 rfl) rfl (lv_at hl 2 rfl) ?_
        refine fh_get (own := "FormulaSetterModel") (ref := "FormulaSetterModel") (C := "FormulaSetterModel") (T := T_Mo) (N := 53) (v := .ref (x + 30)) hx hb hT i_Mo hown hK hP mkM_o rfl 36 (by decide) (hT _ w896) (fun _ h9 => h9) rfl (fh_d d_Mo_setList 141 rfl) ?_
        refine lv_iload hx hb (fh_d d_Mo_setList 142 rfl) (lv_at hl 0 rfl) ?_
        refine lv_aload_n hx hb (fh_d d_Mo_setList 143 rfl) rfl (lv_at hl 2 rfl) ?_
        refine fh_get (own := "FormulaSetterModel") (ref := "FormulaSetterModel") (C := "FormulaSetterModel") (T := T_Mo) (N := 53) (v := .ref (x + 23)) hx hb hT i_Mo hown hK hP mkM_o rfl 29 (by decide) (hT _ w889) (fun _ h9 => h9) rfl (fh_d d_Mo_setList 144 rfl) ?_
        refine lv_iload_n hx hb (fh_d d_Mo_setList 145 rfl) rfl (lv_at hl 3 rfl) ?_
        refine fn_iald (f := A1 22) (k := n0) hx hb hK hP 0 mkM_a22 rfl (rfl) (by omega) (by decide) (fh_d d_Mo_setList 146 rfl) ?_
        refine fn_iast (f := A1 29) (k := i) hx hb hK hP hS 0 mkM_a29 rfl (rfl) (hnt.1.2) (by decide) (fh_d d_Mo_setList 147 rfl) (fun H locs hP hS => ?_)
        replace hP := fh_P.eq (h' := mkM ct x g (up2 A1 29 (upd (A1 29) i ((A1 22) n0))) th co at_ wr no nu op pi wi he de) hP mkM_u29
        refine lv_aload_n hx hb (fh_d d_Mo_setList 148 rfl) rfl (lv_at hl 2 rfl) ?_
        refine fh_get (own := "FormulaSetterModel") (ref := "FormulaSetterModel") (C := "FormulaSetterModel") (T := T_Mo) (N := 53) (v := .ref (x + 31)) hx hb hT i_Mo hown hK hP mkM_o rfl 37 (by decide) (hT _ w897) (fun _ h9 => h9) rfl (fh_d d_Mo_setList 149 rfl) ?_
        refine lv_iload hx hb (fh_d d_Mo_setList 150 rfl) (lv_at hl 0 rfl) ?_
        refine lv_iconst (v := 0) hx hb (fh_d d_Mo_setList 151 rfl) (by decide) ?_
        refine fn_iast (f := A1 30) (k := i) hx hb hK hP hS 0 mkM_a30 rfl (rfl) (hnt.1.2) (by decide) (fh_d d_Mo_setList 152 rfl) (fun H locs hP hS => ?_)
        replace hP := fh_P.eq (h' := mkM ct x g (up2 (up2 A1 29 (upd (A1 29) i ((A1 22) n0))) 30 (upd (A1 30) i 0)) th co at_ wr no nu op pi wi he de) hP mkM_u30
        refine lv_aload_n hx hb (fh_d d_Mo_setList 153 rfl) rfl (lv_at hl 2 rfl) ?_
        refine fh_get (own := "FormulaSetterModel") (ref := "FormulaSetterModel") (C := "FormulaSetterModel") (T := T_Mo) (N := 53) (v := .ref (x + 8)) hx hb hT i_Mo hown hK hP mkM_o rfl 13 (by decide) (hT _ w873) (fun _ h9 => h9) rfl (fh_d d_Mo_setList 154 rfl) ?_
        refine lv_iload hx hb (fh_d d_Mo_setList 155 rfl) (lv_at hl 0 rfl) ?_
        refine fn_iald (f := A1 7) (k := i) hx hb hK hP 0 mkM_a7 rfl (rfl) (hnt.1.2) (by decide) (fh_d d_Mo_setList 156 rfl) ?_
        rw [show ((A1 7) i) = nI 0 from (congrFun h7 i).trans hnt.2.1]
        refine lv_if_ne (tgt := 269) hx hb (fh_d d_Mo_setList 157 rfl) rfl (fun c3 => absurd c3 (Classical.not_not.mpr rfl)) (fun c3 => ?_)
        refine lv_iconst (v := 0) hx hb (fh_d d_Mo_setList 158 rfl) (by decide) ?_
        refine lv_goto (tgt := 291) hx hb (fh_d d_Mo_setList 159 rfl) rfl ?_
        refine lv_istore (lv' := [(5, .int 0), (4, .int (nI i)), (3, .int (yS s0)), (0, .ref x), (1, .int (nI n0))]) hx hb (fh_d d_Mo_setList 172 rfl) hl (by decide) rfl (fun ls hl => ?_)
        refine lv_iload hx hb (fh_d d_Mo_setList 173 rfl) (lv_at hl 0 rfl) ?_
        refine lv_iconst (v := 1) hx hb (fh_d d_Mo_setList 174 rfl) (by decide) ?_
        refine lv_icmp_ne (tgt := 303) hx hb (fh_d d_Mo_setList 175 rfl) rfl (fun c4 => ?_) (fun c4 => absurd c4 (by decide))
        refine lv_iload hx hb (fh_d d_Mo_setList 178 rfl) (lv_at hl 0 rfl) ?_
        refine lv_if_eq (tgt := 318) hx hb (fh_d d_Mo_setList 179 rfl) rfl (fun c5 => ?_) (fun c5 => absurd c5 (Classical.not_not.mpr (by decide)))
        refine lv_iconst (v := 0) hx hb (fh_d d_Mo_setList 186 rfl) (by decide) ?_
        refine lv_goto (tgt := 351) hx hb (fh_d d_Mo_setList 187 rfl) rfl ?_
        refine lv_istore (lv' := [(6, .int 0), (5, .int 0), (4, .int (nI i)), (3, .int (yS s0)), (0, .ref x), (1, .int (nI n0))]) hx hb (fh_d d_Mo_setList 207 rfl) hl (by decide) rfl (fun ls hl => ?_)
        refine lv_aload_n hx hb (fh_d d_Mo_setList 208 rfl) rfl (lv_at hl 4 rfl) ?_
        refine fh_get (own := "FormulaSetterModel") (ref := "FormulaSetterModel") (C := "FormulaSetterModel") (T := T_Mo) (N := 53) (v := .ref (x + 23)) hx hb hT i_Mo hown hK hP mkM_o rfl 29 (by decide) (hT _ w889) (fun _ h9 => h9) rfl (fh_d d_Mo_setList 209 rfl) ?_
        refine lv_iload_n hx hb (fh_d d_Mo_setList 210 rfl) rfl (lv_at hl 5 rfl) ?_
        refine lv_dup2_11 hx hb (fh_d d_Mo_setList 211 rfl) rfl rfl ?_
        refine fn_iald (f := A1 22) (k := n0) hx hb hK hP 0 mkM_a22 rfl (rfl) (by omega) (by decide) (fh_d d_Mo_setList 212 rfl) ?_
        refine lv_aload_n hx hb (fh_d d_Mo_setList 213 rfl) rfl (lv_at hl 4 rfl) ?_
        refine fh_get (own := "FormulaSetterModel") (ref := "FormulaSetterModel") (C := "FormulaSetterModel") (T := T_Mo) (N := 53) (v := .ref (x + 26)) hx hb hT i_Mo hown hK hP mkM_o rfl 32 (by decide) (hT _ w892) (fun _ h9 => h9) rfl (fh_d d_Mo_setList 214 rfl) ?_
        refine lv_iload hx hb (fh_d d_Mo_setList 215 rfl) (lv_at hl 2 rfl) ?_
        refine fn_iald (f := A1 25) (k := i) hx hb hK hP 0 mkM_a25 rfl (rfl) (hnt.1.2) (by decide) (fh_d d_Mo_setList 216 rfl) ?_
        refine lv_iload hx hb (fh_d d_Mo_setList 217 rfl) (lv_at hl 0 rfl) ?_
        refine lv_iadd hx hb (fh_d d_Mo_setList 218 rfl) ?_
        refine lv_iadd hx hb (fh_d d_Mo_setList 219 rfl) ?_
        refine fn_iast (f := A1 22) (k := n0) hx hb hK hP hS 0 mkM_a22 rfl (rfl) (by omega) (by decide) (fh_d d_Mo_setList 220 rfl) (fun H locs hP hS => ?_)
        replace hP := fh_P.eq (h' := mkM ct x g (up2 (up2 (up2 A1 29 (upd (A1 29) i ((A1 22) n0))) 30 (upd (A1 30) i 0)) 22 (upd (A1 22) n0 (((A1 22) n0) + (((A1 25) i) + 0)))) th co at_ wr no nu op pi wi he de) hP mkM_u22
        refine lv_aload_n hx hb (fh_d d_Mo_setList 221 rfl) rfl (lv_at hl 4 rfl) ?_
        refine fh_get (own := "FormulaSetterModel") (ref := "FormulaSetterModel") (C := "FormulaSetterModel") (T := T_Mo) (N := 53) (v := .ref (x + 24)) hx hb hT i_Mo hown hK hP mkM_o rfl 30 (by decide) (hT _ w890) (fun _ h9 => h9) rfl (fh_d d_Mo_setList 222 rfl) ?_
        refine lv_iload_n hx hb (fh_d d_Mo_setList 223 rfl) rfl (lv_at hl 5 rfl) ?_
        refine lv_aload_n hx hb (fh_d d_Mo_setList 224 rfl) rfl (lv_at hl 4 rfl) ?_
        refine fh_get (own := "FormulaSetterModel") (ref := "FormulaSetterModel") (C := "FormulaSetterModel") (T := T_Mo) (N := 53) (v := .ref (x + 24)) hx hb hT i_Mo hown hK hP mkM_o rfl 30 (by decide) (hT _ w890) (fun _ h9 => h9) rfl (fh_d d_Mo_setList 225 rfl) ?_
        refine lv_iload_n hx hb (fh_d d_Mo_setList 226 rfl) rfl (lv_at hl 5 rfl) ?_
        refine fn_iald (f := A1 23) (k := n0) hx hb hK hP 0 mkM_a23 rfl (rfl) (by omega) (by decide) (fh_d d_Mo_setList 227 rfl) ?_
        refine lv_aload_n hx hb (fh_d d_Mo_setList 228 rfl) rfl (lv_at hl 4 rfl) ?_
        refine fh_get (own := "FormulaSetterModel") (ref := "FormulaSetterModel") (C := "FormulaSetterModel") (T := T_Mo) (N := 53) (v := .ref (x + 27)) hx hb hT i_Mo hown hK hP mkM_o rfl 33 (by decide) (hT _ w893) (fun _ h9 => h9) rfl (fh_d d_Mo_setList 229 rfl) ?_
        refine lv_iload hx hb (fh_d d_Mo_setList 230 rfl) (lv_at hl 2 rfl) ?_
        refine fn_iald (f := A1 26) (k := i) hx hb hK hP 0 mkM_a26 rfl (rfl) (hnt.1.2) (by decide) (fh_d d_Mo_setList 231 rfl) ?_
        refine fh_callS (cc' := c_Mo_most) (nL' := 2) (rest := [.int (nI n0), .ref (x + 24)]) (av := [.int ((A1 23) n0), .int ((A1 26) i)]) X hR (m_Mo_most l D ct b RO (r - 1) n ((A1 23) n0) ((A1 26) i) (mkM ct x g (up2 (up2 (up2 A1 29 (upd (A1 29) i ((A1 22) n0))) 30 (upd (A1 30) i 0)) 22 (upd (A1 22) n0 (((A1 22) n0) + (((A1 25) i) + 0)))) th co at_ wr no nu op pi wi he de)) w1151 w1149 w1150 w9 ⟨by decide, by decide, by show _ = some 2; decide +kernel⟩ (by omega) (by decide) hP hS hl.1 rfl (by exact Nat.le_of_ble_eq_true rfl) (fh_d d_Mo_setList 232 rfl) ⟨Nat.le_refl _, Nat.le_refl _⟩ (fun v9 h9 n9 H locs hq hP hS => ?_)
        obtain ⟨rfl, q6a, q6b⟩ := hq
        rw [q6a, q6b] at hP
        refine W.eq (g2 := F0 m 393 ls [.int (ms ((A1 23) n0) ((A1 26) i)), .int (nI n0), .ref (x + 24)]) rfl ?_
        refine fn_iast (f := A1 23) (k := n0) hx hb hK hP hS 0 mkM_a23 rfl (rfl) (by omega) (by decide) (fh_d d_Mo_setList 233 rfl) (fun H locs hP hS => ?_)
        replace hP := fh_P.eq (h' := mkM ct x g (up2 (up2 (up2 (up2 A1 29 (upd (A1 29) i ((A1 22) n0))) 30 (upd (A1 30) i 0)) 22 (upd (A1 22) n0 (((A1 22) n0) + (((A1 25) i) + 0)))) 23 (upd (A1 23) n0 (ms ((A1 23) n0) ((A1 26) i)))) th co at_ wr no nu op pi wi he de) hP mkM_u23
        refine lv_aload_n hx hb (fh_d d_Mo_setList 234 rfl) rfl (lv_at hl 4 rfl) ?_
        refine fh_get (own := "FormulaSetterModel") (ref := "FormulaSetterModel") (C := "FormulaSetterModel") (T := T_Mo) (N := 53) (v := .ref (x + 25)) hx hb hT i_Mo hown hK hP mkM_o rfl 31 (by decide) (hT _ w891) (fun _ h9 => h9) rfl (fh_d d_Mo_setList 235 rfl) ?_
        refine lv_iload_n hx hb (fh_d d_Mo_setList 236 rfl) rfl (lv_at hl 5 rfl) ?_
        refine lv_aload_n hx hb (fh_d d_Mo_setList 237 rfl) rfl (lv_at hl 4 rfl) ?_
        refine fh_get (own := "FormulaSetterModel") (ref := "FormulaSetterModel") (C := "FormulaSetterModel") (T := T_Mo) (N := 53) (v := .ref (x + 25)) hx hb hT i_Mo hown hK hP mkM_o rfl 31 (by decide) (hT _ w891) (fun _ h9 => h9) rfl (fh_d d_Mo_setList 238 rfl) ?_
        refine lv_iload_n hx hb (fh_d d_Mo_setList 239 rfl) rfl (lv_at hl 5 rfl) ?_
        refine fn_iald (f := A1 24) (k := n0) hx hb hK hP 0 mkM_a24 rfl (rfl) (by omega) (by decide) (fh_d d_Mo_setList 240 rfl) ?_
        refine lv_aload_n hx hb (fh_d d_Mo_setList 241 rfl) rfl (lv_at hl 4 rfl) ?_
        refine fh_get (own := "FormulaSetterModel") (ref := "FormulaSetterModel") (C := "FormulaSetterModel") (T := T_Mo) (N := 53) (v := .ref (x + 28)) hx hb hT i_Mo hown hK hP mkM_o rfl 34 (by decide) (hT _ w894) (fun _ h9 => h9) rfl (fh_d d_Mo_setList 242 rfl) ?_
        refine lv_iload hx hb (fh_d d_Mo_setList 243 rfl) (lv_at hl 2 rfl) ?_
        refine fn_iald (f := A1 27) (k := i) hx hb hK hP 0 mkM_a27 rfl (rfl) (hnt.1.2) (by decide) (fh_d d_Mo_setList 244 rfl) ?_
        refine fh_callS (cc' := c_Mo_most) (nL' := 2) (rest := [.int (nI n0), .ref (x + 25)]) (av := [.int ((A1 24) n0), .int ((A1 27) i)]) X hR (m_Mo_most l D ct b RO (r - 1) n ((A1 24) n0) ((A1 27) i) (mkM ct x g (up2 (up2 (up2 (up2 A1 29 (upd (A1 29) i ((A1 22) n0))) 30 (upd (A1 30) i 0)) 22 (upd (A1 22) n0 (((A1 22) n0) + (((A1 25) i) + 0)))) 23 (upd (A1 23) n0 (ms ((A1 23) n0) ((A1 26) i)))) th co at_ wr no nu op pi wi he de)) w1151 w1149 w1150 w9 ⟨by decide, by decide, by show _ = some 2; decide +kernel⟩ (by omega) (by decide) hP hS hl.1 rfl (by exact Nat.le_of_ble_eq_true rfl) (fh_d d_Mo_setList 245 rfl) ⟨Nat.le_refl _, Nat.le_refl _⟩ (fun v9 h9 n9 H locs hq hP hS => ?_)
        obtain ⟨rfl, q7a, q7b⟩ := hq
        rw [q7a, q7b] at hP
        refine W.eq (g2 := F0 m 415 ls [.int (ms ((A1 24) n0) ((A1 27) i)), .int (nI n0), .ref (x + 25)]) rfl ?_
        refine fn_iast (f := A1 24) (k := n0) hx hb hK hP hS 0 mkM_a24 rfl (rfl) (by omega) (by decide) (fh_d d_Mo_setList 246 rfl) (fun H locs hP hS => ?_)
        replace hP := fh_P.eq (h' := mkM ct x g (up2 (up2 (up2 (up2 (up2 A1 29 (upd (A1 29) i ((A1 22) n0))) 30 (upd (A1 30) i 0)) 22 (upd (A1 22) n0 (((A1 22) n0) + (((A1 25) i) + 0)))) 23 (upd (A1 23) n0 (ms ((A1 23) n0) ((A1 26) i)))) 24 (upd (A1 24) n0 (ms ((A1 24) n0) ((A1 27) i)))) th co at_ wr no nu op pi wi he de) hP mkM_u24
        refine lv_aload_n hx hb (fh_d d_Mo_setList 247 rfl) rfl (lv_at hl 4 rfl) ?_
        refine fh_get (own := "FormulaSetterModel") (ref := "FormulaSetterModel") (C := "FormulaSetterModel") (T := T_Mo) (N := 53) (v := .ref (x + 8)) hx hb hT i_Mo hown hK hP mkM_o rfl 13 (by decide) (hT _ w873) (fun _ h9 => h9) rfl (fh_d d_Mo_setList 248 rfl) ?_
        refine lv_iload hx hb (fh_d d_Mo_setList 249 rfl) (lv_at hl 2 rfl) ?_
        refine fn_iald (f := A1 7) (k := i) hx hb hK hP 0 mkM_a7 rfl (rfl) (hnt.1.2) (by decide) (fh_d d_Mo_setList 250 rfl) ?_
        rw [show ((A1 7) i) = nI 0 from (congrFun h7 i).trans hnt.2.1]
        refine lv_istore (lv' := [(4, .int (nI 0)), (6, .int 0), (5, .int 0), (3, .int (yS s0)), (0, .ref x), (1, .int (nI n0))]) hx hb (fh_d d_Mo_setList 251 rfl) hl (by decide) rfl (fun ls hl => ?_)
        refine lv_goto (tgt := 229) hx hb (fh_d d_Mo_setList 252 rfl) rfl ?_
        have esp : sp3 s0 (spv A1 i []) = 0 := by
          show sp3 s0 0 = 0; unfold sp3; rw [if_neg (by decide), if_pos (Or.inl rfl)]
        exact ih (rl3s n0 i A1 0) hnt.2.2 h7 h20a (fun q hq => hbe q (List.mem_cons_of_mem _ hq)) ((congrArg (fun z => rl3 n0 s0 [] (rl3s n0 i A1 z)) esp.symm).trans hfo) H locs _ hP hS (lv_sub hl [0, 3, 4, 5] rfl)
      · obtain ⟨q9, hq9, eq9⟩ := hbe j (List.mem_cons_of_mem _ List.mem_cons_self)
        have hl : lv_has ls 7 [(4, .int (nI i)), (3, .int (yS s0)), (0, .ref x), (1, .int (nI n0))] := hl
        refine lv_iload hx hb (fh_d d_Mo_setList 138 rfl) (lv_at hl 0 rfl) ?_
        refine lv_if_le (tgt := 428) hx hb (fh_d d_Mo_setList 139 rfl) rfl (fun c8 => absurd c8 (nI_np hnt.1)) (fun c8 => ?_)
        refine lv_aload_n hx hb (fh_d d_Mo_setList 140 rfl) rfl (lv_at hl 2 rfl) ?_
        refine fh_get (own := "FormulaSetterModel") (ref := "FormulaSetterModel") (C := "FormulaSetterModel") (T := T_Mo) (N := 53) (v := .ref (x + 30)) hx hb hT i_Mo hown hK hP mkM_o rfl 36 (by decide) (hT _ w896) (fun _ h9 => h9) rfl (fh_d d_Mo_setList 141 rfl) ?_
        refine lv_iload hx hb (fh_d d_Mo_setList 142 rfl) (lv_at hl 0 rfl) ?_
        refine lv_aload_n hx hb (fh_d d_Mo_setList 143 rfl) rfl (lv_at hl 2 rfl) ?_
        refine fh_get (own := "FormulaSetterModel") (ref := "FormulaSetterModel") (C := "FormulaSetterModel") (T := T_Mo) (N := 53) (v := .ref (x + 23)) hx hb hT i_Mo hown hK hP mkM_o rfl 29 (by decide) (hT _ w889) (fun _ h9 => h9) rfl (fh_d d_Mo_setList 144 rfl) ?_
        refine lv_iload_n hx hb (fh_d d_Mo_setList 145 rfl) rfl (lv_at hl 3 rfl) ?_
        refine fn_iald (f := A1 22) (k := n0) hx hb hK hP 0 mkM_a22 rfl (rfl) (by omega) (by decide) (fh_d d_Mo_setList 146 rfl) ?_
        refine fn_iast (f := A1 29) (k := i) hx hb hK hP hS 0 mkM_a29 rfl (rfl) (hnt.1.2) (by decide) (fh_d d_Mo_setList 147 rfl) (fun H locs hP hS => ?_)
        replace hP := fh_P.eq (h' := mkM ct x g (up2 A1 29 (upd (A1 29) i ((A1 22) n0))) th co at_ wr no nu op pi wi he de) hP mkM_u29
        refine lv_aload_n hx hb (fh_d d_Mo_setList 148 rfl) rfl (lv_at hl 2 rfl) ?_
        refine fh_get (own := "FormulaSetterModel") (ref := "FormulaSetterModel") (C := "FormulaSetterModel") (T := T_Mo) (N := 53) (v := .ref (x + 31)) hx hb hT i_Mo hown hK hP mkM_o rfl 37 (by decide) (hT _ w897) (fun _ h9 => h9) rfl (fh_d d_Mo_setList 149 rfl) ?_
        refine lv_iload hx hb (fh_d d_Mo_setList 150 rfl) (lv_at hl 0 rfl) ?_
        refine lv_iconst (v := 0) hx hb (fh_d d_Mo_setList 151 rfl) (by decide) ?_
        refine fn_iast (f := A1 30) (k := i) hx hb hK hP hS 0 mkM_a30 rfl (rfl) (hnt.1.2) (by decide) (fh_d d_Mo_setList 152 rfl) (fun H locs hP hS => ?_)
        replace hP := fh_P.eq (h' := mkM ct x g (up2 (up2 A1 29 (upd (A1 29) i ((A1 22) n0))) 30 (upd (A1 30) i 0)) th co at_ wr no nu op pi wi he de) hP mkM_u30
        refine lv_aload_n hx hb (fh_d d_Mo_setList 153 rfl) rfl (lv_at hl 2 rfl) ?_
        refine fh_get (own := "FormulaSetterModel") (ref := "FormulaSetterModel") (C := "FormulaSetterModel") (T := T_Mo) (N := 53) (v := .ref (x + 8)) hx hb hT i_Mo hown hK hP mkM_o rfl 13 (by decide) (hT _ w873) (fun _ h9 => h9) rfl (fh_d d_Mo_setList 154 rfl) ?_
        refine lv_iload hx hb (fh_d d_Mo_setList 155 rfl) (lv_at hl 0 rfl) ?_
        refine fn_iald (f := A1 7) (k := i) hx hb hK hP 0 mkM_a7 rfl (rfl) (hnt.1.2) (by decide) (fh_d d_Mo_setList 156 rfl) ?_
        rw [show ((A1 7) i) = nI j from (congrFun h7 i).trans hnt.2.1]
        refine lv_if_ne (tgt := 269) hx hb (fh_d d_Mo_setList 157 rfl) rfl (fun c9 => ?_) (fun c9 => absurd c9 (fun z => absurd (nI_z4 hnt.2.2.1.2 z) (by have := hnt.2.2.1.1; omega)))
        refine lv_aload_n hx hb (fh_d d_Mo_setList 160 rfl) rfl (lv_at hl 2 rfl) ?_
        refine fh_get (own := "FormulaSetterModel") (ref := "FormulaSetterModel") (C := "FormulaSetterModel") (T := T_Mo) (N := 53) (v := .ref (x + 34)) hx hb hT i_Mo hown hK hP mkM_o rfl 40 (by decide) (hT _ w900) (fun _ h9 => h9) rfl (fh_d d_Mo_setList 161 rfl) ?_
        refine lv_iload hx hb (fh_d d_Mo_setList 162 rfl) (lv_at hl 0 rfl) ?_
        refine fn_iald (f := A1 33) (k := i) hx hb hK hP 0 mkM_a33 rfl (rfl) (hnt.1.2) (by decide) (fh_d d_Mo_setList 163 rfl) ?_
        rw [show ((A1 33) i) = nI p9 from ep9]
        refine lv_aload_n hx hb (fh_d d_Mo_setList 164 rfl) rfl (lv_at hl 2 rfl) ?_
        refine fh_get (own := "FormulaSetterModel") (ref := "FormulaSetterModel") (C := "FormulaSetterModel") (T := T_Mo) (N := 53) (v := .ref (x + 34)) hx hb hT i_Mo hown hK hP mkM_o rfl 40 (by decide) (hT _ w900) (fun _ h9 => h9) rfl (fh_d d_Mo_setList 165 rfl) ?_
        refine lv_aload_n hx hb (fh_d d_Mo_setList 166 rfl) rfl (lv_at hl 2 rfl) ?_
        refine fh_get (own := "FormulaSetterModel") (ref := "FormulaSetterModel") (C := "FormulaSetterModel") (T := T_Mo) (N := 53) (v := .ref (x + 8)) hx hb hT i_Mo hown hK hP mkM_o rfl 13 (by decide) (hT _ w873) (fun _ h9 => h9) rfl (fh_d d_Mo_setList 167 rfl) ?_
        refine lv_iload hx hb (fh_d d_Mo_setList 168 rfl) (lv_at hl 0 rfl) ?_
        refine fn_iald (f := A1 7) (k := i) hx hb hK hP 0 mkM_a7 rfl (rfl) (hnt.1.2) (by decide) (fh_d d_Mo_setList 169 rfl) ?_
        rw [show ((A1 7) i) = nI j from (congrFun h7 i).trans hnt.2.1]
        refine fn_iald (f := A1 33) (k := j) hx hb hK hP 0 mkM_a33 rfl (rfl) (hnt.2.2.1.2) (by decide) (fh_d d_Mo_setList 170 rfl) ?_
        rw [show ((A1 33) j) = nI q9 from eq9]
        refine fh_callS (cc' := c_Mo_spaceBetween) (nL' := 4) (rest := []) (av := [.int (nI p9), .int (nI q9)]) X hR (m_Mo_spaceBetween l D ct b RO (r - 1) n p9 q9 hp9 hq9 (mkM ct x g (up2 (up2 A1 29 (upd (A1 29) i ((A1 22) n0))) 30 (upd (A1 30) i 0)) th co at_ wr no nu op pi wi he de)) w1142 w1140 w1141 w9 ⟨by decide, by decide, by show _ = some 2; decide +kernel⟩ (by omega) (by decide) hP hS hl.1 rfl (by exact Nat.le_of_ble_eq_true rfl) (fh_d d_Mo_setList 171 rfl) ⟨Nat.le_refl _, Nat.le_refl _⟩ (fun v9 h9 n9 H locs hq hP hS => ?_)
        obtain ⟨rfl, q10a, q10b⟩ := hq
        rw [q10a, q10b] at hP
        refine W.eq (g2 := F0 m 291 ls [.int (spR p9 q9)]) rfl ?_
        refine lv_istore (lv' := [(5, .int (spR p9 q9)), (4, .int (nI i)), (3, .int (yS s0)), (0, .ref x), (1, .int (nI n0))]) hx hb (fh_d d_Mo_setList 172 rfl) hl (by decide) rfl (fun ls hl => ?_)
        refine lv_iload hx hb (fh_d d_Mo_setList 173 rfl) (lv_at hl 0 rfl) ?_
        refine lv_iconst (v := 1) hx hb (fh_d d_Mo_setList 174 rfl) (by decide) ?_
        refine lv_icmp_ne (tgt := 303) hx hb (fh_d d_Mo_setList 175 rfl) rfl (fun c11 => ?_) (fun c11 => ?_)
        · refine lv_iload hx hb (fh_d d_Mo_setList 178 rfl) (lv_at hl 0 rfl) ?_
          refine lv_if_eq (tgt := 318) hx hb (fh_d d_Mo_setList 179 rfl) rfl (fun c12 => ?_) (fun c12 => ?_)
          · refine lv_iconst (v := 0) hx hb (fh_d d_Mo_setList 186 rfl) (by decide) ?_
            refine lv_goto (tgt := 351) hx hb (fh_d d_Mo_setList 187 rfl) rfl ?_
            refine lv_istore (lv' := [(6, .int 0), (5, .int (spR p9 q9)), (4, .int (nI i)), (3, .int (yS s0)), (0, .ref x), (1, .int (nI n0))]) hx hb (fh_d d_Mo_setList 207 rfl) hl (by decide) rfl (fun ls hl => ?_)
            refine lv_aload_n hx hb (fh_d d_Mo_setList 208 rfl) rfl (lv_at hl 4 rfl) ?_
            refine fh_get (own := "FormulaSetterModel") (ref := "FormulaSetterModel") (C := "FormulaSetterModel") (T := T_Mo) (N := 53) (v := .ref (x + 23)) hx hb hT i_Mo hown hK hP mkM_o rfl 29 (by decide) (hT _ w889) (fun _ h9 => h9) rfl (fh_d d_Mo_setList 209 rfl) ?_
            refine lv_iload_n hx hb (fh_d d_Mo_setList 210 rfl) rfl (lv_at hl 5 rfl) ?_
            refine lv_dup2_11 hx hb (fh_d d_Mo_setList 211 rfl) rfl rfl ?_
            refine fn_iald (f := A1 22) (k := n0) hx hb hK hP 0 mkM_a22 rfl (rfl) (by omega) (by decide) (fh_d d_Mo_setList 212 rfl) ?_
            refine lv_aload_n hx hb (fh_d d_Mo_setList 213 rfl) rfl (lv_at hl 4 rfl) ?_
            refine fh_get (own := "FormulaSetterModel") (ref := "FormulaSetterModel") (C := "FormulaSetterModel") (T := T_Mo) (N := 53) (v := .ref (x + 26)) hx hb hT i_Mo hown hK hP mkM_o rfl 32 (by decide) (hT _ w892) (fun _ h9 => h9) rfl (fh_d d_Mo_setList 214 rfl) ?_
            refine lv_iload hx hb (fh_d d_Mo_setList 215 rfl) (lv_at hl 2 rfl) ?_
            refine fn_iald (f := A1 25) (k := i) hx hb hK hP 0 mkM_a25 rfl (rfl) (hnt.1.2) (by decide) (fh_d d_Mo_setList 216 rfl) ?_
            refine lv_iload hx hb (fh_d d_Mo_setList 217 rfl) (lv_at hl 0 rfl) ?_
            refine lv_iadd hx hb (fh_d d_Mo_setList 218 rfl) ?_
            refine lv_iadd hx hb (fh_d d_Mo_setList 219 rfl) ?_
            refine fn_iast (f := A1 22) (k := n0) hx hb hK hP hS 0 mkM_a22 rfl (rfl) (by omega) (by decide) (fh_d d_Mo_setList 220 rfl) (fun H locs hP hS => ?_)
            replace hP := fh_P.eq (h' := mkM ct x g (up2 (up2 (up2 A1 29 (upd (A1 29) i ((A1 22) n0))) 30 (upd (A1 30) i 0)) 22 (upd (A1 22) n0 (((A1 22) n0) + (((A1 25) i) + 0)))) th co at_ wr no nu op pi wi he de) hP mkM_u22
            refine lv_aload_n hx hb (fh_d d_Mo_setList 221 rfl) rfl (lv_at hl 4 rfl) ?_
            refine fh_get (own := "FormulaSetterModel") (ref := "FormulaSetterModel") (C := "FormulaSetterModel") (T := T_Mo) (N := 53) (v := .ref (x + 24)) hx hb hT i_Mo hown hK hP mkM_o rfl 30 (by decide) (hT _ w890) (fun _ h9 => h9) rfl (fh_d d_Mo_setList 222 rfl) ?_
            refine lv_iload_n hx hb (fh_d d_Mo_setList 223 rfl) rfl (lv_at hl 5 rfl) ?_
            refine lv_aload_n hx hb (fh_d d_Mo_setList 224 rfl) rfl (lv_at hl 4 rfl) ?_
            refine fh_get (own := "FormulaSetterModel") (ref := "FormulaSetterModel") (C := "FormulaSetterModel") (T := T_Mo) (N := 53) (v := .ref (x + 24)) hx hb hT i_Mo hown hK hP mkM_o rfl 30 (by decide) (hT _ w890) (fun _ h9 => h9) rfl (fh_d d_Mo_setList 225 rfl) ?_
            refine lv_iload_n hx hb (fh_d d_Mo_setList 226 rfl) rfl (lv_at hl 5 rfl) ?_
            refine fn_iald (f := A1 23) (k := n0) hx hb hK hP 0 mkM_a23 rfl (rfl) (by omega) (by decide) (fh_d d_Mo_setList 227 rfl) ?_
            refine lv_aload_n hx hb (fh_d d_Mo_setList 228 rfl) rfl (lv_at hl 4 rfl) ?_
            refine fh_get (own := "FormulaSetterModel") (ref := "FormulaSetterModel") (C := "FormulaSetterModel") (T := T_Mo) (N := 53) (v := .ref (x + 27)) hx hb hT i_Mo hown hK hP mkM_o rfl 33 (by decide) (hT _ w893) (fun _ h9 => h9) rfl (fh_d d_Mo_setList 229 rfl) ?_
            refine lv_iload hx hb (fh_d d_Mo_setList 230 rfl) (lv_at hl 2 rfl) ?_
            refine fn_iald (f := A1 26) (k := i) hx hb hK hP 0 mkM_a26 rfl (rfl) (hnt.1.2) (by decide) (fh_d d_Mo_setList 231 rfl) ?_
            refine fh_callS (cc' := c_Mo_most) (nL' := 2) (rest := [.int (nI n0), .ref (x + 24)]) (av := [.int ((A1 23) n0), .int ((A1 26) i)]) X hR (m_Mo_most l D ct b RO (r - 1) n ((A1 23) n0) ((A1 26) i) (mkM ct x g (up2 (up2 (up2 A1 29 (upd (A1 29) i ((A1 22) n0))) 30 (upd (A1 30) i 0)) 22 (upd (A1 22) n0 (((A1 22) n0) + (((A1 25) i) + 0)))) th co at_ wr no nu op pi wi he de)) w1151 w1149 w1150 w9 ⟨by decide, by decide, by show _ = some 2; decide +kernel⟩ (by omega) (by decide) hP hS hl.1 rfl (by exact Nat.le_of_ble_eq_true rfl) (fh_d d_Mo_setList 232 rfl) ⟨Nat.le_refl _, Nat.le_refl _⟩ (fun v9 h9 n9 H locs hq hP hS => ?_)
            obtain ⟨rfl, q13a, q13b⟩ := hq
            rw [q13a, q13b] at hP
            refine W.eq (g2 := F0 m 393 ls [.int (ms ((A1 23) n0) ((A1 26) i)), .int (nI n0), .ref (x + 24)]) rfl ?_
            refine fn_iast (f := A1 23) (k := n0) hx hb hK hP hS 0 mkM_a23 rfl (rfl) (by omega) (by decide) (fh_d d_Mo_setList 233 rfl) (fun H locs hP hS => ?_)
            replace hP := fh_P.eq (h' := mkM ct x g (up2 (up2 (up2 (up2 A1 29 (upd (A1 29) i ((A1 22) n0))) 30 (upd (A1 30) i 0)) 22 (upd (A1 22) n0 (((A1 22) n0) + (((A1 25) i) + 0)))) 23 (upd (A1 23) n0 (ms ((A1 23) n0) ((A1 26) i)))) th co at_ wr no nu op pi wi he de) hP mkM_u23
            refine lv_aload_n hx hb (fh_d d_Mo_setList 234 rfl) rfl (lv_at hl 4 rfl) ?_
            refine fh_get (own := "FormulaSetterModel") (ref := "FormulaSetterModel") (C := "FormulaSetterModel") (T := T_Mo) (N := 53) (v := .ref (x + 25)) hx hb hT i_Mo hown hK hP mkM_o rfl 31 (by decide) (hT _ w891) (fun _ h9 => h9) rfl (fh_d d_Mo_setList 235 rfl) ?_
            refine lv_iload_n hx hb (fh_d d_Mo_setList 236 rfl) rfl (lv_at hl 5 rfl) ?_
            refine lv_aload_n hx hb (fh_d d_Mo_setList 237 rfl) rfl (lv_at hl 4 rfl) ?_
            refine fh_get (own := "FormulaSetterModel") (ref := "FormulaSetterModel") (C := "FormulaSetterModel") (T := T_Mo) (N := 53) (v := .ref (x + 25)) hx hb hT i_Mo hown hK hP mkM_o rfl 31 (by decide) (hT _ w891) (fun _ h9 => h9) rfl (fh_d d_Mo_setList 238 rfl) ?_
            refine lv_iload_n hx hb (fh_d d_Mo_setList 239 rfl) rfl (lv_at hl 5 rfl) ?_
            refine fn_iald (f := A1 24) (k := n0) hx hb hK hP 0 mkM_a24 rfl (rfl) (by omega) (by decide) (fh_d d_Mo_setList 240 rfl) ?_
            refine lv_aload_n hx hb (fh_d d_Mo_setList 241 rfl) rfl (lv_at hl 4 rfl) ?_
            refine fh_get (own := "FormulaSetterModel") (ref := "FormulaSetterModel") (C := "FormulaSetterModel") (T := T_Mo) (N := 53) (v := .ref (x + 28)) hx hb hT i_Mo hown hK hP mkM_o rfl 34 (by decide) (hT _ w894) (fun _ h9 => h9) rfl (fh_d d_Mo_setList 242 rfl) ?_
            refine lv_iload hx hb (fh_d d_Mo_setList 243 rfl) (lv_at hl 2 rfl) ?_
            refine fn_iald (f := A1 27) (k := i) hx hb hK hP 0 mkM_a27 rfl (rfl) (hnt.1.2) (by decide) (fh_d d_Mo_setList 244 rfl) ?_
            refine fh_callS (cc' := c_Mo_most) (nL' := 2) (rest := [.int (nI n0), .ref (x + 25)]) (av := [.int ((A1 24) n0), .int ((A1 27) i)]) X hR (m_Mo_most l D ct b RO (r - 1) n ((A1 24) n0) ((A1 27) i) (mkM ct x g (up2 (up2 (up2 (up2 A1 29 (upd (A1 29) i ((A1 22) n0))) 30 (upd (A1 30) i 0)) 22 (upd (A1 22) n0 (((A1 22) n0) + (((A1 25) i) + 0)))) 23 (upd (A1 23) n0 (ms ((A1 23) n0) ((A1 26) i)))) th co at_ wr no nu op pi wi he de)) w1151 w1149 w1150 w9 ⟨by decide, by decide, by show _ = some 2; decide +kernel⟩ (by omega) (by decide) hP hS hl.1 rfl (by exact Nat.le_of_ble_eq_true rfl) (fh_d d_Mo_setList 245 rfl) ⟨Nat.le_refl _, Nat.le_refl _⟩ (fun v9 h9 n9 H locs hq hP hS => ?_)
            obtain ⟨rfl, q14a, q14b⟩ := hq
            rw [q14a, q14b] at hP
            refine W.eq (g2 := F0 m 415 ls [.int (ms ((A1 24) n0) ((A1 27) i)), .int (nI n0), .ref (x + 25)]) rfl ?_
            refine fn_iast (f := A1 24) (k := n0) hx hb hK hP hS 0 mkM_a24 rfl (rfl) (by omega) (by decide) (fh_d d_Mo_setList 246 rfl) (fun H locs hP hS => ?_)
            replace hP := fh_P.eq (h' := mkM ct x g (up2 (up2 (up2 (up2 (up2 A1 29 (upd (A1 29) i ((A1 22) n0))) 30 (upd (A1 30) i 0)) 22 (upd (A1 22) n0 (((A1 22) n0) + (((A1 25) i) + 0)))) 23 (upd (A1 23) n0 (ms ((A1 23) n0) ((A1 26) i)))) 24 (upd (A1 24) n0 (ms ((A1 24) n0) ((A1 27) i)))) th co at_ wr no nu op pi wi he de) hP mkM_u24
            refine lv_aload_n hx hb (fh_d d_Mo_setList 247 rfl) rfl (lv_at hl 4 rfl) ?_
            refine fh_get (own := "FormulaSetterModel") (ref := "FormulaSetterModel") (C := "FormulaSetterModel") (T := T_Mo) (N := 53) (v := .ref (x + 8)) hx hb hT i_Mo hown hK hP mkM_o rfl 13 (by decide) (hT _ w873) (fun _ h9 => h9) rfl (fh_d d_Mo_setList 248 rfl) ?_
            refine lv_iload hx hb (fh_d d_Mo_setList 249 rfl) (lv_at hl 2 rfl) ?_
            refine fn_iald (f := A1 7) (k := i) hx hb hK hP 0 mkM_a7 rfl (rfl) (hnt.1.2) (by decide) (fh_d d_Mo_setList 250 rfl) ?_
            rw [show ((A1 7) i) = nI j from (congrFun h7 i).trans hnt.2.1]
            refine lv_istore (lv' := [(4, .int (nI j)), (6, .int 0), (5, .int (spR p9 q9)), (3, .int (yS s0)), (0, .ref x), (1, .int (nI n0))]) hx hb (fh_d d_Mo_setList 251 rfl) hl (by decide) rfl (fun ls hl => ?_)
            refine lv_goto (tgt := 229) hx hb (fh_d d_Mo_setList 252 rfl) rfl ?_
            have esp : sp3 s0 (spv A1 i (j :: t)) = 0 := by
              have e9 : spv A1 i (j :: t) = spR p9 q9 := by show spR (ixI (A1 33 i)) (ixI (A1 33 j)) = _; rw [ep9, eq9, show ixI (nI p9) = p9 from nI_clamp (by omega), show ixI (nI q9) = q9 from nI_clamp (by omega)]
              rw [e9]; unfold sp3
              rw [if_neg c11, if_pos (Or.inl c12)]
            exact ih (rl3s n0 i A1 0) hnt.2.2 h7 h20a (fun q hq => hbe q (List.mem_cons_of_mem _ hq)) ((congrArg (fun z => rl3 n0 s0 (j :: t) (rl3s n0 i A1 z)) esp.symm).trans hfo) H locs _ hP hS (lv_sub hl [0, 3, 4, 5] rfl)
          · refine lv_aload_n hx hb (fh_d d_Mo_setList 180 rfl) rfl (lv_at hl 3 rfl) ?_
            refine fh_get (own := "FormulaSetterModel") (ref := "FormulaSetterModel") (C := "FormulaSetterModel") (T := T_Mo) (N := 53) (v := .ref (x + 21)) hx hb hT i_Mo hown hK hP mkM_o rfl 27 (by decide) (hT _ w887) (fun _ h9 => h9) rfl (fh_d d_Mo_setList 181 rfl) ?_
            refine lv_iload_n hx hb (fh_d d_Mo_setList 182 rfl) rfl (lv_at hl 4 rfl) ?_
            refine fn_iald (f := A1 20) (k := n0) hx hb hK hP 0 mkM_a20 rfl (rfl) (by omega) (by decide) (fh_d d_Mo_setList 183 rfl) ?_
            rw [show ((A1 20) n0) = nI s0 from (congrFun h20a n0).trans h20]
            refine lv_iconst (v := 1) hx hb (fh_d d_Mo_setList 184 rfl) (by decide) ?_
            refine lv_icmp_le (tgt := 322) hx hb (fh_d d_Mo_setList 185 rfl) rfl (fun c15 => ?_) (fun c15 => ?_)
            · refine lv_iload hx hb (fh_d d_Mo_setList 188 rfl) (lv_at hl 0 rfl) ?_
              refine lv_iconst (v := 2) hx hb (fh_d d_Mo_setList 189 rfl) (by decide) ?_
              refine lv_icmp_ne (tgt := 336) hx hb (fh_d d_Mo_setList 190 rfl) rfl (fun c16 => ?_) (fun c16 => ?_)
              · refine lv_iload hx hb (fh_d d_Mo_setList 197 rfl) (lv_at hl 0 rfl) ?_
                refine lv_iconst (v := 3) hx hb (fh_d d_Mo_setList 198 rfl) (by decide) ?_
                refine lv_icmp_ne (tgt := 350) hx hb (fh_d d_Mo_setList 199 rfl) rfl (fun c17 => ?_) (fun c17 => ?_)
                · refine lv_iload_n hx hb (fh_d d_Mo_setList 206 rfl) rfl (lv_at hl 2 rfl) ?_
                  refine lv_istore (lv' := [(6, .int (yS s0)), (5, .int (spR p9 q9)), (4, .int (nI i)), (3, .int (yS s0)), (0, .ref x), (1, .int (nI n0))]) hx hb (fh_d d_Mo_setList 207 rfl) hl (by decide) rfl (fun ls hl => ?_)
                  refine lv_aload_n hx hb (fh_d d_Mo_setList 208 rfl) rfl (lv_at hl 4 rfl) ?_
                  refine fh_get (own := "FormulaSetterModel") (ref := "FormulaSetterModel") (C := "FormulaSetterModel") (T := T_Mo) (N := 53) (v := .ref (x + 23)) hx hb hT i_Mo hown hK hP mkM_o rfl 29 (by decide) (hT _ w889) (fun _ h9 => h9) rfl (fh_d d_Mo_setList 209 rfl) ?_
                  refine lv_iload_n hx hb (fh_d d_Mo_setList 210 rfl) rfl (lv_at hl 5 rfl) ?_
                  refine lv_dup2_11 hx hb (fh_d d_Mo_setList 211 rfl) rfl rfl ?_
                  refine fn_iald (f := A1 22) (k := n0) hx hb hK hP 0 mkM_a22 rfl (rfl) (by omega) (by decide) (fh_d d_Mo_setList 212 rfl) ?_
                  refine lv_aload_n hx hb (fh_d d_Mo_setList 213 rfl) rfl (lv_at hl 4 rfl) ?_
                  refine fh_get (own := "FormulaSetterModel") (ref := "FormulaSetterModel") (C := "FormulaSetterModel") (T := T_Mo) (N := 53) (v := .ref (x + 26)) hx hb hT i_Mo hown hK hP mkM_o rfl 32 (by decide) (hT _ w892) (fun _ h9 => h9) rfl (fh_d d_Mo_setList 214 rfl) ?_
                  refine lv_iload hx hb (fh_d d_Mo_setList 215 rfl) (lv_at hl 2 rfl) ?_
                  refine fn_iald (f := A1 25) (k := i) hx hb hK hP 0 mkM_a25 rfl (rfl) (hnt.1.2) (by decide) (fh_d d_Mo_setList 216 rfl) ?_
                  refine lv_iload hx hb (fh_d d_Mo_setList 217 rfl) (lv_at hl 0 rfl) ?_
                  refine lv_iadd hx hb (fh_d d_Mo_setList 218 rfl) ?_
                  refine lv_iadd hx hb (fh_d d_Mo_setList 219 rfl) ?_
                  refine fn_iast (f := A1 22) (k := n0) hx hb hK hP hS 0 mkM_a22 rfl (rfl) (by omega) (by decide) (fh_d d_Mo_setList 220 rfl) (fun H locs hP hS => ?_)
                  replace hP := fh_P.eq (h' := mkM ct x g (up2 (up2 (up2 A1 29 (upd (A1 29) i ((A1 22) n0))) 30 (upd (A1 30) i 0)) 22 (upd (A1 22) n0 (((A1 22) n0) + (((A1 25) i) + (yS s0))))) th co at_ wr no nu op pi wi he de) hP mkM_u22
                  refine lv_aload_n hx hb (fh_d d_Mo_setList 221 rfl) rfl (lv_at hl 4 rfl) ?_
                  refine fh_get (own := "FormulaSetterModel") (ref := "FormulaSetterModel") (C := "FormulaSetterModel") (T := T_Mo) (N := 53) (v := .ref (x + 24)) hx hb hT i_Mo hown hK hP mkM_o rfl 30 (by decide) (hT _ w890) (fun _ h9 => h9) rfl (fh_d d_Mo_setList 222 rfl) ?_
                  refine lv_iload_n hx hb (fh_d d_Mo_setList 223 rfl) rfl (lv_at hl 5 rfl) ?_
                  refine lv_aload_n hx hb (fh_d d_Mo_setList 224 rfl) rfl (lv_at hl 4 rfl) ?_
                  refine fh_get (own := "FormulaSetterModel") (ref := "FormulaSetterModel") (C := "FormulaSetterModel") (T := T_Mo) (N := 53) (v := .ref (x + 24)) hx hb hT i_Mo hown hK hP mkM_o rfl 30 (by decide) (hT _ w890) (fun _ h9 => h9) rfl (fh_d d_Mo_setList 225 rfl) ?_
                  refine lv_iload_n hx hb (fh_d d_Mo_setList 226 rfl) rfl (lv_at hl 5 rfl) ?_
                  refine fn_iald (f := A1 23) (k := n0) hx hb hK hP 0 mkM_a23 rfl (rfl) (by omega) (by decide) (fh_d d_Mo_setList 227 rfl) ?_
                  refine lv_aload_n hx hb (fh_d d_Mo_setList 228 rfl) rfl (lv_at hl 4 rfl) ?_
                  refine fh_get (own := "FormulaSetterModel") (ref := "FormulaSetterModel") (C := "FormulaSetterModel") (T := T_Mo) (N := 53) (v := .ref (x + 27)) hx hb hT i_Mo hown hK hP mkM_o rfl 33 (by decide) (hT _ w893) (fun _ h9 => h9) rfl (fh_d d_Mo_setList 229 rfl) ?_
                  refine lv_iload hx hb (fh_d d_Mo_setList 230 rfl) (lv_at hl 2 rfl) ?_
                  refine fn_iald (f := A1 26) (k := i) hx hb hK hP 0 mkM_a26 rfl (rfl) (hnt.1.2) (by decide) (fh_d d_Mo_setList 231 rfl) ?_
                  refine fh_callS (cc' := c_Mo_most) (nL' := 2) (rest := [.int (nI n0), .ref (x + 24)]) (av := [.int ((A1 23) n0), .int ((A1 26) i)]) X hR (m_Mo_most l D ct b RO (r - 1) n ((A1 23) n0) ((A1 26) i) (mkM ct x g (up2 (up2 (up2 A1 29 (upd (A1 29) i ((A1 22) n0))) 30 (upd (A1 30) i 0)) 22 (upd (A1 22) n0 (((A1 22) n0) + (((A1 25) i) + (yS s0))))) th co at_ wr no nu op pi wi he de)) w1151 w1149 w1150 w9 ⟨by decide, by decide, by show _ = some 2; decide +kernel⟩ (by omega) (by decide) hP hS hl.1 rfl (by exact Nat.le_of_ble_eq_true rfl) (fh_d d_Mo_setList 232 rfl) ⟨Nat.le_refl _, Nat.le_refl _⟩ (fun v9 h9 n9 H locs hq hP hS => ?_)
                  obtain ⟨rfl, q18a, q18b⟩ := hq
                  rw [q18a, q18b] at hP
                  refine W.eq (g2 := F0 m 393 ls [.int (ms ((A1 23) n0) ((A1 26) i)), .int (nI n0), .ref (x + 24)]) rfl ?_
                  refine fn_iast (f := A1 23) (k := n0) hx hb hK hP hS 0 mkM_a23 rfl (rfl) (by omega) (by decide) (fh_d d_Mo_setList 233 rfl) (fun H locs hP hS => ?_)
                  replace hP := fh_P.eq (h' := mkM ct x g (up2 (up2 (up2 (up2 A1 29 (upd (A1 29) i ((A1 22) n0))) 30 (upd (A1 30) i 0)) 22 (upd (A1 22) n0 (((A1 22) n0) + (((A1 25) i) + (yS s0))))) 23 (upd (A1 23) n0 (ms ((A1 23) n0) ((A1 26) i)))) th co at_ wr no nu op pi wi he de) hP mkM_u23
                  refine lv_aload_n hx hb (fh_d d_Mo_setList 234 rfl) rfl (lv_at hl 4 rfl) ?_
                  refine fh_get (own := "FormulaSetterModel") (ref := "FormulaSetterModel") (C := "FormulaSetterModel") (T := T_Mo) (N := 53) (v := .ref (x + 25)) hx hb hT i_Mo hown hK hP mkM_o rfl 31 (by decide) (hT _ w891) (fun _ h9 => h9) rfl (fh_d d_Mo_setList 235 rfl) ?_
                  refine lv_iload_n hx hb (fh_d d_Mo_setList 236 rfl) rfl (lv_at hl 5 rfl) ?_
                  refine lv_aload_n hx hb (fh_d d_Mo_setList 237 rfl) rfl (lv_at hl 4 rfl) ?_
                  refine fh_get (own := "FormulaSetterModel") (ref := "FormulaSetterModel") (C := "FormulaSetterModel") (T := T_Mo) (N := 53) (v := .ref (x + 25)) hx hb hT i_Mo hown hK hP mkM_o rfl 31 (by decide) (hT _ w891) (fun _ h9 => h9) rfl (fh_d d_Mo_setList 238 rfl) ?_
                  refine lv_iload_n hx hb (fh_d d_Mo_setList 239 rfl) rfl (lv_at hl 5 rfl) ?_
                  refine fn_iald (f := A1 24) (k := n0) hx hb hK hP 0 mkM_a24 rfl (rfl) (by omega) (by decide) (fh_d d_Mo_setList 240 rfl) ?_
                  refine lv_aload_n hx hb (fh_d d_Mo_setList 241 rfl) rfl (lv_at hl 4 rfl) ?_
                  refine fh_get (own := "FormulaSetterModel") (ref := "FormulaSetterModel") (C := "FormulaSetterModel") (T := T_Mo) (N := 53) (v := .ref (x + 28)) hx hb hT i_Mo hown hK hP mkM_o rfl 34 (by decide) (hT _ w894) (fun _ h9 => h9) rfl (fh_d d_Mo_setList 242 rfl) ?_
                  refine lv_iload hx hb (fh_d d_Mo_setList 243 rfl) (lv_at hl 2 rfl) ?_
                  refine fn_iald (f := A1 27) (k := i) hx hb hK hP 0 mkM_a27 rfl (rfl) (hnt.1.2) (by decide) (fh_d d_Mo_setList 244 rfl) ?_
                  refine fh_callS (cc' := c_Mo_most) (nL' := 2) (rest := [.int (nI n0), .ref (x + 25)]) (av := [.int ((A1 24) n0), .int ((A1 27) i)]) X hR (m_Mo_most l D ct b RO (r - 1) n ((A1 24) n0) ((A1 27) i) (mkM ct x g (up2 (up2 (up2 (up2 A1 29 (upd (A1 29) i ((A1 22) n0))) 30 (upd (A1 30) i 0)) 22 (upd (A1 22) n0 (((A1 22) n0) + (((A1 25) i) + (yS s0))))) 23 (upd (A1 23) n0 (ms ((A1 23) n0) ((A1 26) i)))) th co at_ wr no nu op pi wi he de)) w1151 w1149 w1150 w9 ⟨by decide, by decide, by show _ = some 2; decide +kernel⟩ (by omega) (by decide) hP hS hl.1 rfl (by exact Nat.le_of_ble_eq_true rfl) (fh_d d_Mo_setList 245 rfl) ⟨Nat.le_refl _, Nat.le_refl _⟩ (fun v9 h9 n9 H locs hq hP hS => ?_)
                  obtain ⟨rfl, q19a, q19b⟩ := hq
                  rw [q19a, q19b] at hP
                  refine W.eq (g2 := F0 m 415 ls [.int (ms ((A1 24) n0) ((A1 27) i)), .int (nI n0), .ref (x + 25)]) rfl ?_
                  refine fn_iast (f := A1 24) (k := n0) hx hb hK hP hS 0 mkM_a24 rfl (rfl) (by omega) (by decide) (fh_d d_Mo_setList 246 rfl) (fun H locs hP hS => ?_)
                  replace hP := fh_P.eq (h' := mkM ct x g (up2 (up2 (up2 (up2 (up2 A1 29 (upd (A1 29) i ((A1 22) n0))) 30 (upd (A1 30) i 0)) 22 (upd (A1 22) n0 (((A1 22) n0) + (((A1 25) i) + (yS s0))))) 23 (upd (A1 23) n0 (ms ((A1 23) n0) ((A1 26) i)))) 24 (upd (A1 24) n0 (ms ((A1 24) n0) ((A1 27) i)))) th co at_ wr no nu op pi wi he de) hP mkM_u24
                  refine lv_aload_n hx hb (fh_d d_Mo_setList 247 rfl) rfl (lv_at hl 4 rfl) ?_
                  refine fh_get (own := "FormulaSetterModel") (ref := "FormulaSetterModel") (C := "FormulaSetterModel") (T := T_Mo) (N := 53) (v := .ref (x + 8)) hx hb hT i_Mo hown hK hP mkM_o rfl 13 (by decide) (hT _ w873) (fun _ h9 => h9) rfl (fh_d d_Mo_setList 248 rfl) ?_
                  refine lv_iload hx hb (fh_d d_Mo_setList 249 rfl) (lv_at hl 2 rfl) ?_
                  refine fn_iald (f := A1 7) (k := i) hx hb hK hP 0 mkM_a7 rfl (rfl) (hnt.1.2) (by decide) (fh_d d_Mo_setList 250 rfl) ?_
                  rw [show ((A1 7) i) = nI j from (congrFun h7 i).trans hnt.2.1]
                  refine lv_istore (lv' := [(4, .int (nI j)), (6, .int (yS s0)), (5, .int (spR p9 q9)), (3, .int (yS s0)), (0, .ref x), (1, .int (nI n0))]) hx hb (fh_d d_Mo_setList 251 rfl) hl (by decide) rfl (fun ls hl => ?_)
                  refine lv_goto (tgt := 229) hx hb (fh_d d_Mo_setList 252 rfl) rfl ?_
                  have esp : sp3 s0 (spv A1 i (j :: t)) = yS s0 := by
                    have e9 : spv A1 i (j :: t) = spR p9 q9 := by show spR (ixI (A1 33 i)) (ixI (A1 33 j)) = _; rw [ep9, eq9, show ixI (nI p9) = p9 from nI_clamp (by omega), show ixI (nI q9) = q9 from nI_clamp (by omega)]
                    rw [e9]; unfold sp3
                    rw [if_neg c11, if_neg (fun z => z.elim c12 (fun y => absurd ((nI_leI (a := s0) (b := 1) (by omega) (by decide)).mp c15) (by omega))), if_neg c16, if_neg c17]
                  exact ih (rl3s n0 i A1 (yS s0)) hnt.2.2 h7 h20a (fun q hq => hbe q (List.mem_cons_of_mem _ hq)) ((congrArg (fun z => rl3 n0 s0 (j :: t) (rl3s n0 i A1 z)) esp.symm).trans hfo) H locs _ hP hS (lv_sub hl [0, 3, 4, 5] rfl)
                · refine lv_iconst (v := 5) hx hb (fh_d d_Mo_setList 200 rfl) (by decide) ?_
                  refine lv_iload_n hx hb (fh_d d_Mo_setList 201 rfl) rfl (lv_at hl 2 rfl) ?_
                  refine lv_imul hx hb (fh_d d_Mo_setList 202 rfl) ?_
                  refine lv_iconst (v := 3) hx hb (fh_d d_Mo_setList 203 rfl) (by decide) ?_
                  refine lv_idiv hx hb (fh_d d_Mo_setList 204 rfl) (by decide) ?_
                  refine lv_goto (tgt := 351) hx hb (fh_d d_Mo_setList 205 rfl) rfl ?_
                  refine lv_istore (lv' := [(6, .int ((5 * (yS s0)) / 3)), (5, .int (spR p9 q9)), (4, .int (nI i)), (3, .int (yS s0)), (0, .ref x), (1, .int (nI n0))]) hx hb (fh_d d_Mo_setList 207 rfl) hl (by decide) rfl (fun ls hl => ?_)
                  refine lv_aload_n hx hb (fh_d d_Mo_setList 208 rfl) rfl (lv_at hl 4 rfl) ?_
                  refine fh_get (own := "FormulaSetterModel") (ref := "FormulaSetterModel") (C := "FormulaSetterModel") (T := T_Mo) (N := 53) (v := .ref (x + 23)) hx hb hT i_Mo hown hK hP mkM_o rfl 29 (by decide) (hT _ w889) (fun _ h9 => h9) rfl (fh_d d_Mo_setList 209 rfl) ?_
                  refine lv_iload_n hx hb (fh_d d_Mo_setList 210 rfl) rfl (lv_at hl 5 rfl) ?_
                  refine lv_dup2_11 hx hb (fh_d d_Mo_setList 211 rfl) rfl rfl ?_
                  refine fn_iald (f := A1 22) (k := n0) hx hb hK hP 0 mkM_a22 rfl (rfl) (by omega) (by decide) (fh_d d_Mo_setList 212 rfl) ?_
                  refine lv_aload_n hx hb (fh_d d_Mo_setList 213 rfl) rfl (lv_at hl 4 rfl) ?_
                  refine fh_get (own := "FormulaSetterModel") (ref := "FormulaSetterModel") (C := "FormulaSetterModel") (T := T_Mo) (N := 53) (v := .ref (x + 26)) hx hb hT i_Mo hown hK hP mkM_o rfl 32 (by decide) (hT _ w892) (fun _ h9 => h9) rfl (fh_d d_Mo_setList 214 rfl) ?_
                  refine lv_iload hx hb (fh_d d_Mo_setList 215 rfl) (lv_at hl 2 rfl) ?_
                  refine fn_iald (f := A1 25) (k := i) hx hb hK hP 0 mkM_a25 rfl (rfl) (hnt.1.2) (by decide) (fh_d d_Mo_setList 216 rfl) ?_
                  refine lv_iload hx hb (fh_d d_Mo_setList 217 rfl) (lv_at hl 0 rfl) ?_
                  refine lv_iadd hx hb (fh_d d_Mo_setList 218 rfl) ?_
                  refine lv_iadd hx hb (fh_d d_Mo_setList 219 rfl) ?_
                  refine fn_iast (f := A1 22) (k := n0) hx hb hK hP hS 0 mkM_a22 rfl (rfl) (by omega) (by decide) (fh_d d_Mo_setList 220 rfl) (fun H locs hP hS => ?_)
                  replace hP := fh_P.eq (h' := mkM ct x g (up2 (up2 (up2 A1 29 (upd (A1 29) i ((A1 22) n0))) 30 (upd (A1 30) i 0)) 22 (upd (A1 22) n0 (((A1 22) n0) + (((A1 25) i) + ((5 * (yS s0)) / 3))))) th co at_ wr no nu op pi wi he de) hP mkM_u22
                  refine lv_aload_n hx hb (fh_d d_Mo_setList 221 rfl) rfl (lv_at hl 4 rfl) ?_
                  refine fh_get (own := "FormulaSetterModel") (ref := "FormulaSetterModel") (C := "FormulaSetterModel") (T := T_Mo) (N := 53) (v := .ref (x + 24)) hx hb hT i_Mo hown hK hP mkM_o rfl 30 (by decide) (hT _ w890) (fun _ h9 => h9) rfl (fh_d d_Mo_setList 222 rfl) ?_
                  refine lv_iload_n hx hb (fh_d d_Mo_setList 223 rfl) rfl (lv_at hl 5 rfl) ?_
                  refine lv_aload_n hx hb (fh_d d_Mo_setList 224 rfl) rfl (lv_at hl 4 rfl) ?_
                  refine fh_get (own := "FormulaSetterModel") (ref := "FormulaSetterModel") (C := "FormulaSetterModel") (T := T_Mo) (N := 53) (v := .ref (x + 24)) hx hb hT i_Mo hown hK hP mkM_o rfl 30 (by decide) (hT _ w890) (fun _ h9 => h9) rfl (fh_d d_Mo_setList 225 rfl) ?_
                  refine lv_iload_n hx hb (fh_d d_Mo_setList 226 rfl) rfl (lv_at hl 5 rfl) ?_
                  refine fn_iald (f := A1 23) (k := n0) hx hb hK hP 0 mkM_a23 rfl (rfl) (by omega) (by decide) (fh_d d_Mo_setList 227 rfl) ?_
                  refine lv_aload_n hx hb (fh_d d_Mo_setList 228 rfl) rfl (lv_at hl 4 rfl) ?_
                  refine fh_get (own := "FormulaSetterModel") (ref := "FormulaSetterModel") (C := "FormulaSetterModel") (T := T_Mo) (N := 53) (v := .ref (x + 27)) hx hb hT i_Mo hown hK hP mkM_o rfl 33 (by decide) (hT _ w893) (fun _ h9 => h9) rfl (fh_d d_Mo_setList 229 rfl) ?_
                  refine lv_iload hx hb (fh_d d_Mo_setList 230 rfl) (lv_at hl 2 rfl) ?_
                  refine fn_iald (f := A1 26) (k := i) hx hb hK hP 0 mkM_a26 rfl (rfl) (hnt.1.2) (by decide) (fh_d d_Mo_setList 231 rfl) ?_
                  refine fh_callS (cc' := c_Mo_most) (nL' := 2) (rest := [.int (nI n0), .ref (x + 24)]) (av := [.int ((A1 23) n0), .int ((A1 26) i)]) X hR (m_Mo_most l D ct b RO (r - 1) n ((A1 23) n0) ((A1 26) i) (mkM ct x g (up2 (up2 (up2 A1 29 (upd (A1 29) i ((A1 22) n0))) 30 (upd (A1 30) i 0)) 22 (upd (A1 22) n0 (((A1 22) n0) + (((A1 25) i) + ((5 * (yS s0)) / 3))))) th co at_ wr no nu op pi wi he de)) w1151 w1149 w1150 w9 ⟨by decide, by decide, by show _ = some 2; decide +kernel⟩ (by omega) (by decide) hP hS hl.1 rfl (by exact Nat.le_of_ble_eq_true rfl) (fh_d d_Mo_setList 232 rfl) ⟨Nat.le_refl _, Nat.le_refl _⟩ (fun v9 h9 n9 H locs hq hP hS => ?_)
                  obtain ⟨rfl, q20a, q20b⟩ := hq
                  rw [q20a, q20b] at hP
                  refine W.eq (g2 := F0 m 393 ls [.int (ms ((A1 23) n0) ((A1 26) i)), .int (nI n0), .ref (x + 24)]) rfl ?_
                  refine fn_iast (f := A1 23) (k := n0) hx hb hK hP hS 0 mkM_a23 rfl (rfl) (by omega) (by decide) (fh_d d_Mo_setList 233 rfl) (fun H locs hP hS => ?_)
                  replace hP := fh_P.eq (h' := mkM ct x g (up2 (up2 (up2 (up2 A1 29 (upd (A1 29) i ((A1 22) n0))) 30 (upd (A1 30) i 0)) 22 (upd (A1 22) n0 (((A1 22) n0) + (((A1 25) i) + ((5 * (yS s0)) / 3))))) 23 (upd (A1 23) n0 (ms ((A1 23) n0) ((A1 26) i)))) th co at_ wr no nu op pi wi he de) hP mkM_u23
                  refine lv_aload_n hx hb (fh_d d_Mo_setList 234 rfl) rfl (lv_at hl 4 rfl) ?_
                  refine fh_get (own := "FormulaSetterModel") (ref := "FormulaSetterModel") (C := "FormulaSetterModel") (T := T_Mo) (N := 53) (v := .ref (x + 25)) hx hb hT i_Mo hown hK hP mkM_o rfl 31 (by decide) (hT _ w891) (fun _ h9 => h9) rfl (fh_d d_Mo_setList 235 rfl) ?_
                  refine lv_iload_n hx hb (fh_d d_Mo_setList 236 rfl) rfl (lv_at hl 5 rfl) ?_
                  refine lv_aload_n hx hb (fh_d d_Mo_setList 237 rfl) rfl (lv_at hl 4 rfl) ?_
                  refine fh_get (own := "FormulaSetterModel") (ref := "FormulaSetterModel") (C := "FormulaSetterModel") (T := T_Mo) (N := 53) (v := .ref (x + 25)) hx hb hT i_Mo hown hK hP mkM_o rfl 31 (by decide) (hT _ w891) (fun _ h9 => h9) rfl (fh_d d_Mo_setList 238 rfl) ?_
                  refine lv_iload_n hx hb (fh_d d_Mo_setList 239 rfl) rfl (lv_at hl 5 rfl) ?_
                  refine fn_iald (f := A1 24) (k := n0) hx hb hK hP 0 mkM_a24 rfl (rfl) (by omega) (by decide) (fh_d d_Mo_setList 240 rfl) ?_
                  refine lv_aload_n hx hb (fh_d d_Mo_setList 241 rfl) rfl (lv_at hl 4 rfl) ?_
                  refine fh_get (own := "FormulaSetterModel") (ref := "FormulaSetterModel") (C := "FormulaSetterModel") (T := T_Mo) (N := 53) (v := .ref (x + 28)) hx hb hT i_Mo hown hK hP mkM_o rfl 34 (by decide) (hT _ w894) (fun _ h9 => h9) rfl (fh_d d_Mo_setList 242 rfl) ?_
                  refine lv_iload hx hb (fh_d d_Mo_setList 243 rfl) (lv_at hl 2 rfl) ?_
                  refine fn_iald (f := A1 27) (k := i) hx hb hK hP 0 mkM_a27 rfl (rfl) (hnt.1.2) (by decide) (fh_d d_Mo_setList 244 rfl) ?_
                  refine fh_callS (cc' := c_Mo_most) (nL' := 2) (rest := [.int (nI n0), .ref (x + 25)]) (av := [.int ((A1 24) n0), .int ((A1 27) i)]) X hR (m_Mo_most l D ct b RO (r - 1) n ((A1 24) n0) ((A1 27) i) (mkM ct x g (up2 (up2 (up2 (up2 A1 29 (upd (A1 29) i ((A1 22) n0))) 30 (upd (A1 30) i 0)) 22 (upd (A1 22) n0 (((A1 22) n0) + (((A1 25) i) + ((5 * (yS s0)) / 3))))) 23 (upd (A1 23) n0 (ms ((A1 23) n0) ((A1 26) i)))) th co at_ wr no nu op pi wi he de)) w1151 w1149 w1150 w9 ⟨by decide, by decide, by show _ = some 2; decide +kernel⟩ (by omega) (by decide) hP hS hl.1 rfl (by exact Nat.le_of_ble_eq_true rfl) (fh_d d_Mo_setList 245 rfl) ⟨Nat.le_refl _, Nat.le_refl _⟩ (fun v9 h9 n9 H locs hq hP hS => ?_)
                  obtain ⟨rfl, q21a, q21b⟩ := hq
                  rw [q21a, q21b] at hP
                  refine W.eq (g2 := F0 m 415 ls [.int (ms ((A1 24) n0) ((A1 27) i)), .int (nI n0), .ref (x + 25)]) rfl ?_
                  refine fn_iast (f := A1 24) (k := n0) hx hb hK hP hS 0 mkM_a24 rfl (rfl) (by omega) (by decide) (fh_d d_Mo_setList 246 rfl) (fun H locs hP hS => ?_)
                  replace hP := fh_P.eq (h' := mkM ct x g (up2 (up2 (up2 (up2 (up2 A1 29 (upd (A1 29) i ((A1 22) n0))) 30 (upd (A1 30) i 0)) 22 (upd (A1 22) n0 (((A1 22) n0) + (((A1 25) i) + ((5 * (yS s0)) / 3))))) 23 (upd (A1 23) n0 (ms ((A1 23) n0) ((A1 26) i)))) 24 (upd (A1 24) n0 (ms ((A1 24) n0) ((A1 27) i)))) th co at_ wr no nu op pi wi he de) hP mkM_u24
                  refine lv_aload_n hx hb (fh_d d_Mo_setList 247 rfl) rfl (lv_at hl 4 rfl) ?_
                  refine fh_get (own := "FormulaSetterModel") (ref := "FormulaSetterModel") (C := "FormulaSetterModel") (T := T_Mo) (N := 53) (v := .ref (x + 8)) hx hb hT i_Mo hown hK hP mkM_o rfl 13 (by decide) (hT _ w873) (fun _ h9 => h9) rfl (fh_d d_Mo_setList 248 rfl) ?_
                  refine lv_iload hx hb (fh_d d_Mo_setList 249 rfl) (lv_at hl 2 rfl) ?_
                  refine fn_iald (f := A1 7) (k := i) hx hb hK hP 0 mkM_a7 rfl (rfl) (hnt.1.2) (by decide) (fh_d d_Mo_setList 250 rfl) ?_
                  rw [show ((A1 7) i) = nI j from (congrFun h7 i).trans hnt.2.1]
                  refine lv_istore (lv' := [(4, .int (nI j)), (6, .int ((5 * (yS s0)) / 3)), (5, .int (spR p9 q9)), (3, .int (yS s0)), (0, .ref x), (1, .int (nI n0))]) hx hb (fh_d d_Mo_setList 251 rfl) hl (by decide) rfl (fun ls hl => ?_)
                  refine lv_goto (tgt := 229) hx hb (fh_d d_Mo_setList 252 rfl) rfl ?_
                  have esp : sp3 s0 (spv A1 i (j :: t)) = (5 * (yS s0)) / 3 := by
                    have e9 : spv A1 i (j :: t) = spR p9 q9 := by show spR (ixI (A1 33 i)) (ixI (A1 33 j)) = _; rw [ep9, eq9, show ixI (nI p9) = p9 from nI_clamp (by omega), show ixI (nI q9) = q9 from nI_clamp (by omega)]
                    rw [e9]; unfold sp3
                    rw [if_neg c11, if_neg (fun z => z.elim c12 (fun y => absurd ((nI_leI (a := s0) (b := 1) (by omega) (by decide)).mp c15) (by omega))), if_neg c16, if_pos c17]
                  exact ih (rl3s n0 i A1 ((5 * (yS s0)) / 3)) hnt.2.2 h7 h20a (fun q hq => hbe q (List.mem_cons_of_mem _ hq)) ((congrArg (fun z => rl3 n0 s0 (j :: t) (rl3s n0 i A1 z)) esp.symm).trans hfo) H locs _ hP hS (lv_sub hl [0, 3, 4, 5] rfl)
              · refine lv_iconst (v := 4) hx hb (fh_d d_Mo_setList 191 rfl) (by decide) ?_
                refine lv_iload_n hx hb (fh_d d_Mo_setList 192 rfl) rfl (lv_at hl 2 rfl) ?_
                refine lv_imul hx hb (fh_d d_Mo_setList 193 rfl) ?_
                refine lv_iconst (v := 3) hx hb (fh_d d_Mo_setList 194 rfl) (by decide) ?_
                refine lv_idiv hx hb (fh_d d_Mo_setList 195 rfl) (by decide) ?_
                refine lv_goto (tgt := 351) hx hb (fh_d d_Mo_setList 196 rfl) rfl ?_
                refine lv_istore (lv' := [(6, .int ((4 * (yS s0)) / 3)), (5, .int (spR p9 q9)), (4, .int (nI i)), (3, .int (yS s0)), (0, .ref x), (1, .int (nI n0))]) hx hb (fh_d d_Mo_setList 207 rfl) hl (by decide) rfl (fun ls hl => ?_)
                refine lv_aload_n hx hb (fh_d d_Mo_setList 208 rfl) rfl (lv_at hl 4 rfl) ?_
                refine fh_get (own := "FormulaSetterModel") (ref := "FormulaSetterModel") (C := "FormulaSetterModel") (T := T_Mo) (N := 53) (v := .ref (x + 23)) hx hb hT i_Mo hown hK hP mkM_o rfl 29 (by decide) (hT _ w889) (fun _ h9 => h9) rfl (fh_d d_Mo_setList 209 rfl) ?_
                refine lv_iload_n hx hb (fh_d d_Mo_setList 210 rfl) rfl (lv_at hl 5 rfl) ?_
                refine lv_dup2_11 hx hb (fh_d d_Mo_setList 211 rfl) rfl rfl ?_
                refine fn_iald (f := A1 22) (k := n0) hx hb hK hP 0 mkM_a22 rfl (rfl) (by omega) (by decide) (fh_d d_Mo_setList 212 rfl) ?_
                refine lv_aload_n hx hb (fh_d d_Mo_setList 213 rfl) rfl (lv_at hl 4 rfl) ?_
                refine fh_get (own := "FormulaSetterModel") (ref := "FormulaSetterModel") (C := "FormulaSetterModel") (T := T_Mo) (N := 53) (v := .ref (x + 26)) hx hb hT i_Mo hown hK hP mkM_o rfl 32 (by decide) (hT _ w892) (fun _ h9 => h9) rfl (fh_d d_Mo_setList 214 rfl) ?_
                refine lv_iload hx hb (fh_d d_Mo_setList 215 rfl) (lv_at hl 2 rfl) ?_
                refine fn_iald (f := A1 25) (k := i) hx hb hK hP 0 mkM_a25 rfl (rfl) (hnt.1.2) (by decide) (fh_d d_Mo_setList 216 rfl) ?_
                refine lv_iload hx hb (fh_d d_Mo_setList 217 rfl) (lv_at hl 0 rfl) ?_
                refine lv_iadd hx hb (fh_d d_Mo_setList 218 rfl) ?_
                refine lv_iadd hx hb (fh_d d_Mo_setList 219 rfl) ?_
                refine fn_iast (f := A1 22) (k := n0) hx hb hK hP hS 0 mkM_a22 rfl (rfl) (by omega) (by decide) (fh_d d_Mo_setList 220 rfl) (fun H locs hP hS => ?_)
                replace hP := fh_P.eq (h' := mkM ct x g (up2 (up2 (up2 A1 29 (upd (A1 29) i ((A1 22) n0))) 30 (upd (A1 30) i 0)) 22 (upd (A1 22) n0 (((A1 22) n0) + (((A1 25) i) + ((4 * (yS s0)) / 3))))) th co at_ wr no nu op pi wi he de) hP mkM_u22
                refine lv_aload_n hx hb (fh_d d_Mo_setList 221 rfl) rfl (lv_at hl 4 rfl) ?_
                refine fh_get (own := "FormulaSetterModel") (ref := "FormulaSetterModel") (C := "FormulaSetterModel") (T := T_Mo) (N := 53) (v := .ref (x + 24)) hx hb hT i_Mo hown hK hP mkM_o rfl 30 (by decide) (hT _ w890) (fun _ h9 => h9) rfl (fh_d d_Mo_setList 222 rfl) ?_
                refine lv_iload_n hx hb (fh_d d_Mo_setList 223 rfl) rfl (lv_at hl 5 rfl) ?_
                refine lv_aload_n hx hb (fh_d d_Mo_setList 224 rfl) rfl (lv_at hl 4 rfl) ?_
                refine fh_get (own := "FormulaSetterModel") (ref := "FormulaSetterModel") (C := "FormulaSetterModel") (T := T_Mo) (N := 53) (v := .ref (x + 24)) hx hb hT i_Mo hown hK hP mkM_o rfl 30 (by decide) (hT _ w890) (fun _ h9 => h9) rfl (fh_d d_Mo_setList 225 rfl) ?_
                refine lv_iload_n hx hb (fh_d d_Mo_setList 226 rfl) rfl (lv_at hl 5 rfl) ?_
                refine fn_iald (f := A1 23) (k := n0) hx hb hK hP 0 mkM_a23 rfl (rfl) (by omega) (by decide) (fh_d d_Mo_setList 227 rfl) ?_
                refine lv_aload_n hx hb (fh_d d_Mo_setList 228 rfl) rfl (lv_at hl 4 rfl) ?_
                refine fh_get (own := "FormulaSetterModel") (ref := "FormulaSetterModel") (C := "FormulaSetterModel") (T := T_Mo) (N := 53) (v := .ref (x + 27)) hx hb hT i_Mo hown hK hP mkM_o rfl 33 (by decide) (hT _ w893) (fun _ h9 => h9) rfl (fh_d d_Mo_setList 229 rfl) ?_
                refine lv_iload hx hb (fh_d d_Mo_setList 230 rfl) (lv_at hl 2 rfl) ?_
                refine fn_iald (f := A1 26) (k := i) hx hb hK hP 0 mkM_a26 rfl (rfl) (hnt.1.2) (by decide) (fh_d d_Mo_setList 231 rfl) ?_
                refine fh_callS (cc' := c_Mo_most) (nL' := 2) (rest := [.int (nI n0), .ref (x + 24)]) (av := [.int ((A1 23) n0), .int ((A1 26) i)]) X hR (m_Mo_most l D ct b RO (r - 1) n ((A1 23) n0) ((A1 26) i) (mkM ct x g (up2 (up2 (up2 A1 29 (upd (A1 29) i ((A1 22) n0))) 30 (upd (A1 30) i 0)) 22 (upd (A1 22) n0 (((A1 22) n0) + (((A1 25) i) + ((4 * (yS s0)) / 3))))) th co at_ wr no nu op pi wi he de)) w1151 w1149 w1150 w9 ⟨by decide, by decide, by show _ = some 2; decide +kernel⟩ (by omega) (by decide) hP hS hl.1 rfl (by exact Nat.le_of_ble_eq_true rfl) (fh_d d_Mo_setList 232 rfl) ⟨Nat.le_refl _, Nat.le_refl _⟩ (fun v9 h9 n9 H locs hq hP hS => ?_)
                obtain ⟨rfl, q22a, q22b⟩ := hq
                rw [q22a, q22b] at hP
                refine W.eq (g2 := F0 m 393 ls [.int (ms ((A1 23) n0) ((A1 26) i)), .int (nI n0), .ref (x + 24)]) rfl ?_
                refine fn_iast (f := A1 23) (k := n0) hx hb hK hP hS 0 mkM_a23 rfl (rfl) (by omega) (by decide) (fh_d d_Mo_setList 233 rfl) (fun H locs hP hS => ?_)
                replace hP := fh_P.eq (h' := mkM ct x g (up2 (up2 (up2 (up2 A1 29 (upd (A1 29) i ((A1 22) n0))) 30 (upd (A1 30) i 0)) 22 (upd (A1 22) n0 (((A1 22) n0) + (((A1 25) i) + ((4 * (yS s0)) / 3))))) 23 (upd (A1 23) n0 (ms ((A1 23) n0) ((A1 26) i)))) th co at_ wr no nu op pi wi he de) hP mkM_u23
                refine lv_aload_n hx hb (fh_d d_Mo_setList 234 rfl) rfl (lv_at hl 4 rfl) ?_
                refine fh_get (own := "FormulaSetterModel") (ref := "FormulaSetterModel") (C := "FormulaSetterModel") (T := T_Mo) (N := 53) (v := .ref (x + 25)) hx hb hT i_Mo hown hK hP mkM_o rfl 31 (by decide) (hT _ w891) (fun _ h9 => h9) rfl (fh_d d_Mo_setList 235 rfl) ?_
                refine lv_iload_n hx hb (fh_d d_Mo_setList 236 rfl) rfl (lv_at hl 5 rfl) ?_
                refine lv_aload_n hx hb (fh_d d_Mo_setList 237 rfl) rfl (lv_at hl 4 rfl) ?_
                refine fh_get (own := "FormulaSetterModel") (ref := "FormulaSetterModel") (C := "FormulaSetterModel") (T := T_Mo) (N := 53) (v := .ref (x + 25)) hx hb hT i_Mo hown hK hP mkM_o rfl 31 (by decide) (hT _ w891) (fun _ h9 => h9) rfl (fh_d d_Mo_setList 238 rfl) ?_
                refine lv_iload_n hx hb (fh_d d_Mo_setList 239 rfl) rfl (lv_at hl 5 rfl) ?_
                refine fn_iald (f := A1 24) (k := n0) hx hb hK hP 0 mkM_a24 rfl (rfl) (by omega) (by decide) (fh_d d_Mo_setList 240 rfl) ?_
                refine lv_aload_n hx hb (fh_d d_Mo_setList 241 rfl) rfl (lv_at hl 4 rfl) ?_
                refine fh_get (own := "FormulaSetterModel") (ref := "FormulaSetterModel") (C := "FormulaSetterModel") (T := T_Mo) (N := 53) (v := .ref (x + 28)) hx hb hT i_Mo hown hK hP mkM_o rfl 34 (by decide) (hT _ w894) (fun _ h9 => h9) rfl (fh_d d_Mo_setList 242 rfl) ?_
                refine lv_iload hx hb (fh_d d_Mo_setList 243 rfl) (lv_at hl 2 rfl) ?_
                refine fn_iald (f := A1 27) (k := i) hx hb hK hP 0 mkM_a27 rfl (rfl) (hnt.1.2) (by decide) (fh_d d_Mo_setList 244 rfl) ?_
                refine fh_callS (cc' := c_Mo_most) (nL' := 2) (rest := [.int (nI n0), .ref (x + 25)]) (av := [.int ((A1 24) n0), .int ((A1 27) i)]) X hR (m_Mo_most l D ct b RO (r - 1) n ((A1 24) n0) ((A1 27) i) (mkM ct x g (up2 (up2 (up2 (up2 A1 29 (upd (A1 29) i ((A1 22) n0))) 30 (upd (A1 30) i 0)) 22 (upd (A1 22) n0 (((A1 22) n0) + (((A1 25) i) + ((4 * (yS s0)) / 3))))) 23 (upd (A1 23) n0 (ms ((A1 23) n0) ((A1 26) i)))) th co at_ wr no nu op pi wi he de)) w1151 w1149 w1150 w9 ⟨by decide, by decide, by show _ = some 2; decide +kernel⟩ (by omega) (by decide) hP hS hl.1 rfl (by exact Nat.le_of_ble_eq_true rfl) (fh_d d_Mo_setList 245 rfl) ⟨Nat.le_refl _, Nat.le_refl _⟩ (fun v9 h9 n9 H locs hq hP hS => ?_)
                obtain ⟨rfl, q23a, q23b⟩ := hq
                rw [q23a, q23b] at hP
                refine W.eq (g2 := F0 m 415 ls [.int (ms ((A1 24) n0) ((A1 27) i)), .int (nI n0), .ref (x + 25)]) rfl ?_
                refine fn_iast (f := A1 24) (k := n0) hx hb hK hP hS 0 mkM_a24 rfl (rfl) (by omega) (by decide) (fh_d d_Mo_setList 246 rfl) (fun H locs hP hS => ?_)
                replace hP := fh_P.eq (h' := mkM ct x g (up2 (up2 (up2 (up2 (up2 A1 29 (upd (A1 29) i ((A1 22) n0))) 30 (upd (A1 30) i 0)) 22 (upd (A1 22) n0 (((A1 22) n0) + (((A1 25) i) + ((4 * (yS s0)) / 3))))) 23 (upd (A1 23) n0 (ms ((A1 23) n0) ((A1 26) i)))) 24 (upd (A1 24) n0 (ms ((A1 24) n0) ((A1 27) i)))) th co at_ wr no nu op pi wi he de) hP mkM_u24
                refine lv_aload_n hx hb (fh_d d_Mo_setList 247 rfl) rfl (lv_at hl 4 rfl) ?_
                refine fh_get (own := "FormulaSetterModel") (ref := "FormulaSetterModel") (C := "FormulaSetterModel") (T := T_Mo) (N := 53) (v := .ref (x + 8)) hx hb hT i_Mo hown hK hP mkM_o rfl 13 (by decide) (hT _ w873) (fun _ h9 => h9) rfl (fh_d d_Mo_setList 248 rfl) ?_
                refine lv_iload hx hb (fh_d d_Mo_setList 249 rfl) (lv_at hl 2 rfl) ?_
                refine fn_iald (f := A1 7) (k := i) hx hb hK hP 0 mkM_a7 rfl (rfl) (hnt.1.2) (by decide) (fh_d d_Mo_setList 250 rfl) ?_
                rw [show ((A1 7) i) = nI j from (congrFun h7 i).trans hnt.2.1]
                refine lv_istore (lv' := [(4, .int (nI j)), (6, .int ((4 * (yS s0)) / 3)), (5, .int (spR p9 q9)), (3, .int (yS s0)), (0, .ref x), (1, .int (nI n0))]) hx hb (fh_d d_Mo_setList 251 rfl) hl (by decide) rfl (fun ls hl => ?_)
                refine lv_goto (tgt := 229) hx hb (fh_d d_Mo_setList 252 rfl) rfl ?_
                have esp : sp3 s0 (spv A1 i (j :: t)) = (4 * (yS s0)) / 3 := by
                  have e9 : spv A1 i (j :: t) = spR p9 q9 := by show spR (ixI (A1 33 i)) (ixI (A1 33 j)) = _; rw [ep9, eq9, show ixI (nI p9) = p9 from nI_clamp (by omega), show ixI (nI q9) = q9 from nI_clamp (by omega)]
                  rw [e9]; unfold sp3
                  rw [if_neg c11, if_neg (fun z => z.elim c12 (fun y => absurd ((nI_leI (a := s0) (b := 1) (by omega) (by decide)).mp c15) (by omega))), if_pos c16]
                exact ih (rl3s n0 i A1 ((4 * (yS s0)) / 3)) hnt.2.2 h7 h20a (fun q hq => hbe q (List.mem_cons_of_mem _ hq)) ((congrArg (fun z => rl3 n0 s0 (j :: t) (rl3s n0 i A1 z)) esp.symm).trans hfo) H locs _ hP hS (lv_sub hl [0, 3, 4, 5] rfl)
            · refine lv_iconst (v := 0) hx hb (fh_d d_Mo_setList 186 rfl) (by decide) ?_
              refine lv_goto (tgt := 351) hx hb (fh_d d_Mo_setList 187 rfl) rfl ?_
              refine lv_istore (lv' := [(6, .int 0), (5, .int (spR p9 q9)), (4, .int (nI i)), (3, .int (yS s0)), (0, .ref x), (1, .int (nI n0))]) hx hb (fh_d d_Mo_setList 207 rfl) hl (by decide) rfl (fun ls hl => ?_)
              refine lv_aload_n hx hb (fh_d d_Mo_setList 208 rfl) rfl (lv_at hl 4 rfl) ?_
              refine fh_get (own := "FormulaSetterModel") (ref := "FormulaSetterModel") (C := "FormulaSetterModel") (T := T_Mo) (N := 53) (v := .ref (x + 23)) hx hb hT i_Mo hown hK hP mkM_o rfl 29 (by decide) (hT _ w889) (fun _ h9 => h9) rfl (fh_d d_Mo_setList 209 rfl) ?_
              refine lv_iload_n hx hb (fh_d d_Mo_setList 210 rfl) rfl (lv_at hl 5 rfl) ?_
              refine lv_dup2_11 hx hb (fh_d d_Mo_setList 211 rfl) rfl rfl ?_
              refine fn_iald (f := A1 22) (k := n0) hx hb hK hP 0 mkM_a22 rfl (rfl) (by omega) (by decide) (fh_d d_Mo_setList 212 rfl) ?_
              refine lv_aload_n hx hb (fh_d d_Mo_setList 213 rfl) rfl (lv_at hl 4 rfl) ?_
              refine fh_get (own := "FormulaSetterModel") (ref := "FormulaSetterModel") (C := "FormulaSetterModel") (T := T_Mo) (N := 53) (v := .ref (x + 26)) hx hb hT i_Mo hown hK hP mkM_o rfl 32 (by decide) (hT _ w892) (fun _ h9 => h9) rfl (fh_d d_Mo_setList 214 rfl) ?_
              refine lv_iload hx hb (fh_d d_Mo_setList 215 rfl) (lv_at hl 2 rfl) ?_
              refine fn_iald (f := A1 25) (k := i) hx hb hK hP 0 mkM_a25 rfl (rfl) (hnt.1.2) (by decide) (fh_d d_Mo_setList 216 rfl) ?_
              refine lv_iload hx hb (fh_d d_Mo_setList 217 rfl) (lv_at hl 0 rfl) ?_
              refine lv_iadd hx hb (fh_d d_Mo_setList 218 rfl) ?_
              refine lv_iadd hx hb (fh_d d_Mo_setList 219 rfl) ?_
              refine fn_iast (f := A1 22) (k := n0) hx hb hK hP hS 0 mkM_a22 rfl (rfl) (by omega) (by decide) (fh_d d_Mo_setList 220 rfl) (fun H locs hP hS => ?_)
              replace hP := fh_P.eq (h' := mkM ct x g (up2 (up2 (up2 A1 29 (upd (A1 29) i ((A1 22) n0))) 30 (upd (A1 30) i 0)) 22 (upd (A1 22) n0 (((A1 22) n0) + (((A1 25) i) + 0)))) th co at_ wr no nu op pi wi he de) hP mkM_u22
              refine lv_aload_n hx hb (fh_d d_Mo_setList 221 rfl) rfl (lv_at hl 4 rfl) ?_
              refine fh_get (own := "FormulaSetterModel") (ref := "FormulaSetterModel") (C := "FormulaSetterModel") (T := T_Mo) (N := 53) (v := .ref (x + 24)) hx hb hT i_Mo hown hK hP mkM_o rfl 30 (by decide) (hT _ w890) (fun _ h9 => h9) rfl (fh_d d_Mo_setList 222 rfl) ?_
              refine lv_iload_n hx hb (fh_d d_Mo_setList 223 rfl) rfl (lv_at hl 5 rfl) ?_
              refine lv_aload_n hx hb (fh_d d_Mo_setList 224 rfl) rfl (lv_at hl 4 rfl) ?_
              refine fh_get (own := "FormulaSetterModel") (ref := "FormulaSetterModel") (C := "FormulaSetterModel") (T := T_Mo) (N := 53) (v := .ref (x + 24)) hx hb hT i_Mo hown hK hP mkM_o rfl 30 (by decide) (hT _ w890) (fun _ h9 => h9) rfl (fh_d d_Mo_setList 225 rfl) ?_
              refine lv_iload_n hx hb (fh_d d_Mo_setList 226 rfl) rfl (lv_at hl 5 rfl) ?_
              refine fn_iald (f := A1 23) (k := n0) hx hb hK hP 0 mkM_a23 rfl (rfl) (by omega) (by decide) (fh_d d_Mo_setList 227 rfl) ?_
              refine lv_aload_n hx hb (fh_d d_Mo_setList 228 rfl) rfl (lv_at hl 4 rfl) ?_
              refine fh_get (own := "FormulaSetterModel") (ref := "FormulaSetterModel") (C := "FormulaSetterModel") (T := T_Mo) (N := 53) (v := .ref (x + 27)) hx hb hT i_Mo hown hK hP mkM_o rfl 33 (by decide) (hT _ w893) (fun _ h9 => h9) rfl (fh_d d_Mo_setList 229 rfl) ?_
              refine lv_iload hx hb (fh_d d_Mo_setList 230 rfl) (lv_at hl 2 rfl) ?_
              refine fn_iald (f := A1 26) (k := i) hx hb hK hP 0 mkM_a26 rfl (rfl) (hnt.1.2) (by decide) (fh_d d_Mo_setList 231 rfl) ?_
              refine fh_callS (cc' := c_Mo_most) (nL' := 2) (rest := [.int (nI n0), .ref (x + 24)]) (av := [.int ((A1 23) n0), .int ((A1 26) i)]) X hR (m_Mo_most l D ct b RO (r - 1) n ((A1 23) n0) ((A1 26) i) (mkM ct x g (up2 (up2 (up2 A1 29 (upd (A1 29) i ((A1 22) n0))) 30 (upd (A1 30) i 0)) 22 (upd (A1 22) n0 (((A1 22) n0) + (((A1 25) i) + 0)))) th co at_ wr no nu op pi wi he de)) w1151 w1149 w1150 w9 ⟨by decide, by decide, by show _ = some 2; decide +kernel⟩ (by omega) (by decide) hP hS hl.1 rfl (by exact Nat.le_of_ble_eq_true rfl) (fh_d d_Mo_setList 232 rfl) ⟨Nat.le_refl _, Nat.le_refl _⟩ (fun v9 h9 n9 H locs hq hP hS => ?_)
              obtain ⟨rfl, q24a, q24b⟩ := hq
              rw [q24a, q24b] at hP
              refine W.eq (g2 := F0 m 393 ls [.int (ms ((A1 23) n0) ((A1 26) i)), .int (nI n0), .ref (x + 24)]) rfl ?_
              refine fn_iast (f := A1 23) (k := n0) hx hb hK hP hS 0 mkM_a23 rfl (rfl) (by omega) (by decide) (fh_d d_Mo_setList 233 rfl) (fun H locs hP hS => ?_)
              replace hP := fh_P.eq (h' := mkM ct x g (up2 (up2 (up2 (up2 A1 29 (upd (A1 29) i ((A1 22) n0))) 30 (upd (A1 30) i 0)) 22 (upd (A1 22) n0 (((A1 22) n0) + (((A1 25) i) + 0)))) 23 (upd (A1 23) n0 (ms ((A1 23) n0) ((A1 26) i)))) th co at_ wr no nu op pi wi he de) hP mkM_u23
              refine lv_aload_n hx hb (fh_d d_Mo_setList 234 rfl) rfl (lv_at hl 4 rfl) ?_
              refine fh_get (own := "FormulaSetterModel") (ref := "FormulaSetterModel") (C := "FormulaSetterModel") (T := T_Mo) (N := 53) (v := .ref (x + 25)) hx hb hT i_Mo hown hK hP mkM_o rfl 31 (by decide) (hT _ w891) (fun _ h9 => h9) rfl (fh_d d_Mo_setList 235 rfl) ?_
              refine lv_iload_n hx hb (fh_d d_Mo_setList 236 rfl) rfl (lv_at hl 5 rfl) ?_
              refine lv_aload_n hx hb (fh_d d_Mo_setList 237 rfl) rfl (lv_at hl 4 rfl) ?_
              refine fh_get (own := "FormulaSetterModel") (ref := "FormulaSetterModel") (C := "FormulaSetterModel") (T := T_Mo) (N := 53) (v := .ref (x + 25)) hx hb hT i_Mo hown hK hP mkM_o rfl 31 (by decide) (hT _ w891) (fun _ h9 => h9) rfl (fh_d d_Mo_setList 238 rfl) ?_
              refine lv_iload_n hx hb (fh_d d_Mo_setList 239 rfl) rfl (lv_at hl 5 rfl) ?_
              refine fn_iald (f := A1 24) (k := n0) hx hb hK hP 0 mkM_a24 rfl (rfl) (by omega) (by decide) (fh_d d_Mo_setList 240 rfl) ?_
              refine lv_aload_n hx hb (fh_d d_Mo_setList 241 rfl) rfl (lv_at hl 4 rfl) ?_
              refine fh_get (own := "FormulaSetterModel") (ref := "FormulaSetterModel") (C := "FormulaSetterModel") (T := T_Mo) (N := 53) (v := .ref (x + 28)) hx hb hT i_Mo hown hK hP mkM_o rfl 34 (by decide) (hT _ w894) (fun _ h9 => h9) rfl (fh_d d_Mo_setList 242 rfl) ?_
              refine lv_iload hx hb (fh_d d_Mo_setList 243 rfl) (lv_at hl 2 rfl) ?_
              refine fn_iald (f := A1 27) (k := i) hx hb hK hP 0 mkM_a27 rfl (rfl) (hnt.1.2) (by decide) (fh_d d_Mo_setList 244 rfl) ?_
              refine fh_callS (cc' := c_Mo_most) (nL' := 2) (rest := [.int (nI n0), .ref (x + 25)]) (av := [.int ((A1 24) n0), .int ((A1 27) i)]) X hR (m_Mo_most l D ct b RO (r - 1) n ((A1 24) n0) ((A1 27) i) (mkM ct x g (up2 (up2 (up2 (up2 A1 29 (upd (A1 29) i ((A1 22) n0))) 30 (upd (A1 30) i 0)) 22 (upd (A1 22) n0 (((A1 22) n0) + (((A1 25) i) + 0)))) 23 (upd (A1 23) n0 (ms ((A1 23) n0) ((A1 26) i)))) th co at_ wr no nu op pi wi he de)) w1151 w1149 w1150 w9 ⟨by decide, by decide, by show _ = some 2; decide +kernel⟩ (by omega) (by decide) hP hS hl.1 rfl (by exact Nat.le_of_ble_eq_true rfl) (fh_d d_Mo_setList 245 rfl) ⟨Nat.le_refl _, Nat.le_refl _⟩ (fun v9 h9 n9 H locs hq hP hS => ?_)
              obtain ⟨rfl, q25a, q25b⟩ := hq
              rw [q25a, q25b] at hP
              refine W.eq (g2 := F0 m 415 ls [.int (ms ((A1 24) n0) ((A1 27) i)), .int (nI n0), .ref (x + 25)]) rfl ?_
              refine fn_iast (f := A1 24) (k := n0) hx hb hK hP hS 0 mkM_a24 rfl (rfl) (by omega) (by decide) (fh_d d_Mo_setList 246 rfl) (fun H locs hP hS => ?_)
              replace hP := fh_P.eq (h' := mkM ct x g (up2 (up2 (up2 (up2 (up2 A1 29 (upd (A1 29) i ((A1 22) n0))) 30 (upd (A1 30) i 0)) 22 (upd (A1 22) n0 (((A1 22) n0) + (((A1 25) i) + 0)))) 23 (upd (A1 23) n0 (ms ((A1 23) n0) ((A1 26) i)))) 24 (upd (A1 24) n0 (ms ((A1 24) n0) ((A1 27) i)))) th co at_ wr no nu op pi wi he de) hP mkM_u24
              refine lv_aload_n hx hb (fh_d d_Mo_setList 247 rfl) rfl (lv_at hl 4 rfl) ?_
              refine fh_get (own := "FormulaSetterModel") (ref := "FormulaSetterModel") (C := "FormulaSetterModel") (T := T_Mo) (N := 53) (v := .ref (x + 8)) hx hb hT i_Mo hown hK hP mkM_o rfl 13 (by decide) (hT _ w873) (fun _ h9 => h9) rfl (fh_d d_Mo_setList 248 rfl) ?_
              refine lv_iload hx hb (fh_d d_Mo_setList 249 rfl) (lv_at hl 2 rfl) ?_
              refine fn_iald (f := A1 7) (k := i) hx hb hK hP 0 mkM_a7 rfl (rfl) (hnt.1.2) (by decide) (fh_d d_Mo_setList 250 rfl) ?_
              rw [show ((A1 7) i) = nI j from (congrFun h7 i).trans hnt.2.1]
              refine lv_istore (lv' := [(4, .int (nI j)), (6, .int 0), (5, .int (spR p9 q9)), (3, .int (yS s0)), (0, .ref x), (1, .int (nI n0))]) hx hb (fh_d d_Mo_setList 251 rfl) hl (by decide) rfl (fun ls hl => ?_)
              refine lv_goto (tgt := 229) hx hb (fh_d d_Mo_setList 252 rfl) rfl ?_
              have esp : sp3 s0 (spv A1 i (j :: t)) = 0 := by
                have e9 : spv A1 i (j :: t) = spR p9 q9 := by show spR (ixI (A1 33 i)) (ixI (A1 33 j)) = _; rw [ep9, eq9, show ixI (nI p9) = p9 from nI_clamp (by omega), show ixI (nI q9) = q9 from nI_clamp (by omega)]
                rw [e9]; unfold sp3
                rw [if_neg c11, if_pos (Or.inr (Nat.not_le.mp fun z => c15 ((nI_leI (a := s0) (b := 1) (by omega) (by decide)).mpr z)))]
              exact ih (rl3s n0 i A1 0) hnt.2.2 h7 h20a (fun q hq => hbe q (List.mem_cons_of_mem _ hq)) ((congrArg (fun z => rl3 n0 s0 (j :: t) (rl3s n0 i A1 z)) esp.symm).trans hfo) H locs _ hP hS (lv_sub hl [0, 3, 4, 5] rfl)
        · refine lv_iload_n hx hb (fh_d d_Mo_setList 176 rfl) rfl (lv_at hl 2 rfl) ?_
          refine lv_goto (tgt := 351) hx hb (fh_d d_Mo_setList 177 rfl) rfl ?_
          refine lv_istore (lv' := [(6, .int (yS s0)), (5, .int (spR p9 q9)), (4, .int (nI i)), (3, .int (yS s0)), (0, .ref x), (1, .int (nI n0))]) hx hb (fh_d d_Mo_setList 207 rfl) hl (by decide) rfl (fun ls hl => ?_)
          refine lv_aload_n hx hb (fh_d d_Mo_setList 208 rfl) rfl (lv_at hl 4 rfl) ?_
          refine fh_get (own := "FormulaSetterModel") (ref := "FormulaSetterModel") (C := "FormulaSetterModel") (T := T_Mo) (N := 53) (v := .ref (x + 23)) hx hb hT i_Mo hown hK hP mkM_o rfl 29 (by decide) (hT _ w889) (fun _ h9 => h9) rfl (fh_d d_Mo_setList 209 rfl) ?_
          refine lv_iload_n hx hb (fh_d d_Mo_setList 210 rfl) rfl (lv_at hl 5 rfl) ?_
          refine lv_dup2_11 hx hb (fh_d d_Mo_setList 211 rfl) rfl rfl ?_
          refine fn_iald (f := A1 22) (k := n0) hx hb hK hP 0 mkM_a22 rfl (rfl) (by omega) (by decide) (fh_d d_Mo_setList 212 rfl) ?_
          refine lv_aload_n hx hb (fh_d d_Mo_setList 213 rfl) rfl (lv_at hl 4 rfl) ?_
          refine fh_get (own := "FormulaSetterModel") (ref := "FormulaSetterModel") (C := "FormulaSetterModel") (T := T_Mo) (N := 53) (v := .ref (x + 26)) hx hb hT i_Mo hown hK hP mkM_o rfl 32 (by decide) (hT _ w892) (fun _ h9 => h9) rfl (fh_d d_Mo_setList 214 rfl) ?_
          refine lv_iload hx hb (fh_d d_Mo_setList 215 rfl) (lv_at hl 2 rfl) ?_
          refine fn_iald (f := A1 25) (k := i) hx hb hK hP 0 mkM_a25 rfl (rfl) (hnt.1.2) (by decide) (fh_d d_Mo_setList 216 rfl) ?_
          refine lv_iload hx hb (fh_d d_Mo_setList 217 rfl) (lv_at hl 0 rfl) ?_
          refine lv_iadd hx hb (fh_d d_Mo_setList 218 rfl) ?_
          refine lv_iadd hx hb (fh_d d_Mo_setList 219 rfl) ?_
          refine fn_iast (f := A1 22) (k := n0) hx hb hK hP hS 0 mkM_a22 rfl (rfl) (by omega) (by decide) (fh_d d_Mo_setList 220 rfl) (fun H locs hP hS => ?_)
          replace hP := fh_P.eq (h' := mkM ct x g (up2 (up2 (up2 A1 29 (upd (A1 29) i ((A1 22) n0))) 30 (upd (A1 30) i 0)) 22 (upd (A1 22) n0 (((A1 22) n0) + (((A1 25) i) + (yS s0))))) th co at_ wr no nu op pi wi he de) hP mkM_u22
          refine lv_aload_n hx hb (fh_d d_Mo_setList 221 rfl) rfl (lv_at hl 4 rfl) ?_
          refine fh_get (own := "FormulaSetterModel") (ref := "FormulaSetterModel") (C := "FormulaSetterModel") (T := T_Mo) (N := 53) (v := .ref (x + 24)) hx hb hT i_Mo hown hK hP mkM_o rfl 30 (by decide) (hT _ w890) (fun _ h9 => h9) rfl (fh_d d_Mo_setList 222 rfl) ?_
          refine lv_iload_n hx hb (fh_d d_Mo_setList 223 rfl) rfl (lv_at hl 5 rfl) ?_
          refine lv_aload_n hx hb (fh_d d_Mo_setList 224 rfl) rfl (lv_at hl 4 rfl) ?_
          refine fh_get (own := "FormulaSetterModel") (ref := "FormulaSetterModel") (C := "FormulaSetterModel") (T := T_Mo) (N := 53) (v := .ref (x + 24)) hx hb hT i_Mo hown hK hP mkM_o rfl 30 (by decide) (hT _ w890) (fun _ h9 => h9) rfl (fh_d d_Mo_setList 225 rfl) ?_
          refine lv_iload_n hx hb (fh_d d_Mo_setList 226 rfl) rfl (lv_at hl 5 rfl) ?_
          refine fn_iald (f := A1 23) (k := n0) hx hb hK hP 0 mkM_a23 rfl (rfl) (by omega) (by decide) (fh_d d_Mo_setList 227 rfl) ?_
          refine lv_aload_n hx hb (fh_d d_Mo_setList 228 rfl) rfl (lv_at hl 4 rfl) ?_
          refine fh_get (own := "FormulaSetterModel") (ref := "FormulaSetterModel") (C := "FormulaSetterModel") (T := T_Mo) (N := 53) (v := .ref (x + 27)) hx hb hT i_Mo hown hK hP mkM_o rfl 33 (by decide) (hT _ w893) (fun _ h9 => h9) rfl (fh_d d_Mo_setList 229 rfl) ?_
          refine lv_iload hx hb (fh_d d_Mo_setList 230 rfl) (lv_at hl 2 rfl) ?_
          refine fn_iald (f := A1 26) (k := i) hx hb hK hP 0 mkM_a26 rfl (rfl) (hnt.1.2) (by decide) (fh_d d_Mo_setList 231 rfl) ?_
          refine fh_callS (cc' := c_Mo_most) (nL' := 2) (rest := [.int (nI n0), .ref (x + 24)]) (av := [.int ((A1 23) n0), .int ((A1 26) i)]) X hR (m_Mo_most l D ct b RO (r - 1) n ((A1 23) n0) ((A1 26) i) (mkM ct x g (up2 (up2 (up2 A1 29 (upd (A1 29) i ((A1 22) n0))) 30 (upd (A1 30) i 0)) 22 (upd (A1 22) n0 (((A1 22) n0) + (((A1 25) i) + (yS s0))))) th co at_ wr no nu op pi wi he de)) w1151 w1149 w1150 w9 ⟨by decide, by decide, by show _ = some 2; decide +kernel⟩ (by omega) (by decide) hP hS hl.1 rfl (by exact Nat.le_of_ble_eq_true rfl) (fh_d d_Mo_setList 232 rfl) ⟨Nat.le_refl _, Nat.le_refl _⟩ (fun v9 h9 n9 H locs hq hP hS => ?_)
          obtain ⟨rfl, q26a, q26b⟩ := hq
          rw [q26a, q26b] at hP
          refine W.eq (g2 := F0 m 393 ls [.int (ms ((A1 23) n0) ((A1 26) i)), .int (nI n0), .ref (x + 24)]) rfl ?_
          refine fn_iast (f := A1 23) (k := n0) hx hb hK hP hS 0 mkM_a23 rfl (rfl) (by omega) (by decide) (fh_d d_Mo_setList 233 rfl) (fun H locs hP hS => ?_)
          replace hP := fh_P.eq (h' := mkM ct x g (up2 (up2 (up2 (up2 A1 29 (upd (A1 29) i ((A1 22) n0))) 30 (upd (A1 30) i 0)) 22 (upd (A1 22) n0 (((A1 22) n0) + (((A1 25) i) + (yS s0))))) 23 (upd (A1 23) n0 (ms ((A1 23) n0) ((A1 26) i)))) th co at_ wr no nu op pi wi he de) hP mkM_u23
          refine lv_aload_n hx hb (fh_d d_Mo_setList 234 rfl) rfl (lv_at hl 4 rfl) ?_
          refine fh_get (own := "FormulaSetterModel") (ref := "FormulaSetterModel") (C := "FormulaSetterModel") (T := T_Mo) (N := 53) (v := .ref (x + 25)) hx hb hT i_Mo hown hK hP mkM_o rfl 31 (by decide) (hT _ w891) (fun _ h9 => h9) rfl (fh_d d_Mo_setList 235 rfl) ?_
          refine lv_iload_n hx hb (fh_d d_Mo_setList 236 rfl) rfl (lv_at hl 5 rfl) ?_
          refine lv_aload_n hx hb (fh_d d_Mo_setList 237 rfl) rfl (lv_at hl 4 rfl) ?_
          refine fh_get (own := "FormulaSetterModel") (ref := "FormulaSetterModel") (C := "FormulaSetterModel") (T := T_Mo) (N := 53) (v := .ref (x + 25)) hx hb hT i_Mo hown hK hP mkM_o rfl 31 (by decide) (hT _ w891) (fun _ h9 => h9) rfl (fh_d d_Mo_setList 238 rfl) ?_
          refine lv_iload_n hx hb (fh_d d_Mo_setList 239 rfl) rfl (lv_at hl 5 rfl) ?_
          refine fn_iald (f := A1 24) (k := n0) hx hb hK hP 0 mkM_a24 rfl (rfl) (by omega) (by decide) (fh_d d_Mo_setList 240 rfl) ?_
          refine lv_aload_n hx hb (fh_d d_Mo_setList 241 rfl) rfl (lv_at hl 4 rfl) ?_
          refine fh_get (own := "FormulaSetterModel") (ref := "FormulaSetterModel") (C := "FormulaSetterModel") (T := T_Mo) (N := 53) (v := .ref (x + 28)) hx hb hT i_Mo hown hK hP mkM_o rfl 34 (by decide) (hT _ w894) (fun _ h9 => h9) rfl (fh_d d_Mo_setList 242 rfl) ?_
          refine lv_iload hx hb (fh_d d_Mo_setList 243 rfl) (lv_at hl 2 rfl) ?_
          refine fn_iald (f := A1 27) (k := i) hx hb hK hP 0 mkM_a27 rfl (rfl) (hnt.1.2) (by decide) (fh_d d_Mo_setList 244 rfl) ?_
          refine fh_callS (cc' := c_Mo_most) (nL' := 2) (rest := [.int (nI n0), .ref (x + 25)]) (av := [.int ((A1 24) n0), .int ((A1 27) i)]) X hR (m_Mo_most l D ct b RO (r - 1) n ((A1 24) n0) ((A1 27) i) (mkM ct x g (up2 (up2 (up2 (up2 A1 29 (upd (A1 29) i ((A1 22) n0))) 30 (upd (A1 30) i 0)) 22 (upd (A1 22) n0 (((A1 22) n0) + (((A1 25) i) + (yS s0))))) 23 (upd (A1 23) n0 (ms ((A1 23) n0) ((A1 26) i)))) th co at_ wr no nu op pi wi he de)) w1151 w1149 w1150 w9 ⟨by decide, by decide, by show _ = some 2; decide +kernel⟩ (by omega) (by decide) hP hS hl.1 rfl (by exact Nat.le_of_ble_eq_true rfl) (fh_d d_Mo_setList 245 rfl) ⟨Nat.le_refl _, Nat.le_refl _⟩ (fun v9 h9 n9 H locs hq hP hS => ?_)
          obtain ⟨rfl, q27a, q27b⟩ := hq
          rw [q27a, q27b] at hP
          refine W.eq (g2 := F0 m 415 ls [.int (ms ((A1 24) n0) ((A1 27) i)), .int (nI n0), .ref (x + 25)]) rfl ?_
          refine fn_iast (f := A1 24) (k := n0) hx hb hK hP hS 0 mkM_a24 rfl (rfl) (by omega) (by decide) (fh_d d_Mo_setList 246 rfl) (fun H locs hP hS => ?_)
          replace hP := fh_P.eq (h' := mkM ct x g (up2 (up2 (up2 (up2 (up2 A1 29 (upd (A1 29) i ((A1 22) n0))) 30 (upd (A1 30) i 0)) 22 (upd (A1 22) n0 (((A1 22) n0) + (((A1 25) i) + (yS s0))))) 23 (upd (A1 23) n0 (ms ((A1 23) n0) ((A1 26) i)))) 24 (upd (A1 24) n0 (ms ((A1 24) n0) ((A1 27) i)))) th co at_ wr no nu op pi wi he de) hP mkM_u24
          refine lv_aload_n hx hb (fh_d d_Mo_setList 247 rfl) rfl (lv_at hl 4 rfl) ?_
          refine fh_get (own := "FormulaSetterModel") (ref := "FormulaSetterModel") (C := "FormulaSetterModel") (T := T_Mo) (N := 53) (v := .ref (x + 8)) hx hb hT i_Mo hown hK hP mkM_o rfl 13 (by decide) (hT _ w873) (fun _ h9 => h9) rfl (fh_d d_Mo_setList 248 rfl) ?_
          refine lv_iload hx hb (fh_d d_Mo_setList 249 rfl) (lv_at hl 2 rfl) ?_
          refine fn_iald (f := A1 7) (k := i) hx hb hK hP 0 mkM_a7 rfl (rfl) (hnt.1.2) (by decide) (fh_d d_Mo_setList 250 rfl) ?_
          rw [show ((A1 7) i) = nI j from (congrFun h7 i).trans hnt.2.1]
          refine lv_istore (lv' := [(4, .int (nI j)), (6, .int (yS s0)), (5, .int (spR p9 q9)), (3, .int (yS s0)), (0, .ref x), (1, .int (nI n0))]) hx hb (fh_d d_Mo_setList 251 rfl) hl (by decide) rfl (fun ls hl => ?_)
          refine lv_goto (tgt := 229) hx hb (fh_d d_Mo_setList 252 rfl) rfl ?_
          have esp : sp3 s0 (spv A1 i (j :: t)) = yS s0 := by
            have e9 : spv A1 i (j :: t) = spR p9 q9 := by show spR (ixI (A1 33 i)) (ixI (A1 33 j)) = _; rw [ep9, eq9, show ixI (nI p9) = p9 from nI_clamp (by omega), show ixI (nI q9) = q9 from nI_clamp (by omega)]
            rw [e9]; unfold sp3
            rw [if_pos c11]
          exact ih (rl3s n0 i A1 (yS s0)) hnt.2.2 h7 h20a (fun q hq => hbe q (List.mem_cons_of_mem _ hq)) ((congrArg (fun z => rl3 n0 s0 (j :: t) (rl3s n0 i A1 z)) esp.symm).trans hfo) H locs _ hP hS (lv_sub hl [0, 3, 4, 5] rfl)
  have l2 : ∀ (t : List Nat)  (A1 : Nat → Nat → Int32), nxA (A 7) t → (∀ k, k ≠ 33 → A1 k = A k) → (∀ i ∈ cs, be8 A1 i) → (∀ i ∈ t, be8 A1 i) → rl3 n0 s0 cs (rl0 n0 (rl2 t A1)) = rf_li A n0 s0 cs → ∀ (H : Heap) (locs : List Loc) (ls : Array Slot), fh_P D fh_cl b (mkM ct x g A1 th co at_ wr no nu op pi wi he de) n H → va_S (fh_A b) s.heap H locs → lv_has ls 7 [(3, .int (nI (hdz t))), (0, .ref x), (1, .int (nI n0))] → W p l e (fh_rm r 0 0) s m args below meth c H locs 0 0 (MQ below (fh_Post D fh_cl b (fun v h' n' => v = none ∧ h' = mkM ct x g (rf_li A n0 s0 cs) th co at_ wr no nu op pi wi he de ∧ n' = n)) args s 0 0 (fh_A b)) (F0 m 105 ls []) := by
    intro t
    induction t with
    | nil =>
      intro A1 hnt hk hbc hbe hfo H locs ls hP hS hl
      have hl : lv_has ls 7 [(3, .int (nI 0)), (0, .ref x), (1, .int (nI n0))] := hl
      refine lv_iload_n hx hb (fh_d d_Mo_setList 64 rfl) rfl (lv_at hl 0 rfl) ?_
      refine lv_if_le (tgt := 190) hx hb (fh_d d_Mo_setList 65 rfl) rfl (fun c28 => ?_) (fun c28 => absurd c28 (fun z => z (by decide)))
      refine lv_aload_n hx hb (fh_d d_Mo_setList 112 rfl) rfl (lv_at hl 1 rfl) ?_
      refine fh_get (own := "FormulaSetterModel") (ref := "FormulaSetterModel") (C := "FormulaSetterModel") (T := T_Mo) (N := 53) (v := .ref (x + 21)) hx hb hT i_Mo hown hK hP mkM_o rfl 27 (by decide) (hT _ w887) (fun _ h9 => h9) rfl (fh_d d_Mo_setList 113 rfl) ?_
      refine lv_iload_n hx hb (fh_d d_Mo_setList 114 rfl) rfl (lv_at hl 2 rfl) ?_
      refine fn_iald (f := A1 20) (k := n0) hx hb hK hP 0 mkM_a20 rfl (rfl) (by omega) (by decide) (fh_d d_Mo_setList 115 rfl) ?_
      rw [show ((A1 20) n0) = nI s0 from (congrFun (hk 20 (by decide)) n0).trans h20]
      refine fh_callS (cc' := c_Mo_zOf) (nL' := 1) (rest := []) (av := [.int (nI s0)]) X hR (m_Mo_zO l D ct b RO hR (r - 1) (by omega) n s0 hs0 (mkM ct x g A1 th co at_ wr no nu op pi wi he de)) w1139 w1137 w1138 w9 ⟨by decide, by decide, by show _ = some 1; decide +kernel⟩ (by omega) (by decide) hP hS hl.1 rfl (by exact Nat.le_of_ble_eq_true rfl) (fh_d d_Mo_setList 116 rfl) ⟨Nat.le_refl _, Nat.le_refl _⟩ (fun v9 h9 n9 H locs hq hP hS => ?_)
      obtain ⟨rfl, q29a, q29b⟩ := hq
      rw [q29a, q29b] at hP
      refine W.eq (g2 := F0 m 199 ls [.int (yS s0)]) rfl ?_
      refine lv_istore_n (lv' := [(3, .int (yS s0)), (0, .ref x), (1, .int (nI n0))]) hx hb (fh_d d_Mo_setList 117 rfl) rfl hl (by decide) rfl (fun ls hl => ?_)
      refine lv_aload_n hx hb (fh_d d_Mo_setList 118 rfl) rfl (lv_at hl 1 rfl) ?_
      refine fh_get (own := "FormulaSetterModel") (ref := "FormulaSetterModel") (C := "FormulaSetterModel") (T := T_Mo) (N := 53) (v := .ref (x + 23)) hx hb hT i_Mo hown hK hP mkM_o rfl 29 (by decide) (hT _ w889) (fun _ h9 => h9) rfl (fh_d d_Mo_setList 119 rfl) ?_
      refine lv_iload_n hx hb (fh_d d_Mo_setList 120 rfl) rfl (lv_at hl 2 rfl) ?_
      refine lv_iconst (v := 0) hx hb (fh_d d_Mo_setList 121 rfl) (by decide) ?_
      refine fn_iast (f := A1 22) (k := n0) hx hb hK hP hS 0 mkM_a22 rfl (rfl) (by omega) (by decide) (fh_d d_Mo_setList 122 rfl) (fun H locs hP hS => ?_)
      replace hP := fh_P.eq (h' := mkM ct x g (up2 A1 22 (upd (A1 22) n0 0)) th co at_ wr no nu op pi wi he de) hP mkM_u22
      refine lv_aload_n hx hb (fh_d d_Mo_setList 123 rfl) rfl (lv_at hl 1 rfl) ?_
      refine fh_get (own := "FormulaSetterModel") (ref := "FormulaSetterModel") (C := "FormulaSetterModel") (T := T_Mo) (N := 53) (v := .ref (x + 24)) hx hb hT i_Mo hown hK hP mkM_o rfl 30 (by decide) (hT _ w890) (fun _ h9 => h9) rfl (fh_d d_Mo_setList 124 rfl) ?_
      refine lv_iload_n hx hb (fh_d d_Mo_setList 125 rfl) rfl (lv_at hl 2 rfl) ?_
      refine lv_iconst (v := 0) hx hb (fh_d d_Mo_setList 126 rfl) (by decide) ?_
      refine fn_iast (f := A1 23) (k := n0) hx hb hK hP hS 0 mkM_a23 rfl (rfl) (by omega) (by decide) (fh_d d_Mo_setList 127 rfl) (fun H locs hP hS => ?_)
      replace hP := fh_P.eq (h' := mkM ct x g (up2 (up2 A1 22 (upd (A1 22) n0 0)) 23 (upd (A1 23) n0 0)) th co at_ wr no nu op pi wi he de) hP mkM_u23
      refine lv_aload_n hx hb (fh_d d_Mo_setList 128 rfl) rfl (lv_at hl 1 rfl) ?_
      refine fh_get (own := "FormulaSetterModel") (ref := "FormulaSetterModel") (C := "FormulaSetterModel") (T := T_Mo) (N := 53) (v := .ref (x + 25)) hx hb hT i_Mo hown hK hP mkM_o rfl 31 (by decide) (hT _ w891) (fun _ h9 => h9) rfl (fh_d d_Mo_setList 129 rfl) ?_
      refine lv_iload_n hx hb (fh_d d_Mo_setList 130 rfl) rfl (lv_at hl 2 rfl) ?_
      refine lv_iconst (v := 0) hx hb (fh_d d_Mo_setList 131 rfl) (by decide) ?_
      refine fn_iast (f := A1 24) (k := n0) hx hb hK hP hS 0 mkM_a24 rfl (rfl) (by omega) (by decide) (fh_d d_Mo_setList 132 rfl) (fun H locs hP hS => ?_)
      replace hP := fh_P.eq (h' := mkM ct x g (up2 (up2 (up2 A1 22 (upd (A1 22) n0 0)) 23 (upd (A1 23) n0 0)) 24 (upd (A1 24) n0 0)) th co at_ wr no nu op pi wi he de) hP mkM_u24
      refine lv_aload_n hx hb (fh_d d_Mo_setList 133 rfl) rfl (lv_at hl 1 rfl) ?_
      refine fh_get (own := "FormulaSetterModel") (ref := "FormulaSetterModel") (C := "FormulaSetterModel") (T := T_Mo) (N := 53) (v := .ref (x + 7)) hx hb hT i_Mo hown hK hP mkM_o rfl 12 (by decide) (hT _ w872) (fun _ h9 => h9) rfl (fh_d d_Mo_setList 134 rfl) ?_
      refine lv_iload_n hx hb (fh_d d_Mo_setList 135 rfl) rfl (lv_at hl 2 rfl) ?_
      refine fn_iald (f := A1 6) (k := n0) hx hb hK hP 0 mkM_a6 rfl (rfl) (by omega) (by decide) (fh_d d_Mo_setList 136 rfl) ?_
      rw [show ((A1 6) n0) = nI (hdz cs) from (congrFun (hk 6 (by decide)) n0).trans h6]
      refine lv_istore (lv' := [(4, .int (nI (hdz cs))), (3, .int (yS s0)), (0, .ref x), (1, .int (nI n0))]) hx hb (fh_d d_Mo_setList 137 rfl) hl (by decide) rfl (fun ls hl => ?_)
      exact l3 cs (rl0 n0 A1) hnx (hk 7 (by decide)) (hk 20 (by decide)) hbc hfo H _ _ hP hS (lv_sub hl [0, 1, 2, 3] rfl)
    | cons i t ih =>
      intro A1 hnt hk hbc hbe hfo H locs ls hP hS hl
      have hi8 := hbe i List.mem_cons_self
      rcases t with _ | ⟨j, t⟩
      · skip
        have hl : lv_has ls 7 [(3, .int (nI i)), (0, .ref x), (1, .int (nI n0))] := hl
        refine lv_iload_n hx hb (fh_d d_Mo_setList 64 rfl) rfl (lv_at hl 0 rfl) ?_
        refine lv_if_le (tgt := 190) hx hb (fh_d d_Mo_setList 65 rfl) rfl (fun c30 => absurd c30 (nI_np hnt.1)) (fun c30 => ?_)
        refine lv_aload_n hx hb (fh_d d_Mo_setList 66 rfl) rfl (lv_at hl 1 rfl) ?_
        refine fh_get (own := "FormulaSetterModel") (ref := "FormulaSetterModel") (C := "FormulaSetterModel") (T := T_Mo) (N := 53) (v := .ref (x + 8)) hx hb hT i_Mo hown hK hP mkM_o rfl 13 (by decide) (hT _ w873) (fun _ h9 => h9) rfl (fh_d d_Mo_setList 67 rfl) ?_
        refine lv_iload_n hx hb (fh_d d_Mo_setList 68 rfl) rfl (lv_at hl 0 rfl) ?_
        refine fn_iald (f := A1 7) (k := i) hx hb hK hP 0 mkM_a7 rfl (rfl) (hnt.1.2) (by decide) (fh_d d_Mo_setList 69 rfl) ?_
        rw [show ((A1 7) i) = nI 0 from (congrFun (hk 7 (by decide)) i).trans hnt.2.1]
        refine lv_if_ne (tgt := 122) hx hb (fh_d d_Mo_setList 70 rfl) rfl (fun c31 => absurd c31 (Classical.not_not.mpr rfl)) (fun c31 => ?_)
        refine lv_iconst (v := 5) hx hb (fh_d d_Mo_setList 71 rfl) (by decide) ?_
        refine lv_goto (tgt := 133) hx hb (fh_d d_Mo_setList 72 rfl) rfl ?_
        refine lv_istore (lv' := [(4, .int 5), (3, .int (nI i)), (0, .ref x), (1, .int (nI n0))]) hx hb (fh_d d_Mo_setList 80 rfl) hl (by decide) rfl (fun ls hl => ?_)
        refine lv_aload_n hx hb (fh_d d_Mo_setList 81 rfl) rfl (lv_at hl 2 rfl) ?_
        refine fh_get (own := "FormulaSetterModel") (ref := "FormulaSetterModel") (C := "FormulaSetterModel") (T := T_Mo) (N := 53) (v := .ref (x + 34)) hx hb hT i_Mo hown hK hP mkM_o rfl 40 (by decide) (hT _ w900) (fun _ h9 => h9) rfl (fh_d d_Mo_setList 82 rfl) ?_
        refine lv_iload_n hx hb (fh_d d_Mo_setList 83 rfl) rfl (lv_at hl 1 rfl) ?_
        refine lv_aload_n hx hb (fh_d d_Mo_setList 84 rfl) rfl (lv_at hl 2 rfl) ?_
        refine fh_get (own := "FormulaSetterModel") (ref := "FormulaSetterModel") (C := "FormulaSetterModel") (T := T_Mo) (N := 53) (v := .ref (x + 34)) hx hb hT i_Mo hown hK hP mkM_o rfl 40 (by decide) (hT _ w900) (fun _ h9 => h9) rfl (fh_d d_Mo_setList 85 rfl) ?_
        refine lv_iload_n hx hb (fh_d d_Mo_setList 86 rfl) rfl (lv_at hl 1 rfl) ?_
        refine fn_iald (f := A1 33) (k := i) hx hb hK hP 0 mkM_a33 rfl (rfl) (hnt.1.2) (by decide) (fh_d d_Mo_setList 87 rfl) ?_
        refine lv_iconst (v := 2) hx hb (fh_d d_Mo_setList 88 rfl) (by decide) ?_
        refine lv_icmp_ne (tgt := 173) hx hb (fh_d d_Mo_setList 89 rfl) rfl (fun c32 => ?_) (fun c32 => ?_)
        · refine lv_aload_n hx hb (fh_d d_Mo_setList 101 rfl) rfl (lv_at hl 2 rfl) ?_
          refine fh_get (own := "FormulaSetterModel") (ref := "FormulaSetterModel") (C := "FormulaSetterModel") (T := T_Mo) (N := 53) (v := .ref (x + 34)) hx hb hT i_Mo hown hK hP mkM_o rfl 40 (by decide) (hT _ w900) (fun _ h9 => h9) rfl (fh_d d_Mo_setList 102 rfl) ?_
          refine lv_iload_n hx hb (fh_d d_Mo_setList 103 rfl) rfl (lv_at hl 1 rfl) ?_
          refine fn_iald (f := A1 33) (k := i) hx hb hK hP 0 mkM_a33 rfl (rfl) (hnt.1.2) (by decide) (fh_d d_Mo_setList 104 rfl) ?_
          refine fn_iast (f := A1 33) (k := i) hx hb hK hP hS 0 mkM_a33 rfl (rfl) (hnt.1.2) (by decide) (fh_d d_Mo_setList 105 rfl) (fun H locs hP hS => ?_)
          replace hP := fh_P.eq (h' := mkM ct x g (up2 A1 33 (upd (A1 33) i ((A1 33) i))) th co at_ wr no nu op pi wi he de) hP mkM_u33
          refine lv_aload_n hx hb (fh_d d_Mo_setList 106 rfl) rfl (lv_at hl 2 rfl) ?_
          refine fh_get (own := "FormulaSetterModel") (ref := "FormulaSetterModel") (C := "FormulaSetterModel") (T := T_Mo) (N := 53) (v := .ref (x + 8)) hx hb hT i_Mo hown hK hP mkM_o rfl 13 (by decide) (hT _ w873) (fun _ h9 => h9) rfl (fh_d d_Mo_setList 107 rfl) ?_
          refine lv_iload_n hx hb (fh_d d_Mo_setList 108 rfl) rfl (lv_at hl 1 rfl) ?_
          refine fn_iald (f := A1 7) (k := i) hx hb hK hP 0 mkM_a7 rfl (rfl) (hnt.1.2) (by decide) (fh_d d_Mo_setList 109 rfl) ?_
          rw [show ((A1 7) i) = nI 0 from (congrFun (hk 7 (by decide)) i).trans hnt.2.1]
          refine lv_istore_n (lv' := [(3, .int (nI 0)), (4, .int 5), (0, .ref x), (1, .int (nI n0))]) hx hb (fh_d d_Mo_setList 110 rfl) rfl hl (by decide) rfl (fun ls hl => ?_)
          refine lv_goto (tgt := 105) hx hb (fh_d d_Mo_setList 111 rfl) rfl ?_
          have etr : tr2 (A1 33 i) (bhd A1 []) = A1 33 i := if_neg (fun z => c32 z.1)
          have hv8 : ∃ p, p < 8 ∧ (A1 33 i : Int32) = nI p := etr ▸ tr2_8 hi8
          exact ih (up2 A1 33 (upd (A1 33) i (A1 33 i))) hnt.2.2 (fun k h => (if_neg h).trans (hk k h)) (fun q hq => up33_8 hv8 (Or.inl (hbc q hq))) (fun q hq => up33_8 hv8 (Or.inl (hbe q (List.mem_cons_of_mem _ hq)))) ((congrArg (fun z => rl3 n0 s0 cs (rl0 n0 (rl2 [] (up2 A1 33 (upd (A1 33) i z))))) etr.symm).trans hfo) H locs _ hP hS (lv_sub hl [0, 2, 3] rfl)
        · refine lv_iload hx hb (fh_d d_Mo_setList 90 rfl) (lv_at hl 0 rfl) ?_
          refine lv_iconst (v := 3) hx hb (fh_d d_Mo_setList 91 rfl) (by decide) ?_
          refine lv_icmp_eq (tgt := 169) hx hb (fh_d d_Mo_setList 92 rfl) rfl (fun c33 => absurd c33 (by decide)) (fun c33 => ?_)
          refine lv_iload hx hb (fh_d d_Mo_setList 93 rfl) (lv_at hl 0 rfl) ?_
          refine lv_iconst (v := 5) hx hb (fh_d d_Mo_setList 94 rfl) (by decide) ?_
          refine lv_icmp_eq (tgt := 169) hx hb (fh_d d_Mo_setList 95 rfl) rfl (fun c34 => ?_) (fun c34 => absurd c34 (Classical.not_not.mpr (by decide)))
          refine lv_iconst (v := 0) hx hb (fh_d d_Mo_setList 99 rfl) (by decide) ?_
          refine lv_goto (tgt := 179) hx hb (fh_d d_Mo_setList 100 rfl) rfl ?_
          refine fn_iast (f := A1 33) (k := i) hx hb hK hP hS 0 mkM_a33 rfl (rfl) (hnt.1.2) (by decide) (fh_d d_Mo_setList 105 rfl) (fun H locs hP hS => ?_)
          replace hP := fh_P.eq (h' := mkM ct x g (up2 A1 33 (upd (A1 33) i 0)) th co at_ wr no nu op pi wi he de) hP mkM_u33
          refine lv_aload_n hx hb (fh_d d_Mo_setList 106 rfl) rfl (lv_at hl 2 rfl) ?_
          refine fh_get (own := "FormulaSetterModel") (ref := "FormulaSetterModel") (C := "FormulaSetterModel") (T := T_Mo) (N := 53) (v := .ref (x + 8)) hx hb hT i_Mo hown hK hP mkM_o rfl 13 (by decide) (hT _ w873) (fun _ h9 => h9) rfl (fh_d d_Mo_setList 107 rfl) ?_
          refine lv_iload_n hx hb (fh_d d_Mo_setList 108 rfl) rfl (lv_at hl 1 rfl) ?_
          refine fn_iald (f := A1 7) (k := i) hx hb hK hP 0 mkM_a7 rfl (rfl) (hnt.1.2) (by decide) (fh_d d_Mo_setList 109 rfl) ?_
          rw [show ((A1 7) i) = nI 0 from (congrFun (hk 7 (by decide)) i).trans hnt.2.1]
          refine lv_istore_n (lv' := [(3, .int (nI 0)), (4, .int 5), (0, .ref x), (1, .int (nI n0))]) hx hb (fh_d d_Mo_setList 110 rfl) rfl hl (by decide) rfl (fun ls hl => ?_)
          refine lv_goto (tgt := 105) hx hb (fh_d d_Mo_setList 111 rfl) rfl ?_
          have etr : tr2 (A1 33 i) (bhd A1 []) = 0 := if_pos ⟨c32, Or.inr (Or.inl c34)⟩
          have hv8 : ∃ p, p < 8 ∧ (0 : Int32) = nI p := etr ▸ tr2_8 hi8
          exact ih (up2 A1 33 (upd (A1 33) i (0))) hnt.2.2 (fun k h => (if_neg h).trans (hk k h)) (fun q hq => up33_8 hv8 (Or.inl (hbc q hq))) (fun q hq => up33_8 hv8 (Or.inl (hbe q (List.mem_cons_of_mem _ hq)))) ((congrArg (fun z => rl3 n0 s0 cs (rl0 n0 (rl2 [] (up2 A1 33 (upd (A1 33) i z))))) etr.symm).trans hfo) H locs _ hP hS (lv_sub hl [0, 2, 3] rfl)
      · skip
        have hl : lv_has ls 7 [(3, .int (nI i)), (0, .ref x), (1, .int (nI n0))] := hl
        refine lv_iload_n hx hb (fh_d d_Mo_setList 64 rfl) rfl (lv_at hl 0 rfl) ?_
        refine lv_if_le (tgt := 190) hx hb (fh_d d_Mo_setList 65 rfl) rfl (fun c35 => absurd c35 (nI_np hnt.1)) (fun c35 => ?_)
        refine lv_aload_n hx hb (fh_d d_Mo_setList 66 rfl) rfl (lv_at hl 1 rfl) ?_
        refine fh_get (own := "FormulaSetterModel") (ref := "FormulaSetterModel") (C := "FormulaSetterModel") (T := T_Mo) (N := 53) (v := .ref (x + 8)) hx hb hT i_Mo hown hK hP mkM_o rfl 13 (by decide) (hT _ w873) (fun _ h9 => h9) rfl (fh_d d_Mo_setList 67 rfl) ?_
        refine lv_iload_n hx hb (fh_d d_Mo_setList 68 rfl) rfl (lv_at hl 0 rfl) ?_
        refine fn_iald (f := A1 7) (k := i) hx hb hK hP 0 mkM_a7 rfl (rfl) (hnt.1.2) (by decide) (fh_d d_Mo_setList 69 rfl) ?_
        rw [show ((A1 7) i) = nI j from (congrFun (hk 7 (by decide)) i).trans hnt.2.1]
        refine lv_if_ne (tgt := 122) hx hb (fh_d d_Mo_setList 70 rfl) rfl (fun c36 => ?_) (fun c36 => absurd c36 (fun z => absurd (nI_z4 hnt.2.2.1.2 z) (by have := hnt.2.2.1.1; omega)))
        refine lv_aload_n hx hb (fh_d d_Mo_setList 73 rfl) rfl (lv_at hl 1 rfl) ?_
        refine fh_get (own := "FormulaSetterModel") (ref := "FormulaSetterModel") (C := "FormulaSetterModel") (T := T_Mo) (N := 53) (v := .ref (x + 34)) hx hb hT i_Mo hown hK hP mkM_o rfl 40 (by decide) (hT _ w900) (fun _ h9 => h9) rfl (fh_d d_Mo_setList 74 rfl) ?_
        refine lv_aload_n hx hb (fh_d d_Mo_setList 75 rfl) rfl (lv_at hl 1 rfl) ?_
        refine fh_get (own := "FormulaSetterModel") (ref := "FormulaSetterModel") (C := "FormulaSetterModel") (T := T_Mo) (N := 53) (v := .ref (x + 8)) hx hb hT i_Mo hown hK hP mkM_o rfl 13 (by decide) (hT _ w873) (fun _ h9 => h9) rfl (fh_d d_Mo_setList 76 rfl) ?_
        refine lv_iload_n hx hb (fh_d d_Mo_setList 77 rfl) rfl (lv_at hl 0 rfl) ?_
        refine fn_iald (f := A1 7) (k := i) hx hb hK hP 0 mkM_a7 rfl (rfl) (hnt.1.2) (by decide) (fh_d d_Mo_setList 78 rfl) ?_
        rw [show ((A1 7) i) = nI j from (congrFun (hk 7 (by decide)) i).trans hnt.2.1]
        refine fn_iald (f := A1 33) (k := j) hx hb hK hP 0 mkM_a33 rfl (rfl) (hnt.2.2.1.2) (by decide) (fh_d d_Mo_setList 79 rfl) ?_
        refine lv_istore (lv' := [(4, .int ((A1 33) j)), (3, .int (nI i)), (0, .ref x), (1, .int (nI n0))]) hx hb (fh_d d_Mo_setList 80 rfl) hl (by decide) rfl (fun ls hl => ?_)
        refine lv_aload_n hx hb (fh_d d_Mo_setList 81 rfl) rfl (lv_at hl 2 rfl) ?_
        refine fh_get (own := "FormulaSetterModel") (ref := "FormulaSetterModel") (C := "FormulaSetterModel") (T := T_Mo) (N := 53) (v := .ref (x + 34)) hx hb hT i_Mo hown hK hP mkM_o rfl 40 (by decide) (hT _ w900) (fun _ h9 => h9) rfl (fh_d d_Mo_setList 82 rfl) ?_
        refine lv_iload_n hx hb (fh_d d_Mo_setList 83 rfl) rfl (lv_at hl 1 rfl) ?_
        refine lv_aload_n hx hb (fh_d d_Mo_setList 84 rfl) rfl (lv_at hl 2 rfl) ?_
        refine fh_get (own := "FormulaSetterModel") (ref := "FormulaSetterModel") (C := "FormulaSetterModel") (T := T_Mo) (N := 53) (v := .ref (x + 34)) hx hb hT i_Mo hown hK hP mkM_o rfl 40 (by decide) (hT _ w900) (fun _ h9 => h9) rfl (fh_d d_Mo_setList 85 rfl) ?_
        refine lv_iload_n hx hb (fh_d d_Mo_setList 86 rfl) rfl (lv_at hl 1 rfl) ?_
        refine fn_iald (f := A1 33) (k := i) hx hb hK hP 0 mkM_a33 rfl (rfl) (hnt.1.2) (by decide) (fh_d d_Mo_setList 87 rfl) ?_
        refine lv_iconst (v := 2) hx hb (fh_d d_Mo_setList 88 rfl) (by decide) ?_
        refine lv_icmp_ne (tgt := 173) hx hb (fh_d d_Mo_setList 89 rfl) rfl (fun c37 => ?_) (fun c37 => ?_)
        · refine lv_aload_n hx hb (fh_d d_Mo_setList 101 rfl) rfl (lv_at hl 2 rfl) ?_
          refine fh_get (own := "FormulaSetterModel") (ref := "FormulaSetterModel") (C := "FormulaSetterModel") (T := T_Mo) (N := 53) (v := .ref (x + 34)) hx hb hT i_Mo hown hK hP mkM_o rfl 40 (by decide) (hT _ w900) (fun _ h9 => h9) rfl (fh_d d_Mo_setList 102 rfl) ?_
          refine lv_iload_n hx hb (fh_d d_Mo_setList 103 rfl) rfl (lv_at hl 1 rfl) ?_
          refine fn_iald (f := A1 33) (k := i) hx hb hK hP 0 mkM_a33 rfl (rfl) (hnt.1.2) (by decide) (fh_d d_Mo_setList 104 rfl) ?_
          refine fn_iast (f := A1 33) (k := i) hx hb hK hP hS 0 mkM_a33 rfl (rfl) (hnt.1.2) (by decide) (fh_d d_Mo_setList 105 rfl) (fun H locs hP hS => ?_)
          replace hP := fh_P.eq (h' := mkM ct x g (up2 A1 33 (upd (A1 33) i ((A1 33) i))) th co at_ wr no nu op pi wi he de) hP mkM_u33
          refine lv_aload_n hx hb (fh_d d_Mo_setList 106 rfl) rfl (lv_at hl 2 rfl) ?_
          refine fh_get (own := "FormulaSetterModel") (ref := "FormulaSetterModel") (C := "FormulaSetterModel") (T := T_Mo) (N := 53) (v := .ref (x + 8)) hx hb hT i_Mo hown hK hP mkM_o rfl 13 (by decide) (hT _ w873) (fun _ h9 => h9) rfl (fh_d d_Mo_setList 107 rfl) ?_
          refine lv_iload_n hx hb (fh_d d_Mo_setList 108 rfl) rfl (lv_at hl 1 rfl) ?_
          refine fn_iald (f := A1 7) (k := i) hx hb hK hP 0 mkM_a7 rfl (rfl) (hnt.1.2) (by decide) (fh_d d_Mo_setList 109 rfl) ?_
          rw [show ((A1 7) i) = nI j from (congrFun (hk 7 (by decide)) i).trans hnt.2.1]
          refine lv_istore_n (lv' := [(3, .int (nI j)), (4, .int ((A1 33) j)), (0, .ref x), (1, .int (nI n0))]) hx hb (fh_d d_Mo_setList 110 rfl) rfl hl (by decide) rfl (fun ls hl => ?_)
          refine lv_goto (tgt := 105) hx hb (fh_d d_Mo_setList 111 rfl) rfl ?_
          have etr : tr2 (A1 33 i) (bhd A1 (j :: t)) = A1 33 i := if_neg (fun z => c37 z.1)
          have hv8 : ∃ p, p < 8 ∧ (A1 33 i : Int32) = nI p := etr ▸ tr2_8 hi8
          exact ih (up2 A1 33 (upd (A1 33) i (A1 33 i))) hnt.2.2 (fun k h => (if_neg h).trans (hk k h)) (fun q hq => up33_8 hv8 (Or.inl (hbc q hq))) (fun q hq => up33_8 hv8 (Or.inl (hbe q (List.mem_cons_of_mem _ hq)))) ((congrArg (fun z => rl3 n0 s0 cs (rl0 n0 (rl2 (j :: t) (up2 A1 33 (upd (A1 33) i z))))) etr.symm).trans hfo) H locs _ hP hS (lv_sub hl [0, 2, 3] rfl)
        · refine lv_iload hx hb (fh_d d_Mo_setList 90 rfl) (lv_at hl 0 rfl) ?_
          refine lv_iconst (v := 3) hx hb (fh_d d_Mo_setList 91 rfl) (by decide) ?_
          refine lv_icmp_eq (tgt := 169) hx hb (fh_d d_Mo_setList 92 rfl) rfl (fun c38 => ?_) (fun c38 => ?_)
          · refine lv_iconst (v := 0) hx hb (fh_d d_Mo_setList 99 rfl) (by decide) ?_
            refine lv_goto (tgt := 179) hx hb (fh_d d_Mo_setList 100 rfl) rfl ?_
            refine fn_iast (f := A1 33) (k := i) hx hb hK hP hS 0 mkM_a33 rfl (rfl) (hnt.1.2) (by decide) (fh_d d_Mo_setList 105 rfl) (fun H locs hP hS => ?_)
            replace hP := fh_P.eq (h' := mkM ct x g (up2 A1 33 (upd (A1 33) i 0)) th co at_ wr no nu op pi wi he de) hP mkM_u33
            refine lv_aload_n hx hb (fh_d d_Mo_setList 106 rfl) rfl (lv_at hl 2 rfl) ?_
            refine fh_get (own := "FormulaSetterModel") (ref := "FormulaSetterModel") (C := "FormulaSetterModel") (T := T_Mo) (N := 53) (v := .ref (x + 8)) hx hb hT i_Mo hown hK hP mkM_o rfl 13 (by decide) (hT _ w873) (fun _ h9 => h9) rfl (fh_d d_Mo_setList 107 rfl) ?_
            refine lv_iload_n hx hb (fh_d d_Mo_setList 108 rfl) rfl (lv_at hl 1 rfl) ?_
            refine fn_iald (f := A1 7) (k := i) hx hb hK hP 0 mkM_a7 rfl (rfl) (hnt.1.2) (by decide) (fh_d d_Mo_setList 109 rfl) ?_
            rw [show ((A1 7) i) = nI j from (congrFun (hk 7 (by decide)) i).trans hnt.2.1]
            refine lv_istore_n (lv' := [(3, .int (nI j)), (4, .int ((A1 33) j)), (0, .ref x), (1, .int (nI n0))]) hx hb (fh_d d_Mo_setList 110 rfl) rfl hl (by decide) rfl (fun ls hl => ?_)
            refine lv_goto (tgt := 105) hx hb (fh_d d_Mo_setList 111 rfl) rfl ?_
            have etr : tr2 (A1 33 i) (bhd A1 (j :: t)) = 0 := if_pos ⟨c37, Or.inl c38⟩
            have hv8 : ∃ p, p < 8 ∧ (0 : Int32) = nI p := etr ▸ tr2_8 hi8
            exact ih (up2 A1 33 (upd (A1 33) i (0))) hnt.2.2 (fun k h => (if_neg h).trans (hk k h)) (fun q hq => up33_8 hv8 (Or.inl (hbc q hq))) (fun q hq => up33_8 hv8 (Or.inl (hbe q (List.mem_cons_of_mem _ hq)))) ((congrArg (fun z => rl3 n0 s0 cs (rl0 n0 (rl2 (j :: t) (up2 A1 33 (upd (A1 33) i z))))) etr.symm).trans hfo) H locs _ hP hS (lv_sub hl [0, 2, 3] rfl)
          · refine lv_iload hx hb (fh_d d_Mo_setList 93 rfl) (lv_at hl 0 rfl) ?_
            refine lv_iconst (v := 5) hx hb (fh_d d_Mo_setList 94 rfl) (by decide) ?_
            refine lv_icmp_eq (tgt := 169) hx hb (fh_d d_Mo_setList 95 rfl) rfl (fun c39 => ?_) (fun c39 => ?_)
            · refine lv_iconst (v := 0) hx hb (fh_d d_Mo_setList 99 rfl) (by decide) ?_
              refine lv_goto (tgt := 179) hx hb (fh_d d_Mo_setList 100 rfl) rfl ?_
              refine fn_iast (f := A1 33) (k := i) hx hb hK hP hS 0 mkM_a33 rfl (rfl) (hnt.1.2) (by decide) (fh_d d_Mo_setList 105 rfl) (fun H locs hP hS => ?_)
              replace hP := fh_P.eq (h' := mkM ct x g (up2 A1 33 (upd (A1 33) i 0)) th co at_ wr no nu op pi wi he de) hP mkM_u33
              refine lv_aload_n hx hb (fh_d d_Mo_setList 106 rfl) rfl (lv_at hl 2 rfl) ?_
              refine fh_get (own := "FormulaSetterModel") (ref := "FormulaSetterModel") (C := "FormulaSetterModel") (T := T_Mo) (N := 53) (v := .ref (x + 8)) hx hb hT i_Mo hown hK hP mkM_o rfl 13 (by decide) (hT _ w873) (fun _ h9 => h9) rfl (fh_d d_Mo_setList 107 rfl) ?_
              refine lv_iload_n hx hb (fh_d d_Mo_setList 108 rfl) rfl (lv_at hl 1 rfl) ?_
              refine fn_iald (f := A1 7) (k := i) hx hb hK hP 0 mkM_a7 rfl (rfl) (hnt.1.2) (by decide) (fh_d d_Mo_setList 109 rfl) ?_
              rw [show ((A1 7) i) = nI j from (congrFun (hk 7 (by decide)) i).trans hnt.2.1]
              refine lv_istore_n (lv' := [(3, .int (nI j)), (4, .int ((A1 33) j)), (0, .ref x), (1, .int (nI n0))]) hx hb (fh_d d_Mo_setList 110 rfl) rfl hl (by decide) rfl (fun ls hl => ?_)
              refine lv_goto (tgt := 105) hx hb (fh_d d_Mo_setList 111 rfl) rfl ?_
              have etr : tr2 (A1 33 i) (bhd A1 (j :: t)) = 0 := if_pos ⟨c37, Or.inr (Or.inl c39)⟩
              have hv8 : ∃ p, p < 8 ∧ (0 : Int32) = nI p := etr ▸ tr2_8 hi8
              exact ih (up2 A1 33 (upd (A1 33) i (0))) hnt.2.2 (fun k h => (if_neg h).trans (hk k h)) (fun q hq => up33_8 hv8 (Or.inl (hbc q hq))) (fun q hq => up33_8 hv8 (Or.inl (hbe q (List.mem_cons_of_mem _ hq)))) ((congrArg (fun z => rl3 n0 s0 cs (rl0 n0 (rl2 (j :: t) (up2 A1 33 (upd (A1 33) i z))))) etr.symm).trans hfo) H locs _ hP hS (lv_sub hl [0, 2, 3] rfl)
            · refine lv_iload hx hb (fh_d d_Mo_setList 96 rfl) (lv_at hl 0 rfl) ?_
              refine lv_bipush (v := 6) hx hb (fh_d d_Mo_setList 97 rfl) (by decide) ?_
              refine lv_icmp_ne (tgt := 173) hx hb (fh_d d_Mo_setList 98 rfl) rfl (fun c40 => ?_) (fun c40 => ?_)
              · refine lv_aload_n hx hb (fh_d d_Mo_setList 101 rfl) rfl (lv_at hl 2 rfl) ?_
                refine fh_get (own := "FormulaSetterModel") (ref := "FormulaSetterModel") (C := "FormulaSetterModel") (T := T_Mo) (N := 53) (v := .ref (x + 34)) hx hb hT i_Mo hown hK hP mkM_o rfl 40 (by decide) (hT _ w900) (fun _ h9 => h9) rfl (fh_d d_Mo_setList 102 rfl) ?_
                refine lv_iload_n hx hb (fh_d d_Mo_setList 103 rfl) rfl (lv_at hl 1 rfl) ?_
                refine fn_iald (f := A1 33) (k := i) hx hb hK hP 0 mkM_a33 rfl (rfl) (hnt.1.2) (by decide) (fh_d d_Mo_setList 104 rfl) ?_
                refine fn_iast (f := A1 33) (k := i) hx hb hK hP hS 0 mkM_a33 rfl (rfl) (hnt.1.2) (by decide) (fh_d d_Mo_setList 105 rfl) (fun H locs hP hS => ?_)
                replace hP := fh_P.eq (h' := mkM ct x g (up2 A1 33 (upd (A1 33) i ((A1 33) i))) th co at_ wr no nu op pi wi he de) hP mkM_u33
                refine lv_aload_n hx hb (fh_d d_Mo_setList 106 rfl) rfl (lv_at hl 2 rfl) ?_
                refine fh_get (own := "FormulaSetterModel") (ref := "FormulaSetterModel") (C := "FormulaSetterModel") (T := T_Mo) (N := 53) (v := .ref (x + 8)) hx hb hT i_Mo hown hK hP mkM_o rfl 13 (by decide) (hT _ w873) (fun _ h9 => h9) rfl (fh_d d_Mo_setList 107 rfl) ?_
                refine lv_iload_n hx hb (fh_d d_Mo_setList 108 rfl) rfl (lv_at hl 1 rfl) ?_
                refine fn_iald (f := A1 7) (k := i) hx hb hK hP 0 mkM_a7 rfl (rfl) (hnt.1.2) (by decide) (fh_d d_Mo_setList 109 rfl) ?_
                rw [show ((A1 7) i) = nI j from (congrFun (hk 7 (by decide)) i).trans hnt.2.1]
                refine lv_istore_n (lv' := [(3, .int (nI j)), (4, .int ((A1 33) j)), (0, .ref x), (1, .int (nI n0))]) hx hb (fh_d d_Mo_setList 110 rfl) rfl hl (by decide) rfl (fun ls hl => ?_)
                refine lv_goto (tgt := 105) hx hb (fh_d d_Mo_setList 111 rfl) rfl ?_
                have etr : tr2 (A1 33 i) (bhd A1 (j :: t)) = A1 33 i := if_neg (fun z => z.2.elim c38 (fun y => y.elim c39 c40))
                have hv8 : ∃ p, p < 8 ∧ (A1 33 i : Int32) = nI p := etr ▸ tr2_8 hi8
                exact ih (up2 A1 33 (upd (A1 33) i (A1 33 i))) hnt.2.2 (fun k h => (if_neg h).trans (hk k h)) (fun q hq => up33_8 hv8 (Or.inl (hbc q hq))) (fun q hq => up33_8 hv8 (Or.inl (hbe q (List.mem_cons_of_mem _ hq)))) ((congrArg (fun z => rl3 n0 s0 cs (rl0 n0 (rl2 (j :: t) (up2 A1 33 (upd (A1 33) i z))))) etr.symm).trans hfo) H locs _ hP hS (lv_sub hl [0, 2, 3] rfl)
              · refine lv_iconst (v := 0) hx hb (fh_d d_Mo_setList 99 rfl) (by decide) ?_
                refine lv_goto (tgt := 179) hx hb (fh_d d_Mo_setList 100 rfl) rfl ?_
                refine fn_iast (f := A1 33) (k := i) hx hb hK hP hS 0 mkM_a33 rfl (rfl) (hnt.1.2) (by decide) (fh_d d_Mo_setList 105 rfl) (fun H locs hP hS => ?_)
                replace hP := fh_P.eq (h' := mkM ct x g (up2 A1 33 (upd (A1 33) i 0)) th co at_ wr no nu op pi wi he de) hP mkM_u33
                refine lv_aload_n hx hb (fh_d d_Mo_setList 106 rfl) rfl (lv_at hl 2 rfl) ?_
                refine fh_get (own := "FormulaSetterModel") (ref := "FormulaSetterModel") (C := "FormulaSetterModel") (T := T_Mo) (N := 53) (v := .ref (x + 8)) hx hb hT i_Mo hown hK hP mkM_o rfl 13 (by decide) (hT _ w873) (fun _ h9 => h9) rfl (fh_d d_Mo_setList 107 rfl) ?_
                refine lv_iload_n hx hb (fh_d d_Mo_setList 108 rfl) rfl (lv_at hl 1 rfl) ?_
                refine fn_iald (f := A1 7) (k := i) hx hb hK hP 0 mkM_a7 rfl (rfl) (hnt.1.2) (by decide) (fh_d d_Mo_setList 109 rfl) ?_
                rw [show ((A1 7) i) = nI j from (congrFun (hk 7 (by decide)) i).trans hnt.2.1]
                refine lv_istore_n (lv' := [(3, .int (nI j)), (4, .int ((A1 33) j)), (0, .ref x), (1, .int (nI n0))]) hx hb (fh_d d_Mo_setList 110 rfl) rfl hl (by decide) rfl (fun ls hl => ?_)
                refine lv_goto (tgt := 105) hx hb (fh_d d_Mo_setList 111 rfl) rfl ?_
                have etr : tr2 (A1 33 i) (bhd A1 (j :: t)) = 0 := if_pos ⟨c37, Or.inr (Or.inr c40)⟩
                have hv8 : ∃ p, p < 8 ∧ (0 : Int32) = nI p := etr ▸ tr2_8 hi8
                exact ih (up2 A1 33 (upd (A1 33) i (0))) hnt.2.2 (fun k h => (if_neg h).trans (hk k h)) (fun q hq => up33_8 hv8 (Or.inl (hbc q hq))) (fun q hq => up33_8 hv8 (Or.inl (hbe q (List.mem_cons_of_mem _ hq)))) ((congrArg (fun z => rl3 n0 s0 cs (rl0 n0 (rl2 (j :: t) (up2 A1 33 (upd (A1 33) i z))))) etr.symm).trans hfo) H locs _ hP hS (lv_sub hl [0, 2, 3] rfl)
  have l1 : ∀ (t : List Nat) (bf : Int32) (A1 : Nat → Nat → Int32), nxA (A 7) t → (∀ k, k ≠ 33 → A1 k = A k) → (∀ i ∈ t, i ∈ cs) → (∀ i ∈ cs, be8 A1 i ∨ i ∈ t) → rl3 n0 s0 cs (rl0 n0 (rl2 cs (rl1 t bf A1))) = rf_li A n0 s0 cs → ∀ (H : Heap) (locs : List Loc) (ls : Array Slot), fh_P D fh_cl b (mkM ct x g A1 th co at_ wr no nu op pi wi he de) n H → va_S (fh_A b) s.heap H locs → lv_has ls 7 [(2, .int bf), (3, .int (nI (hdz t))), (0, .ref x), (1, .int (nI n0))] → W p l e (fh_rm r 0 0) s m args below meth c H locs 0 0 (MQ below (fh_Post D fh_cl b (fun v h' n' => v = none ∧ h' = mkM ct x g (rf_li A n0 s0 cs) th co at_ wr no nu op pi wi he de ∧ n' = n)) args s 0 0 (fh_A b)) (F0 m 9 ls []) := by
    intro t
    induction t with
    | nil =>
      intro bf A1 hnt hk htc hbe hfo H locs ls hP hS hl
      have hl : lv_has ls 7 [(2, .int bf), (3, .int (nI 0)), (0, .ref x), (1, .int (nI n0))] := hl
      have hbe : ∀ i ∈ cs, be8 A1 i := fun i hi => (hbe i hi).elim id (fun z => absurd z List.not_mem_nil)
      have hb2 : ∀ i ∈ cs, be8 (rl2 cs A1) i := fun i hi => rl2_8 cs A1 hbe i (hbe i hi)
      refine lv_iload_n hx hb (fh_d d_Mo_setList 7 rfl) rfl (lv_at hl 1 rfl) ?_
      refine lv_if_le (tgt := 98) hx hb (fh_d d_Mo_setList 8 rfl) rfl (fun c41 => ?_) (fun c41 => absurd c41 (fun z => z (by decide)))
      refine lv_aload_n hx hb (fh_d d_Mo_setList 59 rfl) rfl (lv_at hl 2 rfl) ?_
      refine fh_get (own := "FormulaSetterModel") (ref := "FormulaSetterModel") (C := "FormulaSetterModel") (T := T_Mo) (N := 53) (v := .ref (x + 7)) hx hb hT i_Mo hown hK hP mkM_o rfl 12 (by decide) (hT _ w872) (fun _ h9 => h9) rfl (fh_d d_Mo_setList 60 rfl) ?_
      refine lv_iload_n hx hb (fh_d d_Mo_setList 61 rfl) rfl (lv_at hl 3 rfl) ?_
      refine fn_iald (f := A1 6) (k := n0) hx hb hK hP 0 mkM_a6 rfl (rfl) (by omega) (by decide) (fh_d d_Mo_setList 62 rfl) ?_
      rw [show ((A1 6) n0) = nI (hdz cs) from (congrFun (hk 6 (by decide)) n0).trans h6]
      refine lv_istore_n (lv' := [(3, .int (nI (hdz cs))), (2, .int bf), (0, .ref x), (1, .int (nI n0))]) hx hb (fh_d d_Mo_setList 63 rfl) rfl hl (by decide) rfl (fun ls hl => ?_)
      exact l2 cs _ hnx hk hbe hbe hfo H _ _ hP hS (lv_sub hl [0, 2, 3] rfl)
    | cons i t ih =>
      intro bf A1 hnt hk htc hbe hfo H locs ls hP hS hl
      have hl : lv_has ls 7 [(2, .int bf), (3, .int (nI i)), (0, .ref x), (1, .int (nI n0))] := hl
      have hs9 : ∃ p, p < 8 ∧ A1 4 i = nI p := by rw [hk 4 (by decide)]; exact hso i (htc i List.mem_cons_self)
      refine lv_iload_n hx hb (fh_d d_Mo_setList 7 rfl) rfl (lv_at hl 1 rfl) ?_
      refine lv_if_le (tgt := 98) hx hb (fh_d d_Mo_setList 8 rfl) rfl (fun c42 => absurd c42 (nI_np hnt.1)) (fun c42 => ?_)
      refine lv_aload_n hx hb (fh_d d_Mo_setList 9 rfl) rfl (lv_at hl 2 rfl) ?_
      refine fh_get (own := "FormulaSetterModel") (ref := "FormulaSetterModel") (C := "FormulaSetterModel") (T := T_Mo) (N := 53) (v := .ref (x + 5)) hx hb hT i_Mo hown hK hP mkM_o rfl 10 (by decide) (hT _ w870) (fun _ h9 => h9) rfl (fh_d d_Mo_setList 10 rfl) ?_
      refine lv_iload_n hx hb (fh_d d_Mo_setList 11 rfl) rfl (lv_at hl 1 rfl) ?_
      refine fn_iald (f := A1 4) (k := i) hx hb hK hP 0 mkM_a4 rfl (rfl) (hnt.1.2) (by decide) (fh_d d_Mo_setList 12 rfl) ?_
      refine lv_iconst (v := 2) hx hb (fh_d d_Mo_setList 13 rfl) (by decide) ?_
      refine lv_icmp_ne (tgt := 57) hx hb (fh_d d_Mo_setList 14 rfl) rfl (fun c43 => ?_) (fun c43 => ?_)
      · refine lv_iconst (v := 0) hx hb (fh_d d_Mo_setList 34 rfl) (by decide) ?_
        refine lv_istore (lv' := [(4, .int 0), (2, .int bf), (3, .int (nI i)), (0, .ref x), (1, .int (nI n0))]) hx hb (fh_d d_Mo_setList 35 rfl) hl (by decide) rfl (fun ls hl => ?_)
        refine lv_aload_n hx hb (fh_d d_Mo_setList 36 rfl) rfl (lv_at hl 3 rfl) ?_
        refine fh_get (own := "FormulaSetterModel") (ref := "FormulaSetterModel") (C := "FormulaSetterModel") (T := T_Mo) (N := 53) (v := .ref (x + 34)) hx hb hT i_Mo hown hK hP mkM_o rfl 40 (by decide) (hT _ w900) (fun _ h9 => h9) rfl (fh_d d_Mo_setList 37 rfl) ?_
        refine lv_iload_n hx hb (fh_d d_Mo_setList 38 rfl) rfl (lv_at hl 2 rfl) ?_
        refine lv_iload hx hb (fh_d d_Mo_setList 39 rfl) (lv_at hl 0 rfl) ?_
        refine lv_if_eq (tgt := 74) hx hb (fh_d d_Mo_setList 40 rfl) rfl (fun c44 => ?_) (fun c44 => absurd c44 (Classical.not_not.mpr (by decide)))
        refine lv_aload_n hx hb (fh_d d_Mo_setList 43 rfl) rfl (lv_at hl 3 rfl) ?_
        refine fh_get (own := "FormulaSetterModel") (ref := "FormulaSetterModel") (C := "FormulaSetterModel") (T := T_Mo) (N := 53) (v := .ref (x + 5)) hx hb hT i_Mo hown hK hP mkM_o rfl 10 (by decide) (hT _ w870) (fun _ h9 => h9) rfl (fh_d d_Mo_setList 44 rfl) ?_
        refine lv_iload_n hx hb (fh_d d_Mo_setList 45 rfl) rfl (lv_at hl 2 rfl) ?_
        refine fn_iald (f := A1 4) (k := i) hx hb hK hP 0 mkM_a4 rfl (rfl) (hnt.1.2) (by decide) (fh_d d_Mo_setList 46 rfl) ?_
        refine fn_iast (f := A1 33) (k := i) hx hb hK hP hS 0 mkM_a33 rfl (rfl) (hnt.1.2) (by decide) (fh_d d_Mo_setList 47 rfl) (fun H locs hP hS => ?_)
        replace hP := fh_P.eq (h' := mkM ct x g (up2 A1 33 (upd (A1 33) i ((A1 4) i))) th co at_ wr no nu op pi wi he de) hP mkM_u33
        refine lv_aload_n hx hb (fh_d d_Mo_setList 48 rfl) rfl (lv_at hl 3 rfl) ?_
        refine fh_get (own := "FormulaSetterModel") (ref := "FormulaSetterModel") (C := "FormulaSetterModel") (T := T_Mo) (N := 53) (v := .ref (x + 34)) hx hb hT i_Mo hown hK hP mkM_o rfl 40 (by decide) (hT _ w900) (fun _ h9 => h9) rfl (fh_d d_Mo_setList 49 rfl) ?_
        refine lv_iload_n hx hb (fh_d d_Mo_setList 50 rfl) rfl (lv_at hl 2 rfl) ?_
        refine fn_iald (f := upd (A1 33) i ((A1 4) i)) (k := i) hx hb hK hP 0 mkM_a33 rfl (rfl) (hnt.1.2) (by decide) (fh_d d_Mo_setList 51 rfl) ?_
        rw [show ((upd (A1 33) i ((A1 4) i)) i) = ((A1 4) i) from upd_s]
        refine lv_istore_n (lv' := [(2, .int ((A1 4) i)), (4, .int 0), (3, .int (nI i)), (0, .ref x), (1, .int (nI n0))]) hx hb (fh_d d_Mo_setList 52 rfl) rfl hl (by decide) rfl (fun ls hl => ?_)
        refine lv_aload_n hx hb (fh_d d_Mo_setList 53 rfl) rfl (lv_at hl 3 rfl) ?_
        refine fh_get (own := "FormulaSetterModel") (ref := "FormulaSetterModel") (C := "FormulaSetterModel") (T := T_Mo) (N := 53) (v := .ref (x + 8)) hx hb hT i_Mo hown hK hP mkM_o rfl 13 (by decide) (hT _ w873) (fun _ h9 => h9) rfl (fh_d d_Mo_setList 54 rfl) ?_
        refine lv_iload_n hx hb (fh_d d_Mo_setList 55 rfl) rfl (lv_at hl 2 rfl) ?_
        refine fn_iald (f := A1 7) (k := i) hx hb hK hP 0 mkM_a7 rfl (rfl) (hnt.1.2) (by decide) (fh_d d_Mo_setList 56 rfl) ?_
        rw [show ((A1 7) i) = nI (hdz t) from (congrFun (hk 7 (by decide)) i).trans hnt.2.1]
        refine lv_istore_n (lv' := [(3, .int (nI (hdz t))), (2, .int ((A1 4) i)), (4, .int 0), (0, .ref x), (1, .int (nI n0))]) hx hb (fh_d d_Mo_setList 57 rfl) rfl hl (by decide) rfl (fun ls hl => ?_)
        refine lv_goto (tgt := 9) hx hb (fh_d d_Mo_setList 58 rfl) rfl ?_
        have etr : tr1 bf (A1 4 i) = A1 4 i := if_neg (fun z => c43 z.1)
        have hv8 : ∃ p, p < 8 ∧ (A1 4 i : Int32) = nI p := etr ▸ tr1_8 hs9
        exact ih (A1 4 i) (up2 A1 33 (upd (A1 33) i (A1 4 i))) hnt.2.2 (fun k h => (if_neg h).trans (hk k h)) (fun q hq => htc q (List.mem_cons_of_mem _ hq)) (fun q hq => by
          by_cases e : q = i
          · exact Or.inl (up33_8 hv8 (Or.inr e))
          · exact (hbe q hq).elim (fun z => Or.inl (up33_8 hv8 (Or.inl z))) (fun z => Or.inr ((List.mem_cons.mp z).resolve_left e))) ((congrArg (fun z => rl3 n0 s0 cs (rl0 n0 (rl2 cs (rl1 t z (up2 A1 33 (upd (A1 33) i z)))))) etr.symm).trans hfo) H locs _ hP hS (lv_sub hl [1, 0, 3, 4] rfl)
      · refine lv_iload_n hx hb (fh_d d_Mo_setList 15 rfl) rfl (lv_at hl 0 rfl) ?_
        refine lv_if_lt (tgt := 53) hx hb (fh_d d_Mo_setList 16 rfl) rfl (fun c45 => ?_) (fun c45 => ?_)
        · refine lv_iconst (v := 1) hx hb (fh_d d_Mo_setList 32 rfl) (by decide) ?_
          refine lv_goto (tgt := 58) hx hb (fh_d d_Mo_setList 33 rfl) rfl ?_
          refine lv_istore (lv' := [(4, .int 1), (2, .int bf), (3, .int (nI i)), (0, .ref x), (1, .int (nI n0))]) hx hb (fh_d d_Mo_setList 35 rfl) hl (by decide) rfl (fun ls hl => ?_)
          refine lv_aload_n hx hb (fh_d d_Mo_setList 36 rfl) rfl (lv_at hl 3 rfl) ?_
          refine fh_get (own := "FormulaSetterModel") (ref := "FormulaSetterModel") (C := "FormulaSetterModel") (T := T_Mo) (N := 53) (v := .ref (x + 34)) hx hb hT i_Mo hown hK hP mkM_o rfl 40 (by decide) (hT _ w900) (fun _ h9 => h9) rfl (fh_d d_Mo_setList 37 rfl) ?_
          refine lv_iload_n hx hb (fh_d d_Mo_setList 38 rfl) rfl (lv_at hl 2 rfl) ?_
          refine lv_iload hx hb (fh_d d_Mo_setList 39 rfl) (lv_at hl 0 rfl) ?_
          refine lv_if_eq (tgt := 74) hx hb (fh_d d_Mo_setList 40 rfl) rfl (fun c46 => absurd c46 (by decide)) (fun c46 => ?_)
          refine lv_iconst (v := 0) hx hb (fh_d d_Mo_setList 41 rfl) (by decide) ?_
          refine lv_goto (tgt := 80) hx hb (fh_d d_Mo_setList 42 rfl) rfl ?_
          refine fn_iast (f := A1 33) (k := i) hx hb hK hP hS 0 mkM_a33 rfl (rfl) (hnt.1.2) (by decide) (fh_d d_Mo_setList 47 rfl) (fun H locs hP hS => ?_)
          replace hP := fh_P.eq (h' := mkM ct x g (up2 A1 33 (upd (A1 33) i 0)) th co at_ wr no nu op pi wi he de) hP mkM_u33
          refine lv_aload_n hx hb (fh_d d_Mo_setList 48 rfl) rfl (lv_at hl 3 rfl) ?_
          refine fh_get (own := "FormulaSetterModel") (ref := "FormulaSetterModel") (C := "FormulaSetterModel") (T := T_Mo) (N := 53) (v := .ref (x + 34)) hx hb hT i_Mo hown hK hP mkM_o rfl 40 (by decide) (hT _ w900) (fun _ h9 => h9) rfl (fh_d d_Mo_setList 49 rfl) ?_
          refine lv_iload_n hx hb (fh_d d_Mo_setList 50 rfl) rfl (lv_at hl 2 rfl) ?_
          refine fn_iald (f := upd (A1 33) i 0) (k := i) hx hb hK hP 0 mkM_a33 rfl (rfl) (hnt.1.2) (by decide) (fh_d d_Mo_setList 51 rfl) ?_
          rw [show ((upd (A1 33) i 0) i) = 0 from upd_s]
          refine lv_istore_n (lv' := [(2, .int 0), (4, .int 1), (3, .int (nI i)), (0, .ref x), (1, .int (nI n0))]) hx hb (fh_d d_Mo_setList 52 rfl) rfl hl (by decide) rfl (fun ls hl => ?_)
          refine lv_aload_n hx hb (fh_d d_Mo_setList 53 rfl) rfl (lv_at hl 3 rfl) ?_
          refine fh_get (own := "FormulaSetterModel") (ref := "FormulaSetterModel") (C := "FormulaSetterModel") (T := T_Mo) (N := 53) (v := .ref (x + 8)) hx hb hT i_Mo hown hK hP mkM_o rfl 13 (by decide) (hT _ w873) (fun _ h9 => h9) rfl (fh_d d_Mo_setList 54 rfl) ?_
          refine lv_iload_n hx hb (fh_d d_Mo_setList 55 rfl) rfl (lv_at hl 2 rfl) ?_
          refine fn_iald (f := A1 7) (k := i) hx hb hK hP 0 mkM_a7 rfl (rfl) (hnt.1.2) (by decide) (fh_d d_Mo_setList 56 rfl) ?_
          rw [show ((A1 7) i) = nI (hdz t) from (congrFun (hk 7 (by decide)) i).trans hnt.2.1]
          refine lv_istore_n (lv' := [(3, .int (nI (hdz t))), (2, .int 0), (4, .int 1), (0, .ref x), (1, .int (nI n0))]) hx hb (fh_d d_Mo_setList 57 rfl) rfl hl (by decide) rfl (fun ls hl => ?_)
          refine lv_goto (tgt := 9) hx hb (fh_d d_Mo_setList 58 rfl) rfl ?_
          have etr : tr1 bf (A1 4 i) = 0 := if_pos ⟨c43, Or.inl c45⟩
          have hv8 : ∃ p, p < 8 ∧ (0 : Int32) = nI p := etr ▸ tr1_8 hs9
          exact ih (0) (up2 A1 33 (upd (A1 33) i (0))) hnt.2.2 (fun k h => (if_neg h).trans (hk k h)) (fun q hq => htc q (List.mem_cons_of_mem _ hq)) (fun q hq => by
            by_cases e : q = i
            · exact Or.inl (up33_8 hv8 (Or.inr e))
            · exact (hbe q hq).elim (fun z => Or.inl (up33_8 hv8 (Or.inl z))) (fun z => Or.inr ((List.mem_cons.mp z).resolve_left e))) ((congrArg (fun z => rl3 n0 s0 cs (rl0 n0 (rl2 cs (rl1 t z (up2 A1 33 (upd (A1 33) i z)))))) etr.symm).trans hfo) H locs _ hP hS (lv_sub hl [1, 0, 3, 4] rfl)
        · refine lv_iload_n hx hb (fh_d d_Mo_setList 17 rfl) rfl (lv_at hl 0 rfl) ?_
          refine lv_iconst (v := 2) hx hb (fh_d d_Mo_setList 18 rfl) (by decide) ?_
          refine lv_icmp_eq (tgt := 53) hx hb (fh_d d_Mo_setList 19 rfl) rfl (fun c47 => ?_) (fun c47 => ?_)
          · refine lv_iconst (v := 1) hx hb (fh_d d_Mo_setList 32 rfl) (by decide) ?_
            refine lv_goto (tgt := 58) hx hb (fh_d d_Mo_setList 33 rfl) rfl ?_
            refine lv_istore (lv' := [(4, .int 1), (2, .int bf), (3, .int (nI i)), (0, .ref x), (1, .int (nI n0))]) hx hb (fh_d d_Mo_setList 35 rfl) hl (by decide) rfl (fun ls hl => ?_)
            refine lv_aload_n hx hb (fh_d d_Mo_setList 36 rfl) rfl (lv_at hl 3 rfl) ?_
            refine fh_get (own := "FormulaSetterModel") (ref := "FormulaSetterModel") (C := "FormulaSetterModel") (T := T_Mo) (N := 53) (v := .ref (x + 34)) hx hb hT i_Mo hown hK hP mkM_o rfl 40 (by decide) (hT _ w900) (fun _ h9 => h9) rfl (fh_d d_Mo_setList 37 rfl) ?_
            refine lv_iload_n hx hb (fh_d d_Mo_setList 38 rfl) rfl (lv_at hl 2 rfl) ?_
            refine lv_iload hx hb (fh_d d_Mo_setList 39 rfl) (lv_at hl 0 rfl) ?_
            refine lv_if_eq (tgt := 74) hx hb (fh_d d_Mo_setList 40 rfl) rfl (fun c48 => absurd c48 (by decide)) (fun c48 => ?_)
            refine lv_iconst (v := 0) hx hb (fh_d d_Mo_setList 41 rfl) (by decide) ?_
            refine lv_goto (tgt := 80) hx hb (fh_d d_Mo_setList 42 rfl) rfl ?_
            refine fn_iast (f := A1 33) (k := i) hx hb hK hP hS 0 mkM_a33 rfl (rfl) (hnt.1.2) (by decide) (fh_d d_Mo_setList 47 rfl) (fun H locs hP hS => ?_)
            replace hP := fh_P.eq (h' := mkM ct x g (up2 A1 33 (upd (A1 33) i 0)) th co at_ wr no nu op pi wi he de) hP mkM_u33
            refine lv_aload_n hx hb (fh_d d_Mo_setList 48 rfl) rfl (lv_at hl 3 rfl) ?_
            refine fh_get (own := "FormulaSetterModel") (ref := "FormulaSetterModel") (C := "FormulaSetterModel") (T := T_Mo) (N := 53) (v := .ref (x + 34)) hx hb hT i_Mo hown hK hP mkM_o rfl 40 (by decide) (hT _ w900) (fun _ h9 => h9) rfl (fh_d d_Mo_setList 49 rfl) ?_
            refine lv_iload_n hx hb (fh_d d_Mo_setList 50 rfl) rfl (lv_at hl 2 rfl) ?_
            refine fn_iald (f := upd (A1 33) i 0) (k := i) hx hb hK hP 0 mkM_a33 rfl (rfl) (hnt.1.2) (by decide) (fh_d d_Mo_setList 51 rfl) ?_
            rw [show ((upd (A1 33) i 0) i) = 0 from upd_s]
            refine lv_istore_n (lv' := [(2, .int 0), (4, .int 1), (3, .int (nI i)), (0, .ref x), (1, .int (nI n0))]) hx hb (fh_d d_Mo_setList 52 rfl) rfl hl (by decide) rfl (fun ls hl => ?_)
            refine lv_aload_n hx hb (fh_d d_Mo_setList 53 rfl) rfl (lv_at hl 3 rfl) ?_
            refine fh_get (own := "FormulaSetterModel") (ref := "FormulaSetterModel") (C := "FormulaSetterModel") (T := T_Mo) (N := 53) (v := .ref (x + 8)) hx hb hT i_Mo hown hK hP mkM_o rfl 13 (by decide) (hT _ w873) (fun _ h9 => h9) rfl (fh_d d_Mo_setList 54 rfl) ?_
            refine lv_iload_n hx hb (fh_d d_Mo_setList 55 rfl) rfl (lv_at hl 2 rfl) ?_
            refine fn_iald (f := A1 7) (k := i) hx hb hK hP 0 mkM_a7 rfl (rfl) (hnt.1.2) (by decide) (fh_d d_Mo_setList 56 rfl) ?_
            rw [show ((A1 7) i) = nI (hdz t) from (congrFun (hk 7 (by decide)) i).trans hnt.2.1]
            refine lv_istore_n (lv' := [(3, .int (nI (hdz t))), (2, .int 0), (4, .int 1), (0, .ref x), (1, .int (nI n0))]) hx hb (fh_d d_Mo_setList 57 rfl) rfl hl (by decide) rfl (fun ls hl => ?_)
            refine lv_goto (tgt := 9) hx hb (fh_d d_Mo_setList 58 rfl) rfl ?_
            have etr : tr1 bf (A1 4 i) = 0 := if_pos ⟨c43, Or.inr (Or.inl c47)⟩
            have hv8 : ∃ p, p < 8 ∧ (0 : Int32) = nI p := etr ▸ tr1_8 hs9
            exact ih (0) (up2 A1 33 (upd (A1 33) i (0))) hnt.2.2 (fun k h => (if_neg h).trans (hk k h)) (fun q hq => htc q (List.mem_cons_of_mem _ hq)) (fun q hq => by
              by_cases e : q = i
              · exact Or.inl (up33_8 hv8 (Or.inr e))
              · exact (hbe q hq).elim (fun z => Or.inl (up33_8 hv8 (Or.inl z))) (fun z => Or.inr ((List.mem_cons.mp z).resolve_left e))) ((congrArg (fun z => rl3 n0 s0 cs (rl0 n0 (rl2 cs (rl1 t z (up2 A1 33 (upd (A1 33) i z)))))) etr.symm).trans hfo) H locs _ hP hS (lv_sub hl [1, 0, 3, 4] rfl)
          · refine lv_iload_n hx hb (fh_d d_Mo_setList 20 rfl) rfl (lv_at hl 0 rfl) ?_
            refine lv_iconst (v := 1) hx hb (fh_d d_Mo_setList 21 rfl) (by decide) ?_
            refine lv_icmp_eq (tgt := 53) hx hb (fh_d d_Mo_setList 22 rfl) rfl (fun c49 => ?_) (fun c49 => ?_)
            · refine lv_iconst (v := 1) hx hb (fh_d d_Mo_setList 32 rfl) (by decide) ?_
              refine lv_goto (tgt := 58) hx hb (fh_d d_Mo_setList 33 rfl) rfl ?_
              refine lv_istore (lv' := [(4, .int 1), (2, .int bf), (3, .int (nI i)), (0, .ref x), (1, .int (nI n0))]) hx hb (fh_d d_Mo_setList 35 rfl) hl (by decide) rfl (fun ls hl => ?_)
              refine lv_aload_n hx hb (fh_d d_Mo_setList 36 rfl) rfl (lv_at hl 3 rfl) ?_
              refine fh_get (own := "FormulaSetterModel") (ref := "FormulaSetterModel") (C := "FormulaSetterModel") (T := T_Mo) (N := 53) (v := .ref (x + 34)) hx hb hT i_Mo hown hK hP mkM_o rfl 40 (by decide) (hT _ w900) (fun _ h9 => h9) rfl (fh_d d_Mo_setList 37 rfl) ?_
              refine lv_iload_n hx hb (fh_d d_Mo_setList 38 rfl) rfl (lv_at hl 2 rfl) ?_
              refine lv_iload hx hb (fh_d d_Mo_setList 39 rfl) (lv_at hl 0 rfl) ?_
              refine lv_if_eq (tgt := 74) hx hb (fh_d d_Mo_setList 40 rfl) rfl (fun c50 => absurd c50 (by decide)) (fun c50 => ?_)
              refine lv_iconst (v := 0) hx hb (fh_d d_Mo_setList 41 rfl) (by decide) ?_
              refine lv_goto (tgt := 80) hx hb (fh_d d_Mo_setList 42 rfl) rfl ?_
              refine fn_iast (f := A1 33) (k := i) hx hb hK hP hS 0 mkM_a33 rfl (rfl) (hnt.1.2) (by decide) (fh_d d_Mo_setList 47 rfl) (fun H locs hP hS => ?_)
              replace hP := fh_P.eq (h' := mkM ct x g (up2 A1 33 (upd (A1 33) i 0)) th co at_ wr no nu op pi wi he de) hP mkM_u33
              refine lv_aload_n hx hb (fh_d d_Mo_setList 48 rfl) rfl (lv_at hl 3 rfl) ?_
              refine fh_get (own := "FormulaSetterModel") (ref := "FormulaSetterModel") (C := "FormulaSetterModel") (T := T_Mo) (N := 53) (v := .ref (x + 34)) hx hb hT i_Mo hown hK hP mkM_o rfl 40 (by decide) (hT _ w900) (fun _ h9 => h9) rfl (fh_d d_Mo_setList 49 rfl) ?_
              refine lv_iload_n hx hb (fh_d d_Mo_setList 50 rfl) rfl (lv_at hl 2 rfl) ?_
              refine fn_iald (f := upd (A1 33) i 0) (k := i) hx hb hK hP 0 mkM_a33 rfl (rfl) (hnt.1.2) (by decide) (fh_d d_Mo_setList 51 rfl) ?_
              rw [show ((upd (A1 33) i 0) i) = 0 from upd_s]
              refine lv_istore_n (lv' := [(2, .int 0), (4, .int 1), (3, .int (nI i)), (0, .ref x), (1, .int (nI n0))]) hx hb (fh_d d_Mo_setList 52 rfl) rfl hl (by decide) rfl (fun ls hl => ?_)
              refine lv_aload_n hx hb (fh_d d_Mo_setList 53 rfl) rfl (lv_at hl 3 rfl) ?_
              refine fh_get (own := "FormulaSetterModel") (ref := "FormulaSetterModel") (C := "FormulaSetterModel") (T := T_Mo) (N := 53) (v := .ref (x + 8)) hx hb hT i_Mo hown hK hP mkM_o rfl 13 (by decide) (hT _ w873) (fun _ h9 => h9) rfl (fh_d d_Mo_setList 54 rfl) ?_
              refine lv_iload_n hx hb (fh_d d_Mo_setList 55 rfl) rfl (lv_at hl 2 rfl) ?_
              refine fn_iald (f := A1 7) (k := i) hx hb hK hP 0 mkM_a7 rfl (rfl) (hnt.1.2) (by decide) (fh_d d_Mo_setList 56 rfl) ?_
              rw [show ((A1 7) i) = nI (hdz t) from (congrFun (hk 7 (by decide)) i).trans hnt.2.1]
              refine lv_istore_n (lv' := [(3, .int (nI (hdz t))), (2, .int 0), (4, .int 1), (0, .ref x), (1, .int (nI n0))]) hx hb (fh_d d_Mo_setList 57 rfl) rfl hl (by decide) rfl (fun ls hl => ?_)
              refine lv_goto (tgt := 9) hx hb (fh_d d_Mo_setList 58 rfl) rfl ?_
              have etr : tr1 bf (A1 4 i) = 0 := if_pos ⟨c43, Or.inr (Or.inr (Or.inl c49))⟩
              have hv8 : ∃ p, p < 8 ∧ (0 : Int32) = nI p := etr ▸ tr1_8 hs9
              exact ih (0) (up2 A1 33 (upd (A1 33) i (0))) hnt.2.2 (fun k h => (if_neg h).trans (hk k h)) (fun q hq => htc q (List.mem_cons_of_mem _ hq)) (fun q hq => by
                by_cases e : q = i
                · exact Or.inl (up33_8 hv8 (Or.inr e))
                · exact (hbe q hq).elim (fun z => Or.inl (up33_8 hv8 (Or.inl z))) (fun z => Or.inr ((List.mem_cons.mp z).resolve_left e))) ((congrArg (fun z => rl3 n0 s0 cs (rl0 n0 (rl2 cs (rl1 t z (up2 A1 33 (upd (A1 33) i z)))))) etr.symm).trans hfo) H locs _ hP hS (lv_sub hl [1, 0, 3, 4] rfl)
            · refine lv_iload_n hx hb (fh_d d_Mo_setList 23 rfl) rfl (lv_at hl 0 rfl) ?_
              refine lv_iconst (v := 3) hx hb (fh_d d_Mo_setList 24 rfl) (by decide) ?_
              refine lv_icmp_eq (tgt := 53) hx hb (fh_d d_Mo_setList 25 rfl) rfl (fun c51 => ?_) (fun c51 => ?_)
              · refine lv_iconst (v := 1) hx hb (fh_d d_Mo_setList 32 rfl) (by decide) ?_
                refine lv_goto (tgt := 58) hx hb (fh_d d_Mo_setList 33 rfl) rfl ?_
                refine lv_istore (lv' := [(4, .int 1), (2, .int bf), (3, .int (nI i)), (0, .ref x), (1, .int (nI n0))]) hx hb (fh_d d_Mo_setList 35 rfl) hl (by decide) rfl (fun ls hl => ?_)
                refine lv_aload_n hx hb (fh_d d_Mo_setList 36 rfl) rfl (lv_at hl 3 rfl) ?_
                refine fh_get (own := "FormulaSetterModel") (ref := "FormulaSetterModel") (C := "FormulaSetterModel") (T := T_Mo) (N := 53) (v := .ref (x + 34)) hx hb hT i_Mo hown hK hP mkM_o rfl 40 (by decide) (hT _ w900) (fun _ h9 => h9) rfl (fh_d d_Mo_setList 37 rfl) ?_
                refine lv_iload_n hx hb (fh_d d_Mo_setList 38 rfl) rfl (lv_at hl 2 rfl) ?_
                refine lv_iload hx hb (fh_d d_Mo_setList 39 rfl) (lv_at hl 0 rfl) ?_
                refine lv_if_eq (tgt := 74) hx hb (fh_d d_Mo_setList 40 rfl) rfl (fun c52 => absurd c52 (by decide)) (fun c52 => ?_)
                refine lv_iconst (v := 0) hx hb (fh_d d_Mo_setList 41 rfl) (by decide) ?_
                refine lv_goto (tgt := 80) hx hb (fh_d d_Mo_setList 42 rfl) rfl ?_
                refine fn_iast (f := A1 33) (k := i) hx hb hK hP hS 0 mkM_a33 rfl (rfl) (hnt.1.2) (by decide) (fh_d d_Mo_setList 47 rfl) (fun H locs hP hS => ?_)
                replace hP := fh_P.eq (h' := mkM ct x g (up2 A1 33 (upd (A1 33) i 0)) th co at_ wr no nu op pi wi he de) hP mkM_u33
                refine lv_aload_n hx hb (fh_d d_Mo_setList 48 rfl) rfl (lv_at hl 3 rfl) ?_
                refine fh_get (own := "FormulaSetterModel") (ref := "FormulaSetterModel") (C := "FormulaSetterModel") (T := T_Mo) (N := 53) (v := .ref (x + 34)) hx hb hT i_Mo hown hK hP mkM_o rfl 40 (by decide) (hT _ w900) (fun _ h9 => h9) rfl (fh_d d_Mo_setList 49 rfl) ?_
                refine lv_iload_n hx hb (fh_d d_Mo_setList 50 rfl) rfl (lv_at hl 2 rfl) ?_
                refine fn_iald (f := upd (A1 33) i 0) (k := i) hx hb hK hP 0 mkM_a33 rfl (rfl) (hnt.1.2) (by decide) (fh_d d_Mo_setList 51 rfl) ?_
                rw [show ((upd (A1 33) i 0) i) = 0 from upd_s]
                refine lv_istore_n (lv' := [(2, .int 0), (4, .int 1), (3, .int (nI i)), (0, .ref x), (1, .int (nI n0))]) hx hb (fh_d d_Mo_setList 52 rfl) rfl hl (by decide) rfl (fun ls hl => ?_)
                refine lv_aload_n hx hb (fh_d d_Mo_setList 53 rfl) rfl (lv_at hl 3 rfl) ?_
                refine fh_get (own := "FormulaSetterModel") (ref := "FormulaSetterModel") (C := "FormulaSetterModel") (T := T_Mo) (N := 53) (v := .ref (x + 8)) hx hb hT i_Mo hown hK hP mkM_o rfl 13 (by decide) (hT _ w873) (fun _ h9 => h9) rfl (fh_d d_Mo_setList 54 rfl) ?_
                refine lv_iload_n hx hb (fh_d d_Mo_setList 55 rfl) rfl (lv_at hl 2 rfl) ?_
                refine fn_iald (f := A1 7) (k := i) hx hb hK hP 0 mkM_a7 rfl (rfl) (hnt.1.2) (by decide) (fh_d d_Mo_setList 56 rfl) ?_
                rw [show ((A1 7) i) = nI (hdz t) from (congrFun (hk 7 (by decide)) i).trans hnt.2.1]
                refine lv_istore_n (lv' := [(3, .int (nI (hdz t))), (2, .int 0), (4, .int 1), (0, .ref x), (1, .int (nI n0))]) hx hb (fh_d d_Mo_setList 57 rfl) rfl hl (by decide) rfl (fun ls hl => ?_)
                refine lv_goto (tgt := 9) hx hb (fh_d d_Mo_setList 58 rfl) rfl ?_
                have etr : tr1 bf (A1 4 i) = 0 := if_pos ⟨c43, Or.inr (Or.inr (Or.inr (Or.inl c51)))⟩
                have hv8 : ∃ p, p < 8 ∧ (0 : Int32) = nI p := etr ▸ tr1_8 hs9
                exact ih (0) (up2 A1 33 (upd (A1 33) i (0))) hnt.2.2 (fun k h => (if_neg h).trans (hk k h)) (fun q hq => htc q (List.mem_cons_of_mem _ hq)) (fun q hq => by
                  by_cases e : q = i
                  · exact Or.inl (up33_8 hv8 (Or.inr e))
                  · exact (hbe q hq).elim (fun z => Or.inl (up33_8 hv8 (Or.inl z))) (fun z => Or.inr ((List.mem_cons.mp z).resolve_left e))) ((congrArg (fun z => rl3 n0 s0 cs (rl0 n0 (rl2 cs (rl1 t z (up2 A1 33 (upd (A1 33) i z)))))) etr.symm).trans hfo) H locs _ hP hS (lv_sub hl [1, 0, 3, 4] rfl)
              · refine lv_iload_n hx hb (fh_d d_Mo_setList 26 rfl) rfl (lv_at hl 0 rfl) ?_
                refine lv_iconst (v := 4) hx hb (fh_d d_Mo_setList 27 rfl) (by decide) ?_
                refine lv_icmp_eq (tgt := 53) hx hb (fh_d d_Mo_setList 28 rfl) rfl (fun c53 => ?_) (fun c53 => ?_)
                · refine lv_iconst (v := 1) hx hb (fh_d d_Mo_setList 32 rfl) (by decide) ?_
                  refine lv_goto (tgt := 58) hx hb (fh_d d_Mo_setList 33 rfl) rfl ?_
                  refine lv_istore (lv' := [(4, .int 1), (2, .int bf), (3, .int (nI i)), (0, .ref x), (1, .int (nI n0))]) hx hb (fh_d d_Mo_setList 35 rfl) hl (by decide) rfl (fun ls hl => ?_)
                  refine lv_aload_n hx hb (fh_d d_Mo_setList 36 rfl) rfl (lv_at hl 3 rfl) ?_
                  refine fh_get (own := "FormulaSetterModel") (ref := "FormulaSetterModel") (C := "FormulaSetterModel") (T := T_Mo) (N := 53) (v := .ref (x + 34)) hx hb hT i_Mo hown hK hP mkM_o rfl 40 (by decide) (hT _ w900) (fun _ h9 => h9) rfl (fh_d d_Mo_setList 37 rfl) ?_
                  refine lv_iload_n hx hb (fh_d d_Mo_setList 38 rfl) rfl (lv_at hl 2 rfl) ?_
                  refine lv_iload hx hb (fh_d d_Mo_setList 39 rfl) (lv_at hl 0 rfl) ?_
                  refine lv_if_eq (tgt := 74) hx hb (fh_d d_Mo_setList 40 rfl) rfl (fun c54 => absurd c54 (by decide)) (fun c54 => ?_)
                  refine lv_iconst (v := 0) hx hb (fh_d d_Mo_setList 41 rfl) (by decide) ?_
                  refine lv_goto (tgt := 80) hx hb (fh_d d_Mo_setList 42 rfl) rfl ?_
                  refine fn_iast (f := A1 33) (k := i) hx hb hK hP hS 0 mkM_a33 rfl (rfl) (hnt.1.2) (by decide) (fh_d d_Mo_setList 47 rfl) (fun H locs hP hS => ?_)
                  replace hP := fh_P.eq (h' := mkM ct x g (up2 A1 33 (upd (A1 33) i 0)) th co at_ wr no nu op pi wi he de) hP mkM_u33
                  refine lv_aload_n hx hb (fh_d d_Mo_setList 48 rfl) rfl (lv_at hl 3 rfl) ?_
                  refine fh_get (own := "FormulaSetterModel") (ref := "FormulaSetterModel") (C := "FormulaSetterModel") (T := T_Mo) (N := 53) (v := .ref (x + 34)) hx hb hT i_Mo hown hK hP mkM_o rfl 40 (by decide) (hT _ w900) (fun _ h9 => h9) rfl (fh_d d_Mo_setList 49 rfl) ?_
                  refine lv_iload_n hx hb (fh_d d_Mo_setList 50 rfl) rfl (lv_at hl 2 rfl) ?_
                  refine fn_iald (f := upd (A1 33) i 0) (k := i) hx hb hK hP 0 mkM_a33 rfl (rfl) (hnt.1.2) (by decide) (fh_d d_Mo_setList 51 rfl) ?_
                  rw [show ((upd (A1 33) i 0) i) = 0 from upd_s]
                  refine lv_istore_n (lv' := [(2, .int 0), (4, .int 1), (3, .int (nI i)), (0, .ref x), (1, .int (nI n0))]) hx hb (fh_d d_Mo_setList 52 rfl) rfl hl (by decide) rfl (fun ls hl => ?_)
                  refine lv_aload_n hx hb (fh_d d_Mo_setList 53 rfl) rfl (lv_at hl 3 rfl) ?_
                  refine fh_get (own := "FormulaSetterModel") (ref := "FormulaSetterModel") (C := "FormulaSetterModel") (T := T_Mo) (N := 53) (v := .ref (x + 8)) hx hb hT i_Mo hown hK hP mkM_o rfl 13 (by decide) (hT _ w873) (fun _ h9 => h9) rfl (fh_d d_Mo_setList 54 rfl) ?_
                  refine lv_iload_n hx hb (fh_d d_Mo_setList 55 rfl) rfl (lv_at hl 2 rfl) ?_
                  refine fn_iald (f := A1 7) (k := i) hx hb hK hP 0 mkM_a7 rfl (rfl) (hnt.1.2) (by decide) (fh_d d_Mo_setList 56 rfl) ?_
                  rw [show ((A1 7) i) = nI (hdz t) from (congrFun (hk 7 (by decide)) i).trans hnt.2.1]
                  refine lv_istore_n (lv' := [(3, .int (nI (hdz t))), (2, .int 0), (4, .int 1), (0, .ref x), (1, .int (nI n0))]) hx hb (fh_d d_Mo_setList 57 rfl) rfl hl (by decide) rfl (fun ls hl => ?_)
                  refine lv_goto (tgt := 9) hx hb (fh_d d_Mo_setList 58 rfl) rfl ?_
                  have etr : tr1 bf (A1 4 i) = 0 := if_pos ⟨c43, Or.inr (Or.inr (Or.inr (Or.inr (Or.inl c53))))⟩
                  have hv8 : ∃ p, p < 8 ∧ (0 : Int32) = nI p := etr ▸ tr1_8 hs9
                  exact ih (0) (up2 A1 33 (upd (A1 33) i (0))) hnt.2.2 (fun k h => (if_neg h).trans (hk k h)) (fun q hq => htc q (List.mem_cons_of_mem _ hq)) (fun q hq => by
                    by_cases e : q = i
                    · exact Or.inl (up33_8 hv8 (Or.inr e))
                    · exact (hbe q hq).elim (fun z => Or.inl (up33_8 hv8 (Or.inl z))) (fun z => Or.inr ((List.mem_cons.mp z).resolve_left e))) ((congrArg (fun z => rl3 n0 s0 cs (rl0 n0 (rl2 cs (rl1 t z (up2 A1 33 (upd (A1 33) i z)))))) etr.symm).trans hfo) H locs _ hP hS (lv_sub hl [1, 0, 3, 4] rfl)
                · refine lv_iload_n hx hb (fh_d d_Mo_setList 29 rfl) rfl (lv_at hl 0 rfl) ?_
                  refine lv_bipush (v := 6) hx hb (fh_d d_Mo_setList 30 rfl) (by decide) ?_
                  refine lv_icmp_ne (tgt := 57) hx hb (fh_d d_Mo_setList 31 rfl) rfl (fun c55 => ?_) (fun c55 => ?_)
                  · refine lv_iconst (v := 0) hx hb (fh_d d_Mo_setList 34 rfl) (by decide) ?_
                    refine lv_istore (lv' := [(4, .int 0), (2, .int bf), (3, .int (nI i)), (0, .ref x), (1, .int (nI n0))]) hx hb (fh_d d_Mo_setList 35 rfl) hl (by decide) rfl (fun ls hl => ?_)
                    refine lv_aload_n hx hb (fh_d d_Mo_setList 36 rfl) rfl (lv_at hl 3 rfl) ?_
                    refine fh_get (own := "FormulaSetterModel") (ref := "FormulaSetterModel") (C := "FormulaSetterModel") (T := T_Mo) (N := 53) (v := .ref (x + 34)) hx hb hT i_Mo hown hK hP mkM_o rfl 40 (by decide) (hT _ w900) (fun _ h9 => h9) rfl (fh_d d_Mo_setList 37 rfl) ?_
                    refine lv_iload_n hx hb (fh_d d_Mo_setList 38 rfl) rfl (lv_at hl 2 rfl) ?_
                    refine lv_iload hx hb (fh_d d_Mo_setList 39 rfl) (lv_at hl 0 rfl) ?_
                    refine lv_if_eq (tgt := 74) hx hb (fh_d d_Mo_setList 40 rfl) rfl (fun c56 => ?_) (fun c56 => absurd c56 (Classical.not_not.mpr (by decide)))
                    refine lv_aload_n hx hb (fh_d d_Mo_setList 43 rfl) rfl (lv_at hl 3 rfl) ?_
                    refine fh_get (own := "FormulaSetterModel") (ref := "FormulaSetterModel") (C := "FormulaSetterModel") (T := T_Mo) (N := 53) (v := .ref (x + 5)) hx hb hT i_Mo hown hK hP mkM_o rfl 10 (by decide) (hT _ w870) (fun _ h9 => h9) rfl (fh_d d_Mo_setList 44 rfl) ?_
                    refine lv_iload_n hx hb (fh_d d_Mo_setList 45 rfl) rfl (lv_at hl 2 rfl) ?_
                    refine fn_iald (f := A1 4) (k := i) hx hb hK hP 0 mkM_a4 rfl (rfl) (hnt.1.2) (by decide) (fh_d d_Mo_setList 46 rfl) ?_
                    refine fn_iast (f := A1 33) (k := i) hx hb hK hP hS 0 mkM_a33 rfl (rfl) (hnt.1.2) (by decide) (fh_d d_Mo_setList 47 rfl) (fun H locs hP hS => ?_)
                    replace hP := fh_P.eq (h' := mkM ct x g (up2 A1 33 (upd (A1 33) i ((A1 4) i))) th co at_ wr no nu op pi wi he de) hP mkM_u33
                    refine lv_aload_n hx hb (fh_d d_Mo_setList 48 rfl) rfl (lv_at hl 3 rfl) ?_
                    refine fh_get (own := "FormulaSetterModel") (ref := "FormulaSetterModel") (C := "FormulaSetterModel") (T := T_Mo) (N := 53) (v := .ref (x + 34)) hx hb hT i_Mo hown hK hP mkM_o rfl 40 (by decide) (hT _ w900) (fun _ h9 => h9) rfl (fh_d d_Mo_setList 49 rfl) ?_
                    refine lv_iload_n hx hb (fh_d d_Mo_setList 50 rfl) rfl (lv_at hl 2 rfl) ?_
                    refine fn_iald (f := upd (A1 33) i ((A1 4) i)) (k := i) hx hb hK hP 0 mkM_a33 rfl (rfl) (hnt.1.2) (by decide) (fh_d d_Mo_setList 51 rfl) ?_
                    rw [show ((upd (A1 33) i ((A1 4) i)) i) = ((A1 4) i) from upd_s]
                    refine lv_istore_n (lv' := [(2, .int ((A1 4) i)), (4, .int 0), (3, .int (nI i)), (0, .ref x), (1, .int (nI n0))]) hx hb (fh_d d_Mo_setList 52 rfl) rfl hl (by decide) rfl (fun ls hl => ?_)
                    refine lv_aload_n hx hb (fh_d d_Mo_setList 53 rfl) rfl (lv_at hl 3 rfl) ?_
                    refine fh_get (own := "FormulaSetterModel") (ref := "FormulaSetterModel") (C := "FormulaSetterModel") (T := T_Mo) (N := 53) (v := .ref (x + 8)) hx hb hT i_Mo hown hK hP mkM_o rfl 13 (by decide) (hT _ w873) (fun _ h9 => h9) rfl (fh_d d_Mo_setList 54 rfl) ?_
                    refine lv_iload_n hx hb (fh_d d_Mo_setList 55 rfl) rfl (lv_at hl 2 rfl) ?_
                    refine fn_iald (f := A1 7) (k := i) hx hb hK hP 0 mkM_a7 rfl (rfl) (hnt.1.2) (by decide) (fh_d d_Mo_setList 56 rfl) ?_
                    rw [show ((A1 7) i) = nI (hdz t) from (congrFun (hk 7 (by decide)) i).trans hnt.2.1]
                    refine lv_istore_n (lv' := [(3, .int (nI (hdz t))), (2, .int ((A1 4) i)), (4, .int 0), (0, .ref x), (1, .int (nI n0))]) hx hb (fh_d d_Mo_setList 57 rfl) rfl hl (by decide) rfl (fun ls hl => ?_)
                    refine lv_goto (tgt := 9) hx hb (fh_d d_Mo_setList 58 rfl) rfl ?_
                    have etr : tr1 bf (A1 4 i) = A1 4 i := if_neg (fun z => (fun z => z.elim c45 (fun z => z.elim c47 (fun z => z.elim c49 (fun z => z.elim c51 (fun z => z.elim c53 c55))))) z.2)
                    have hv8 : ∃ p, p < 8 ∧ (A1 4 i : Int32) = nI p := etr ▸ tr1_8 hs9
                    exact ih (A1 4 i) (up2 A1 33 (upd (A1 33) i (A1 4 i))) hnt.2.2 (fun k h => (if_neg h).trans (hk k h)) (fun q hq => htc q (List.mem_cons_of_mem _ hq)) (fun q hq => by
                      by_cases e : q = i
                      · exact Or.inl (up33_8 hv8 (Or.inr e))
                      · exact (hbe q hq).elim (fun z => Or.inl (up33_8 hv8 (Or.inl z))) (fun z => Or.inr ((List.mem_cons.mp z).resolve_left e))) ((congrArg (fun z => rl3 n0 s0 cs (rl0 n0 (rl2 cs (rl1 t z (up2 A1 33 (upd (A1 33) i z)))))) etr.symm).trans hfo) H locs _ hP hS (lv_sub hl [1, 0, 3, 4] rfl)
                  · refine lv_iconst (v := 1) hx hb (fh_d d_Mo_setList 32 rfl) (by decide) ?_
                    refine lv_goto (tgt := 58) hx hb (fh_d d_Mo_setList 33 rfl) rfl ?_
                    refine lv_istore (lv' := [(4, .int 1), (2, .int bf), (3, .int (nI i)), (0, .ref x), (1, .int (nI n0))]) hx hb (fh_d d_Mo_setList 35 rfl) hl (by decide) rfl (fun ls hl => ?_)
                    refine lv_aload_n hx hb (fh_d d_Mo_setList 36 rfl) rfl (lv_at hl 3 rfl) ?_
                    refine fh_get (own := "FormulaSetterModel") (ref := "FormulaSetterModel") (C := "FormulaSetterModel") (T := T_Mo) (N := 53) (v := .ref (x + 34)) hx hb hT i_Mo hown hK hP mkM_o rfl 40 (by decide) (hT _ w900) (fun _ h9 => h9) rfl (fh_d d_Mo_setList 37 rfl) ?_
                    refine lv_iload_n hx hb (fh_d d_Mo_setList 38 rfl) rfl (lv_at hl 2 rfl) ?_
                    refine lv_iload hx hb (fh_d d_Mo_setList 39 rfl) (lv_at hl 0 rfl) ?_
                    refine lv_if_eq (tgt := 74) hx hb (fh_d d_Mo_setList 40 rfl) rfl (fun c57 => absurd c57 (by decide)) (fun c57 => ?_)
                    refine lv_iconst (v := 0) hx hb (fh_d d_Mo_setList 41 rfl) (by decide) ?_
                    refine lv_goto (tgt := 80) hx hb (fh_d d_Mo_setList 42 rfl) rfl ?_
                    refine fn_iast (f := A1 33) (k := i) hx hb hK hP hS 0 mkM_a33 rfl (rfl) (hnt.1.2) (by decide) (fh_d d_Mo_setList 47 rfl) (fun H locs hP hS => ?_)
                    replace hP := fh_P.eq (h' := mkM ct x g (up2 A1 33 (upd (A1 33) i 0)) th co at_ wr no nu op pi wi he de) hP mkM_u33
                    refine lv_aload_n hx hb (fh_d d_Mo_setList 48 rfl) rfl (lv_at hl 3 rfl) ?_
                    refine fh_get (own := "FormulaSetterModel") (ref := "FormulaSetterModel") (C := "FormulaSetterModel") (T := T_Mo) (N := 53) (v := .ref (x + 34)) hx hb hT i_Mo hown hK hP mkM_o rfl 40 (by decide) (hT _ w900) (fun _ h9 => h9) rfl (fh_d d_Mo_setList 49 rfl) ?_
                    refine lv_iload_n hx hb (fh_d d_Mo_setList 50 rfl) rfl (lv_at hl 2 rfl) ?_
                    refine fn_iald (f := upd (A1 33) i 0) (k := i) hx hb hK hP 0 mkM_a33 rfl (rfl) (hnt.1.2) (by decide) (fh_d d_Mo_setList 51 rfl) ?_
                    rw [show ((upd (A1 33) i 0) i) = 0 from upd_s]
                    refine lv_istore_n (lv' := [(2, .int 0), (4, .int 1), (3, .int (nI i)), (0, .ref x), (1, .int (nI n0))]) hx hb (fh_d d_Mo_setList 52 rfl) rfl hl (by decide) rfl (fun ls hl => ?_)
                    refine lv_aload_n hx hb (fh_d d_Mo_setList 53 rfl) rfl (lv_at hl 3 rfl) ?_
                    refine fh_get (own := "FormulaSetterModel") (ref := "FormulaSetterModel") (C := "FormulaSetterModel") (T := T_Mo) (N := 53) (v := .ref (x + 8)) hx hb hT i_Mo hown hK hP mkM_o rfl 13 (by decide) (hT _ w873) (fun _ h9 => h9) rfl (fh_d d_Mo_setList 54 rfl) ?_
                    refine lv_iload_n hx hb (fh_d d_Mo_setList 55 rfl) rfl (lv_at hl 2 rfl) ?_
                    refine fn_iald (f := A1 7) (k := i) hx hb hK hP 0 mkM_a7 rfl (rfl) (hnt.1.2) (by decide) (fh_d d_Mo_setList 56 rfl) ?_
                    rw [show ((A1 7) i) = nI (hdz t) from (congrFun (hk 7 (by decide)) i).trans hnt.2.1]
                    refine lv_istore_n (lv' := [(3, .int (nI (hdz t))), (2, .int 0), (4, .int 1), (0, .ref x), (1, .int (nI n0))]) hx hb (fh_d d_Mo_setList 57 rfl) rfl hl (by decide) rfl (fun ls hl => ?_)
                    refine lv_goto (tgt := 9) hx hb (fh_d d_Mo_setList 58 rfl) rfl ?_
                    have etr : tr1 bf (A1 4 i) = 0 := if_pos ⟨c43, Or.inr (Or.inr (Or.inr (Or.inr (Or.inr (c55)))))⟩
                    have hv8 : ∃ p, p < 8 ∧ (0 : Int32) = nI p := etr ▸ tr1_8 hs9
                    exact ih (0) (up2 A1 33 (upd (A1 33) i (0))) hnt.2.2 (fun k h => (if_neg h).trans (hk k h)) (fun q hq => htc q (List.mem_cons_of_mem _ hq)) (fun q hq => by
                      by_cases e : q = i
                      · exact Or.inl (up33_8 hv8 (Or.inr e))
                      · exact (hbe q hq).elim (fun z => Or.inl (up33_8 hv8 (Or.inl z))) (fun z => Or.inr ((List.mem_cons.mp z).resolve_left e))) ((congrArg (fun z => rl3 n0 s0 cs (rl0 n0 (rl2 cs (rl1 t z (up2 A1 33 (upd (A1 33) i z)))))) etr.symm).trans hfo) H locs _ hP hS (lv_sub hl [1, 0, 3, 4] rfl)
  refine lv_iconst (v := (-1)) hx hb (fh_d d_Mo_setList 0 rfl) (by decide) ?_
  refine lv_istore_n (lv' := [(2, .int (-1)), (0, .ref x), (1, .int (nI n0))]) hx hb (fh_d d_Mo_setList 1 rfl) rfl hl (by decide) rfl (fun ls hl => ?_)
  refine lv_aload_n hx hb (fh_d d_Mo_setList 2 rfl) rfl (lv_at hl 1 rfl) ?_
  refine fh_get (own := "FormulaSetterModel") (ref := "FormulaSetterModel") (C := "FormulaSetterModel") (T := T_Mo) (N := 53) (v := .ref (x + 7)) hx hb hT i_Mo hown hK hP mkM_o rfl 12 (by decide) (hT _ w872) (fun _ h9 => h9) rfl (fh_d d_Mo_setList 3 rfl) ?_
  refine lv_iload_n hx hb (fh_d d_Mo_setList 4 rfl) rfl (lv_at hl 2 rfl) ?_
  refine fn_iald (f := A 6) (k := n0) hx hb hK hP 0 mkM_a6 rfl (rfl) (by omega) (by decide) (fh_d d_Mo_setList 5 rfl) ?_
  rw [show ((A 6) n0) = nI (hdz cs) from h6]
  refine lv_istore_n (lv' := [(3, .int (nI (hdz cs))), (2, .int (-1)), (0, .ref x), (1, .int (nI n0))]) hx hb (fh_d d_Mo_setList 6 rfl) rfl hl (by decide) rfl (fun ls hl => ?_)
  exact l1 cs (-1) A hnx (fun k h => rfl) (fun i h => h) (fun i h => Or.inr h) rfl H _ _ hP hS (lv_sub hl [1, 0, 2, 3] rfl)
