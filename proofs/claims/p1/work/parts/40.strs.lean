/-! Methods of String on the constants. Printed by wip/whole/gen/p40.py -/
section FSB
variable {p : Program} {l : Launch} {e : Env} {R : Room} {s : State} {m : MethodId} {args : Array Value} {below : List Frame} {meth : Method} {c : Code} {H : Heap} {locs : List Loc} {cells slots : Nat} {Q : State → Prop}
variable {cc : ByteArray} {pc : Nat} {ls : Array Slot} {rest : List Value} {A : Nat → Prop} {t : Nat} {bs : List Int32}
theorem fs_byte (hexec : p.tables.exec = Jvm.exec) (hb : c.code = cc) (hT : va_T .byte t bs.length (fun j => .int (bs.getD j 0)) A s s.heap) (hS : va_S A s.heap H locs) {i : Int32} {k : Nat} (hi : i = nI k) (hk : k < bs.length) (hl : bs.length < 100) (hdg : decode cc pc = .ok (.baload, 1))
    (kk : W p l e R s m args below meth c H locs cells slots Q (F0 m (pc + 1) ls (.int (bs.getD k 0) :: rest))) : W p l e R s m args below meth c H locs cells slots Q (F0 m pc ls (.int i :: .ref t :: rest)) := by
  subst hi
  exact va_tb hexec hb hT hS (vp_in_nI hk (by omega)) (by rw [nI_clamp (by omega)]) hdg kk
theorem fs_recv {C : String} {a : Nat} (h : va_O C a A s s.heap) (hS : va_S A s.heap H locs) : ∃ cell : Cell, H[a]? = some cell ∧ cell.vm.isStatics = false ∧ s.vm.findClass C = some cell.cls := by
  obtain ⟨cell, h1, h2, h3, -⟩ := h.kept hS.2.1
  exact ⟨cell, h1, h2, h3⟩
end FSB
set_option maxHeartbeats 4000000 in
set_option maxRecDepth 100000 in
theorem m_St_coder (l : Launch) (D : va_G) (ct : Nat → ClassId) (b : Nat) (RO : State → Prop) (sA sV : Nat → Nat) (hSt : ∀ U, RO U → ro_S b sA sV U) (r n i : Nat) (hi : i < 28) (h : fh_H) : fh_C l D fh_cl (fh_tys ct) b RO y_St_coder (Cond.code y_St_coder c_St_coder 1 (Option.some FieldType.byte) :: fh_T) (fh_rm r 0 0) [.ref (sA i)] h n (fun v h' n' => v = some (.int (0)) ∧ h' = h ∧ n' = n) 0 0 := by
  refine fh_enter (by decide) (Nat.le_of_ble_eq_true rfl) [(0, .ref (sA i))] rfl ?_
  intro p e s m args below meth c H ls X hP hS hl
  have hx := X.1
  have hb := X.2.1
  have hml := X.2.2.1
  have hown : s.vm.findClass "java/lang/String" = some m.cls := X.2.2.2.1
  have hT := X.2.2.2.2.1
  have hK := X.2.2.2.2.2.1
  have hRO := X.2.2.2.2.2.2.1
  have hnm : meth.name = "coder" := X.2.2.2.2.2.2.2.2.2.2
  refine va_gets (own := "java/lang/String") (ref := "java/lang/String") hx hb (hSt _ hRO).2.1 hS hown (hT _ w337) (fun _ h9 => h9) (fh_d d_St_coder 0 rfl) ?_
  refine lv_if_eq (tgt := 13) hx hb (fh_d d_St_coder 1 rfl) rfl (fun c1 => absurd c1 (by decide)) (fun c1 => ?_)
  refine lv_aload_n hx hb (fh_d d_St_coder 2 rfl) rfl (lv_at hl 0 rfl) ?_
  refine vk_getf (own := "java/lang/String") (ref := "java/lang/String") hx hb (((hSt _ hRO).1 i hi).2.1) hS hown (hT _ w1242) (fun _ h9 => h9) (fh_d d_St_coder 3 rfl) ?_
  refine lv_goto (tgt := 14) hx hb (fh_d d_St_coder 4 rfl) rfl ?_
  exact fh_zret X hP hS (fh_d d_St_coder 6 rfl) (by decide) ⟨rfl, rfl, rfl⟩

set_option maxHeartbeats 4000000 in
set_option maxRecDepth 100000 in
theorem m_St_isLatin1 (l : Launch) (D : va_G) (ct : Nat → ClassId) (b : Nat) (RO : State → Prop) (sA sV : Nat → Nat) (hSt : ∀ U, RO U → ro_S b sA sV U) (r n i : Nat) (hi : i < 28) (h : fh_H) : fh_C l D fh_cl (fh_tys ct) b RO y_St_isLatin1 (Cond.code y_St_isLatin1 c_St_isLatin1 1 (Option.some FieldType.boolean) :: fh_T) (fh_rm r 0 0) [.ref (sA i)] h n (fun v h' n' => v = some (.int (1)) ∧ h' = h ∧ n' = n) 0 0 := by
  refine fh_enter (by decide) (Nat.le_of_ble_eq_true rfl) [(0, .ref (sA i))] rfl ?_
  intro p e s m args below meth c H ls X hP hS hl
  have hx := X.1
  have hb := X.2.1
  have hml := X.2.2.1
  have hown : s.vm.findClass "java/lang/String" = some m.cls := X.2.2.2.1
  have hT := X.2.2.2.2.1
  have hK := X.2.2.2.2.2.1
  have hRO := X.2.2.2.2.2.2.1
  have hnm : meth.name = "isLatin1" := X.2.2.2.2.2.2.2.2.2.2
  refine va_gets (own := "java/lang/String") (ref := "java/lang/String") hx hb (hSt _ hRO).2.1 hS hown (hT _ w337) (fun _ h9 => h9) (fh_d d_St_isLatin1 0 rfl) ?_
  refine lv_if_eq (tgt := 17) hx hb (fh_d d_St_isLatin1 1 rfl) rfl (fun c1 => absurd c1 (by decide)) (fun c1 => ?_)
  refine lv_aload_n hx hb (fh_d d_St_isLatin1 2 rfl) rfl (lv_at hl 0 rfl) ?_
  refine vk_getf (own := "java/lang/String") (ref := "java/lang/String") hx hb (((hSt _ hRO).1 i hi).2.1) hS hown (hT _ w1242) (fun _ h9 => h9) (fh_d d_St_isLatin1 3 rfl) ?_
  refine lv_if_ne (tgt := 17) hx hb (fh_d d_St_isLatin1 4 rfl) rfl (fun c2 => absurd c2 (Classical.not_not.mpr rfl)) (fun c2 => ?_)
  refine lv_iconst (v := 1) hx hb (fh_d d_St_isLatin1 5 rfl) (by decide) ?_
  refine lv_goto (tgt := 18) hx hb (fh_d d_St_isLatin1 6 rfl) rfl ?_
  exact fh_zret X hP hS (fh_d d_St_isLatin1 8 rfl) (by decide) ⟨rfl, rfl, rfl⟩

set_option maxHeartbeats 4000000 in
set_option maxRecDepth 100000 in
theorem m_St_length (l : Launch) (D : va_G) (ct : Nat → ClassId) (b : Nat) (RO : State → Prop) (hR : fh_R b RO) (sA sV : Nat → Nat) (hSt : ∀ U, RO U → ro_S b sA sV U) (r n i : Nat) (hr : 1 ≤ r) (hi : i < 28) (h : fh_H) : fh_C l D fh_cl (fh_tys ct) b RO y_St_length (Cond.code y_St_length c_St_length 1 (Option.some FieldType.int) :: fh_T) (fh_rm r 0 0) [.ref (sA i)] h n (fun v h' n' => v = some (.int (nI (st_b i).length)) ∧ h' = h ∧ n' = n) 0 0 := by
  refine fh_enter (by decide) (Nat.le_of_ble_eq_true rfl) [(0, .ref (sA i))] rfl ?_
  intro p e s m args below meth c H ls X hP hS hl
  have hx := X.1
  have hb := X.2.1
  have hml := X.2.2.1
  have hown : s.vm.findClass "java/lang/String" = some m.cls := X.2.2.2.1
  have hT := X.2.2.2.2.1
  have hK := X.2.2.2.2.2.1
  have hRO := X.2.2.2.2.2.2.1
  have hnm : meth.name = "length" := X.2.2.2.2.2.2.2.2.2.2
  refine lv_aload_n hx hb (fh_d d_St_length 0 rfl) rfl (lv_at hl 0 rfl) ?_
  refine vk_getf (own := "java/lang/String") (ref := "java/lang/String") hx hb (((hSt _ hRO).1 i hi).2.2.1) hS hown (hT _ w1241) (fun _ h9 => h9) (fh_d d_St_length 1 rfl) ?_
  refine va_tlen (v := nI (st_b i).length) hx hb ((hSt _ hRO).1 i hi).2.2.2.1 hS rfl (fh_d d_St_length 2 rfl) ?_
  refine lv_aload_n hx hb (fh_d d_St_length 3 rfl) rfl (lv_at hl 0 rfl) ?_
  refine fh_callV (cc' := c_St_coder) (nL' := 1) (rest := [.int (nI (st_b i).length)]) (a := sA i) (As := []) X hR (m_St_coder l D ct b RO sA sV hSt (r - 1) n i hi h) w336 w333 w334 w335 w15 ⟨by decide, by decide, by show _ = some 0; decide +kernel⟩ (by omega) (by decide) (fs_recv ((hSt _ hRO).1 i hi).1 hS) hP hS hl.1 rfl (by exact Nat.le_of_ble_eq_true rfl) (fh_d d_St_length 4 rfl) ⟨Nat.le_refl _, Nat.le_refl _⟩ (fun v9 h9 n9 H locs hq hP hS => ?_)
  obtain ⟨rfl, u1, u2⟩ := hq
  rw [u1, u2] at hP
  refine lv_ishr hx hb (fh_d d_St_length 5 rfl) ?_
  rw [sb_shr0]
  exact fh_iret X hP hS (fh_d d_St_length 6 rfl) ⟨rfl, rfl, rfl⟩

set_option maxHeartbeats 4000000 in
set_option maxRecDepth 100000 in
theorem m_St_isEmpty (l : Launch) (D : va_G) (ct : Nat → ClassId) (b : Nat) (RO : State → Prop) (sA sV : Nat → Nat) (hSt : ∀ U, RO U → ro_S b sA sV U) (r n i : Nat) (hi : i < 28) (h : fh_H) : fh_C l D fh_cl (fh_tys ct) b RO y_St_isEmpty (Cond.code y_St_isEmpty c_St_isEmpty 1 (Option.some FieldType.boolean) :: fh_T) (fh_rm r 0 0) [.ref (sA i)] h n (fun v h' n' => v = some (.int (if (st_b i).length = 0 then 1 else 0)) ∧ h' = h ∧ n' = n) 0 0 := by
  refine fh_enter (by decide) (Nat.le_of_ble_eq_true rfl) [(0, .ref (sA i))] rfl ?_
  intro p e s m args below meth c H ls X hP hS hl
  have hx := X.1
  have hb := X.2.1
  have hml := X.2.2.1
  have hown : s.vm.findClass "java/lang/String" = some m.cls := X.2.2.2.1
  have hT := X.2.2.2.2.1
  have hK := X.2.2.2.2.2.1
  have hRO := X.2.2.2.2.2.2.1
  have hnm : meth.name = "isEmpty" := X.2.2.2.2.2.2.2.2.2.2
  refine lv_aload_n hx hb (fh_d d_St_isEmpty 0 rfl) rfl (lv_at hl 0 rfl) ?_
  refine vk_getf (own := "java/lang/String") (ref := "java/lang/String") hx hb (((hSt _ hRO).1 i hi).2.2.1) hS hown (hT _ w1241) (fun _ h9 => h9) (fh_d d_St_isEmpty 1 rfl) ?_
  refine va_tlen (v := nI (st_b i).length) hx hb ((hSt _ hRO).1 i hi).2.2.2.1 hS rfl (fh_d d_St_isEmpty 2 rfl) ?_
  refine lv_if_ne (tgt := 12) hx hb (fh_d d_St_isEmpty 3 rfl) rfl (fun c1 => ?_) (fun c1 => ?_)
  · refine lv_iconst (v := 0) hx hb (fh_d d_St_isEmpty 6 rfl) (by decide) ?_
    have hlen := (st_ok i hi).1
    have q : ¬ (st_b i).length = 0 := fun z => c1 (by rw [z]; rfl)
    exact fh_zret X hP hS (fh_d d_St_isEmpty 7 rfl) (by decide) ⟨by rw [if_neg q], rfl, rfl⟩
  · refine lv_iconst (v := 1) hx hb (fh_d d_St_isEmpty 4 rfl) (by decide) ?_
    refine lv_goto (tgt := 13) hx hb (fh_d d_St_isEmpty 5 rfl) rfl ?_
    have hlen := (st_ok i hi).1
    have q : (st_b i).length = 0 := (nI_eq (b := 0) (by omega) (by decide)).mp c1
    exact fh_zret X hP hS (fh_d d_St_isEmpty 7 rfl) (by decide) ⟨by rw [if_pos q], rfl, rfl⟩
