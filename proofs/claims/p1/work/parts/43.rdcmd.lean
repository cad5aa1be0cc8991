/-! The Reader: isLetter, takeSide, seesCommand, isLineEnd. Printed by wip/whole/gen/p43.py -/
theorem sk_id (f : Nat → Int32) (L : Nat) : ∀ k a, L - a = k → sk f L (sk f L a) = sk f L a
  | 0, a, h => by rw [sk_n (a := a) (by omega), sk_n (by omega)]
  | k + 1, a, h => by
    by_cases q : a < L ∧ f a = 32
    · rw [sk_y (a := a) q.1 q.2]
      exact sk_id f L k (a + 1) (by omega)
    · rw [sk_n (a := a) q, sk_n q]
theorem sk_le {f : Nat → Int32} {L a : Nat} (ha : a ≤ 400) (hL : L ≤ 160) : sk f L a ≤ 400 := by
  have hsk := sk_ge f L _ a rfl
  by_cases q9 : a ≤ L
  · have := hsk.2 q9; omega
  · rw [sk_n (by omega)]; omega
theorem hre_7 {f : Nat → Int32} {L : Nat} (hf7 : ∀ j, f j = (nI (ixI (f j))) ∧ ixI (f j) < 128) (k : Nat) : nI (ixI (hre f L k)) = hre f L k ∧ ixI (hre f L k) < 128 := by
  unfold hre
  by_cases q : k < L
  · rw [if_pos q]; exact ⟨(hf7 k).1.symm, (hf7 k).2⟩
  · rw [if_neg q]; decide
theorem ixo_m {bs : List Int32} {c : Int32} (hl : bs.length < 100) : ∀ (j k : Nat), bs.length - k = j → (0 ≤ ixo bs c k ↔ c ∈ bs.drop k)
  | 0, k, h => by
    rw [ixo_n (by omega), List.drop_eq_nil_of_le (by omega)]
    exact ⟨fun q => absurd q (by decide), fun q => absurd q (List.not_mem_nil)⟩
  | j + 1, k, h => by
    have hk : k < bs.length := by omega
    have e : bs.getD k 0 = bs[k] := by rw [List.getD_eq_getElem?_getD, List.getElem?_eq_getElem hk]; rfl
    rw [List.drop_eq_getElem_cons hk]
    by_cases q : bs.getD k 0 = c
    · rw [ixo_y hk q]
      refine ⟨fun _ => by rw [← q, e]; exact List.mem_cons_self, fun _ => ?_⟩
      exact (nI_leI (a := 0) (b := k) (by decide) (by omega)).mpr (Nat.zero_le _)
    · rw [ixo_s hk q, ixo_m hl j (k + 1) (by omega), List.mem_cons]
      refine ⟨Or.inr, fun z => z.resolve_left fun z => q (by rw [e]; exact z.symm)⟩
theorem ixo_mem {c : Int32} {i : Nat} (hi : i < 28) : 0 ≤ ixo (st_b i) c 0 ↔ c ∈ st_b i := ixo_m (st_ok i hi).1 _ 0 rfl
set_option maxHeartbeats 4000000 in
set_option maxRecDepth 100000 in
theorem m_At_isLetter (l : Launch) (D : va_G) (ct : Nat → ClassId) (b : Nat) (RO : State → Prop) (r n : Nat) (c0 : Int32) (h : fh_H) : fh_C l D fh_cl (fh_tys ct) b RO y_At_isLetter (Cond.code y_At_isLetter c_At_isLetter 1 (Option.some FieldType.boolean) :: fh_T) (fh_rm r 0 0) [.int c0] h n (fun v h' n' => v = some (.int (if isL c0 then 1 else 0)) ∧ h' = h ∧ n' = n) 0 0 := by
  refine fh_enter (by decide) (Nat.le_of_ble_eq_true rfl) [(0, .int c0)] rfl ?_
  intro p e s m args below meth c H ls X hP hS hl
  have hx := X.1
  have hb := X.2.1
  have hml := X.2.2.1
  have hown : s.vm.findClass "FormulaSetter$Atom" = some m.cls := X.2.2.2.1
  have hT := X.2.2.2.2.1
  have hK := X.2.2.2.2.2.1
  have hRO := X.2.2.2.2.2.2.1
  have hnm : meth.name = "isLetter" := X.2.2.2.2.2.2.2.2.2.2
  refine lv_iload_n hx hb (fh_d d_At_isLetter 0 rfl) rfl (lv_at hl 0 rfl) ?_
  refine lv_bipush (v := 97) hx hb (fh_d d_At_isLetter 1 rfl) (by decide) ?_
  refine lv_icmp_lt (tgt := 12) hx hb (fh_d d_At_isLetter 2 rfl) rfl (fun c1 => ?_) (fun c1 => ?_)
  · refine lv_iload_n hx hb (fh_d d_At_isLetter 6 rfl) rfl (lv_at hl 0 rfl) ?_
    refine lv_bipush (v := 65) hx hb (fh_d d_At_isLetter 7 rfl) (by decide) ?_
    refine lv_icmp_lt (tgt := 28) hx hb (fh_d d_At_isLetter 8 rfl) rfl (fun c2 => ?_) (fun c2 => ?_)
    · refine lv_iconst (v := 0) hx hb (fh_d d_At_isLetter 14 rfl) (by decide) ?_
      refine fh_zret X hP hS (fh_d d_At_isLetter 15 rfl) (by decide) ⟨?_, rfl, rfl⟩
      have q9 : ¬ isL c0 := by
        simp only [Int32.le_iff_toInt_le, Int32.lt_iff_toInt_lt, isL] at *
        omega
      simp [q9]
    · refine lv_iload_n hx hb (fh_d d_At_isLetter 9 rfl) rfl (lv_at hl 0 rfl) ?_
      refine lv_bipush (v := 90) hx hb (fh_d d_At_isLetter 10 rfl) (by decide) ?_
      refine lv_icmp_gt (tgt := 28) hx hb (fh_d d_At_isLetter 11 rfl) rfl (fun c3 => ?_) (fun c3 => ?_)
      · refine lv_iconst (v := 0) hx hb (fh_d d_At_isLetter 14 rfl) (by decide) ?_
        refine fh_zret X hP hS (fh_d d_At_isLetter 15 rfl) (by decide) ⟨?_, rfl, rfl⟩
        have q9 : ¬ isL c0 := by
          simp only [Int32.le_iff_toInt_le, Int32.lt_iff_toInt_lt, isL] at *
          omega
        simp [q9]
      · refine lv_iconst (v := 1) hx hb (fh_d d_At_isLetter 12 rfl) (by decide) ?_
        refine lv_goto (tgt := 29) hx hb (fh_d d_At_isLetter 13 rfl) rfl ?_
        refine fh_zret X hP hS (fh_d d_At_isLetter 15 rfl) (by decide) ⟨?_, rfl, rfl⟩
        have q9 : isL c0 := by
          simp only [Int32.le_iff_toInt_le, Int32.lt_iff_toInt_lt, isL] at *
          omega
        simp [q9]
  · refine lv_iload_n hx hb (fh_d d_At_isLetter 3 rfl) rfl (lv_at hl 0 rfl) ?_
    refine lv_bipush (v := 122) hx hb (fh_d d_At_isLetter 4 rfl) (by decide) ?_
    refine lv_icmp_le (tgt := 24) hx hb (fh_d d_At_isLetter 5 rfl) rfl (fun c4 => ?_) (fun c4 => ?_)
    · refine lv_iconst (v := 1) hx hb (fh_d d_At_isLetter 12 rfl) (by decide) ?_
      refine lv_goto (tgt := 29) hx hb (fh_d d_At_isLetter 13 rfl) rfl ?_
      refine fh_zret X hP hS (fh_d d_At_isLetter 15 rfl) (by decide) ⟨?_, rfl, rfl⟩
      have q9 : isL c0 := by
        simp only [Int32.le_iff_toInt_le, Int32.lt_iff_toInt_lt, isL] at *
        omega
      simp [q9]
    · refine lv_iload_n hx hb (fh_d d_At_isLetter 6 rfl) rfl (lv_at hl 0 rfl) ?_
      refine lv_bipush (v := 65) hx hb (fh_d d_At_isLetter 7 rfl) (by decide) ?_
      refine lv_icmp_lt (tgt := 28) hx hb (fh_d d_At_isLetter 8 rfl) rfl (fun c5 => ?_) (fun c5 => ?_)
      · refine lv_iconst (v := 0) hx hb (fh_d d_At_isLetter 14 rfl) (by decide) ?_
        refine fh_zret X hP hS (fh_d d_At_isLetter 15 rfl) (by decide) ⟨?_, rfl, rfl⟩
        have q9 : ¬ isL c0 := by
          simp only [Int32.le_iff_toInt_le, Int32.lt_iff_toInt_lt, isL] at *
          omega
        simp [q9]
      · refine lv_iload_n hx hb (fh_d d_At_isLetter 9 rfl) rfl (lv_at hl 0 rfl) ?_
        refine lv_bipush (v := 90) hx hb (fh_d d_At_isLetter 10 rfl) (by decide) ?_
        refine lv_icmp_gt (tgt := 28) hx hb (fh_d d_At_isLetter 11 rfl) rfl (fun c6 => ?_) (fun c6 => ?_)
        · refine lv_iconst (v := 0) hx hb (fh_d d_At_isLetter 14 rfl) (by decide) ?_
          refine fh_zret X hP hS (fh_d d_At_isLetter 15 rfl) (by decide) ⟨?_, rfl, rfl⟩
          have q9 : ¬ isL c0 := by
            simp only [Int32.le_iff_toInt_le, Int32.lt_iff_toInt_lt, isL] at *
            omega
          simp [q9]
        · refine lv_iconst (v := 1) hx hb (fh_d d_At_isLetter 12 rfl) (by decide) ?_
          refine lv_goto (tgt := 29) hx hb (fh_d d_At_isLetter 13 rfl) rfl ?_
          refine fh_zret X hP hS (fh_d d_At_isLetter 15 rfl) (by decide) ⟨?_, rfl, rfl⟩
          have q9 : isL c0 := by
            simp only [Int32.le_iff_toInt_le, Int32.lt_iff_toInt_lt, isL] at *
            omega
          simp [q9]

theorem isSd_m {c : Int32} : isSd c ↔ c ∈ st_b 7 := by
  show _ ↔ c ∈ [40, 41, 91, 93, 124, 46]
  simp only [List.mem_cons, List.not_mem_nil, or_false, isSd]
set_option maxHeartbeats 4000000 in
set_option maxRecDepth 100000 in
theorem m_Rd_takeSide (l : Launch) (D : va_G) (ct : Nat → ClassId) (b : Nat) (RO : State → Prop) (hR : fh_R b RO) (sA sV : Nat → Nat) (hSt : ∀ U, RO U → ro_S b sA sV U) (r : Nat) (hr : 4 ≤ r) (n x : Nat) (kA aA : Nat → Nat) (g : fh_H) (C : Nat → Nat → Int32) (R : Nat → Nat → Option Nat) (CL : Nat → Nat → Int32) (RL : Nat → Nat → Option Nat) (nc lc : Int32) (f : Nat → Int32) (L a : Nat) (hL : L ≤ 160) (ha : a ≤ 400) (hg1 : g (x + 1) = some (.inl (ct 1, 160, .inl f))) (hf7 : ∀ j, f j = (nI (ixI (f j))) ∧ ixI (f j) < 128) : fh_C l D fh_cl (fh_tys ct) b RO y_Rd_takeSide (Cond.code y_Rd_takeSide c_Rd_takeSide 2 (Option.some FieldType.char) :: fh_T) (fh_rm r 0 0) [.ref (x + 2)] (mkR x kA aA g nc lc (.ref (x + 1)) (nI L) (nI a) C R CL RL) n (fun v h' n' => v = some (.int (if isSd (hre f L (sk f L a)) then hre f L (sk f L a) else 0)) ∧ h' = mkR x kA aA g nc lc (.ref (x + 1)) (nI L) (nI (if isSd (hre f L (sk f L a)) then sk f L a + 1 else sk f L a)) C R CL RL ∧ n' = n) 0 0 := by
  refine fh_enter (by decide) (Nat.le_of_ble_eq_true rfl) [(0, .ref (x + 2))] rfl ?_
  intro p e s m args below meth c H ls X hP hS hl
  have hx := X.1
  have hb := X.2.1
  have hml := X.2.2.1
  have hown : s.vm.findClass "FormulaSetter$Reader" = some m.cls := X.2.2.2.1
  have hT := X.2.2.2.2.1
  have hK := X.2.2.2.2.2.1
  have hRO := X.2.2.2.2.2.2.1
  have hnm : meth.name = "takeSide" := X.2.2.2.2.2.2.2.2.2.2
  have hf : ∀ j, f j = (nI (ixI (f j))) ∧ ixI (f j) < 256 := fun j => ⟨(hf7 j).1, by have := (hf7 j).2; omega⟩
  refine lv_aload_n hx hb (fh_d d_Rd_takeSide 0 rfl) rfl (lv_at hl 0 rfl) ?_
  refine fh_callV (cc' := c_Rd_peek) (nL' := 1) (rest := []) (a := x + 2) (As := []) X hR (m_Rd_peek l D ct b RO (r - 1) n x kA aA g C R CL RL nc lc f L (a) hL (by omega) hg1 hf) w319 w316 w318 v3 w2 ⟨by decide, by decide, by show _ = some 0; decide +kernel⟩ (by omega) (by decide) (fh_recv hK hP mkR_rd rfl) hP hS hl.1 rfl (by exact Nat.le_of_ble_eq_true rfl) (fh_d d_Rd_takeSide 1 rfl) ⟨Nat.le_refl _, Nat.le_refl _⟩ (fun v9 h9 n9 H locs hq hP hS => ?_)
  obtain ⟨rfl, u1, u2⟩ := hq
  rw [u1, u2] at hP
  have hsk := sk_ge f L _ a rfl
  have hsk2 : sk f L a ≤ 400 := by
    by_cases q9 : a ≤ L
    · have := hsk.2 q9; omega
    · rw [sk_n (by omega)]; omega
  refine lv_istore_n (lv' := [(1, .int (hre f L (sk f L a))), (0, .ref (x + 2))]) hx hb (fh_d d_Rd_takeSide 2 rfl) rfl hl (by decide) rfl (fun ls hl => ?_)
  refine va_ldcS (own := "FormulaSetter$Reader") (tx := "()[]|.") (index := 193) hx hb hown ((hSt _ hRO).1 7 (by decide)).2.2.2.2 (fh_d d_Rd_takeSide 3 rfl) ?_
  refine lv_iload_n hx hb (fh_d d_Rd_takeSide 4 rfl) rfl (lv_at hl 0 rfl) ?_
  have hC := m_St_indexOf0 l D ct b RO hR sA sV hSt (r - 1) n 7 (ixI (hre f L (sk f L a))) (by omega) (by decide) (hre_7 hf7 _).2 (mkR x kA aA g nc lc (.ref (x + 1)) (nI L) (nI (sk f L a)) C R CL RL)
  rw [(hre_7 hf7 _).1] at hC
  refine fh_callV (cc' := c_St_indexOf0) (nL' := 2) (rest := []) (a := sA 7) (As := [.int (hre f L (sk f L a))]) X hR (hC) w418 w529 w416 w417 w15 ⟨by decide, by decide, by show _ = some 1; decide +kernel⟩ (by omega) (by decide) (fs_recv ((hSt _ hRO).1 7 (by decide)).1 hS) hP hS hl.1 rfl (by exact Nat.le_of_ble_eq_true rfl) (fh_d d_Rd_takeSide 5 rfl) ⟨Nat.le_refl _, Nat.le_refl _⟩ (fun v9 h9 n9 H locs hq hP hS => ?_)
  obtain ⟨rfl, u3, u4⟩ := hq
  rw [u3, u4] at hP
  refine lv_if_ge (tgt := 16) hx hb (fh_d d_Rd_takeSide 6 rfl) rfl (fun c5 => ?_) (fun c5 => ?_)
  · refine lv_aload_n hx hb (fh_d d_Rd_takeSide 9 rfl) rfl (lv_at hl 1 rfl) ?_
    refine lv_dup hx hb (fh_d d_Rd_takeSide 10 rfl) rfl ?_
    refine fh_get (own := "FormulaSetter$Reader") (ref := "FormulaSetter$Reader") (C := "FormulaSetter$Reader") (T := T_Rd) (N := 7) (v := .int (nI (sk f L a))) hx hb hT i_Rd hown hK hP mkR_rd rfl 6 (by decide) (hT _ w186) (fun _ h9 => h9) (rfl) (fh_d d_Rd_takeSide 11 rfl) ?_
    refine lv_iconst (v := 1) hx hb (fh_d d_Rd_takeSide 12 rfl) (by decide) ?_
    refine lv_iadd hx hb (fh_d d_Rd_takeSide 13 rfl) ?_
    refine fh_put (own := "FormulaSetter$Reader") (ref := "FormulaSetter$Reader") (C := "FormulaSetter$Reader") (T := T_Rd) (N := 7) (v := .int ((nI (sk f L a)) + 1)) (ty := .int) hx hb hT i_Rd t_Rd k_Rd n_Rd hown hK hP hS mkR_rd rfl 6 (by decide) (hT _ w186) (fun _ h9 => h9) rfl (by decide +kernel) rfl rfl (Nat.le_of_ble_eq_true rfl) (fh_d d_Rd_takeSide 14 rfl) (fun H locs hP hS => ?_)
    replace hP := fh_P.eq (h' := mkR x kA aA g nc lc (.ref (x + 1)) (nI L) ((nI (sk f L a)) + 1) C R CL RL) hP mkR_urd
    refine lv_iload_n hx hb (fh_d d_Rd_takeSide 15 rfl) rfl (lv_at hl 0 rfl) ?_
    have qm : isSd (hre f L (sk f L a)) := isSd_m.mpr ((ixo_mem (by decide)).mp c5)
    rw [nI_1] at hP
    refine fh_zret X hP hS (fh_d d_Rd_takeSide 16 rfl) ?_ ⟨by rw [if_pos qm], by rw [if_pos qm], rfl⟩
    rw [← (hre_7 hf7 _).1]; exact (pk_charN (Nat.lt_trans (hre_7 hf7 _).2 (by decide))).1
  · refine lv_iconst (v := 0) hx hb (fh_d d_Rd_takeSide 7 rfl) (by decide) ?_
    have qm : ¬ isSd (hre f L (sk f L a)) := fun z => c5 ((ixo_mem (by decide)).mpr (isSd_m.mp z))
    refine fh_zret X hP hS (fh_d d_Rd_takeSide 8 rfl) ?_ ⟨by rw [if_neg qm], by rw [if_neg qm], rfl⟩
    decide

abbrev scm (f : Nat → Int32) (L a i : Nat) : Prop := hre f L a = 92 ∧ a + 1 + (st_b i).length ≤ L ∧ (∀ j, j < (st_b i).length → f (a + 1 + j) = (st_b i).getD j 0) ∧ (a + 1 + (st_b i).length = L ∨ ¬ isL (f (a + 1 + (st_b i).length)))
set_option maxHeartbeats 4000000 in
set_option maxRecDepth 100000 in
theorem m_Rd_seesCommand (l : Launch) (D : va_G) (ct : Nat → ClassId) (b : Nat) (RO : State → Prop) (hR : fh_R b RO) (sA sV : Nat → Nat) (hSt : ∀ U, RO U → ro_S b sA sV U) (r : Nat) (hr : 4 ≤ r) (n x : Nat) (kA aA : Nat → Nat) (g : fh_H) (C : Nat → Nat → Int32) (R : Nat → Nat → Option Nat) (CL : Nat → Nat → Int32) (RL : Nat → Nat → Option Nat) (nc lc : Int32) (f : Nat → Int32) (L a : Nat) (hL : L ≤ 160) (ha : a ≤ 400) (hg1 : g (x + 1) = some (.inl (ct 1, 160, .inl f))) (hf7 : ∀ j, f j = (nI (ixI (f j))) ∧ ixI (f j) < 128) (i : Nat) (hi : i < 28) : fh_C l D fh_cl (fh_tys ct) b RO y_Rd_seesCommand (Cond.code y_Rd_seesCommand c_Rd_seesCommand 4 (Option.some FieldType.boolean) :: fh_T) (fh_rm r 0 0) [.ref (x + 2), .ref (sA i)] (mkR x kA aA g nc lc (.ref (x + 1)) (nI L) (nI a) C R CL RL) n (fun v h' n' => v = some (.int (if scm f L (sk f L a) i then 1 else 0)) ∧ h' = mkR x kA aA g nc lc (.ref (x + 1)) (nI L) (nI (sk f L a)) C R CL RL ∧ n' = n) 0 0 := by
  refine fh_enter (by decide) (Nat.le_of_ble_eq_true rfl) [(0, .ref (x + 2)), (1, .ref (sA i))] rfl ?_
  intro p e s m args below meth c H ls X hP hS hl
  have hx := X.1
  have hb := X.2.1
  have hml := X.2.2.1
  have hown : s.vm.findClass "FormulaSetter$Reader" = some m.cls := X.2.2.2.1
  have hT := X.2.2.2.2.1
  have hK := X.2.2.2.2.2.1
  have hRO := X.2.2.2.2.2.2.1
  have hnm : meth.name = "seesCommand" := X.2.2.2.2.2.2.2.2.2.2
  have hf : ∀ j, f j = (nI (ixI (f j))) ∧ ixI (f j) < 256 := fun j => ⟨(hf7 j).1, by have := (hf7 j).2; omega⟩
  have hlen := (st_ok i hi).1
  refine lv_aload_n hx hb (fh_d d_Rd_seesCommand 0 rfl) rfl (lv_at hl 0 rfl) ?_
  refine fh_callV (cc' := c_Rd_peek) (nL' := 1) (rest := []) (a := x + 2) (As := []) X hR (m_Rd_peek l D ct b RO (r - 1) n x kA aA g C R CL RL nc lc f L (a) hL (by omega) hg1 hf) w319 w316 w318 v3 w2 ⟨by decide, by decide, by show _ = some 0; decide +kernel⟩ (by omega) (by decide) (fh_recv hK hP mkR_rd rfl) hP hS hl.1 rfl (by exact Nat.le_of_ble_eq_true rfl) (fh_d d_Rd_seesCommand 1 rfl) ⟨Nat.le_refl _, Nat.le_refl _⟩ (fun v9 h9 n9 H locs hq hP hS => ?_)
  obtain ⟨rfl, u1, u2⟩ := hq
  rw [u1, u2] at hP
  have hsk := sk_ge f L _ a rfl
  have hsk2 : sk f L a ≤ 400 := by
    by_cases q9 : a ≤ L
    · have := hsk.2 q9; omega
    · rw [sk_n (by omega)]; omega
  refine lv_bipush (v := 92) hx hb (fh_d d_Rd_seesCommand 2 rfl) (by decide) ?_
  refine lv_icmp_eq (tgt := 11) hx hb (fh_d d_Rd_seesCommand 3 rfl) rfl (fun c3 => ?_) (fun c3 => ?_)
  · have q92 : hre f L (sk f L a) = 92 := c3
    refine lv_aload_n hx hb (fh_d d_Rd_seesCommand 6 rfl) rfl (lv_at hl 0 rfl) ?_
    refine fh_get (own := "FormulaSetter$Reader") (ref := "FormulaSetter$Reader") (C := "FormulaSetter$Reader") (T := T_Rd) (N := 7) (v := .int (nI (sk f L a))) hx hb hT i_Rd hown hK hP mkR_rd rfl 6 (by decide) (hT _ w186) (fun _ h9 => h9) (rfl) (fh_d d_Rd_seesCommand 7 rfl) ?_
    refine lv_iconst (v := 1) hx hb (fh_d d_Rd_seesCommand 8 rfl) (by decide) ?_
    refine lv_iadd hx hb (fh_d d_Rd_seesCommand 9 rfl) ?_
    refine lv_aload_n hx hb (fh_d d_Rd_seesCommand 10 rfl) rfl (lv_at hl 1 rfl) ?_
    refine fh_callV (cc' := c_St_length) (nL' := 1) (rest := [.int ((nI (sk f L a)) + 1)]) (a := sA i) (As := []) X hR (m_St_length l D ct b RO hR sA sV hSt (r - 1) n i (by omega) hi (mkR x kA aA g nc lc (.ref (x + 1)) (nI L) (nI (sk f L a)) C R CL RL)) w332 w329 w330 w331 w15 ⟨by decide, by decide, by show _ = some 0; decide +kernel⟩ (by omega) (by decide) (fs_recv ((hSt _ hRO).1 i hi).1 hS) hP hS hl.1 rfl (by exact Nat.le_of_ble_eq_true rfl) (fh_d d_Rd_seesCommand 11 rfl) ⟨Nat.le_refl _, Nat.le_refl _⟩ (fun v9 h9 n9 H locs hq hP hS => ?_)
    obtain ⟨rfl, u4, u5⟩ := hq
    rw [u4, u5] at hP
    refine lv_iadd hx hb (fh_d d_Rd_seesCommand 12 rfl) ?_
    refine lv_istore_n (lv' := [(2, .int (((nI (sk f L a)) + 1) + (nI (st_b i).length))), (0, .ref (x + 2)), (1, .ref (sA i))]) hx hb (fh_d d_Rd_seesCommand 13 rfl) rfl hl (by decide) rfl (fun ls hl => ?_)
    rw [nI_1, nI_add] at hl
    refine lv_iload_n hx hb (fh_d d_Rd_seesCommand 14 rfl) rfl (lv_at hl 0 rfl) ?_
    refine lv_aload_n hx hb (fh_d d_Rd_seesCommand 15 rfl) rfl (lv_at hl 1 rfl) ?_
    refine fh_get (own := "FormulaSetter$Reader") (ref := "FormulaSetter$Reader") (C := "FormulaSetter$Reader") (T := T_Rd) (N := 7) (v := .int (nI L)) hx hb hT i_Rd hown hK hP mkR_rd rfl 5 (by decide) (hT _ w185) (fun _ h9 => h9) (rfl) (fh_d d_Rd_seesCommand 16 rfl) ?_
    refine lv_icmp_le (tgt := 33) hx hb (fh_d d_Rd_seesCommand 17 rfl) rfl (fun c6 => ?_) (fun c6 => ?_)
    · have qle : sk f L a + 1 + (st_b i).length ≤ L := (nI_leI (by omega) (by omega)).mp c6
      have loop : ∀ (t j : Nat), (st_b i).length - j = t → j ≤ (st_b i).length → (∀ k, k < j → f (sk f L a + 1 + k) = (st_b i).getD k 0) → ∀ (H : Heap) (locs : List Loc) (ls : Array Slot), fh_P D fh_cl b (mkR x kA aA g nc lc (.ref (x + 1)) (nI L) (nI (sk f L a)) C R CL RL) n H → va_S (fh_A b) s.heap H locs → lv_has ls 4 [(3, .int (nI j)), (2, .int (nI (sk f L a + 1 + (st_b i).length))), (0, .ref (x + 2)), (1, .ref (sA i))] → W p l e (fh_rm r 0 0) s m args below meth c H locs 0 0 (MQ below (fh_Post D fh_cl b (fun v h' n' => v = some (.int (if scm f L (sk f L a) i then 1 else 0)) ∧ h' = mkR x kA aA g nc lc (.ref (x + 1)) (nI L) (nI (sk f L a)) C R CL RL ∧ n' = n)) args s 0 0 (fh_A b)) (F0 m 35 ls []) := by
        intro t
        induction t with
        | zero =>
          intro j hjt hj hall H locs ls hP hS hl
          refine lv_iload_n hx hb (fh_d d_Rd_seesCommand 22 rfl) rfl (lv_at hl 0 rfl) ?_
          refine lv_aload_n hx hb (fh_d d_Rd_seesCommand 23 rfl) rfl (lv_at hl 3 rfl) ?_
          refine fh_callV (cc' := c_St_length) (nL' := 1) (rest := [.int (nI j)]) (a := sA i) (As := []) X hR (m_St_length l D ct b RO hR sA sV hSt (r - 1) n i (by omega) hi (mkR x kA aA g nc lc (.ref (x + 1)) (nI L) (nI (sk f L a)) C R CL RL)) w332 w329 w330 w331 w15 ⟨by decide, by decide, by show _ = some 0; decide +kernel⟩ (by omega) (by decide) (fs_recv ((hSt _ hRO).1 i hi).1 hS) hP hS hl.1 rfl (by exact Nat.le_of_ble_eq_true rfl) (fh_d d_Rd_seesCommand 24 rfl) ⟨Nat.le_refl _, Nat.le_refl _⟩ (fun v9 h9 n9 H locs hq hP hS => ?_)
          obtain ⟨rfl, u7, u8⟩ := hq
          rw [u7, u8] at hP
          refine lv_icmp_ge (tgt := 72) hx hb (fh_d d_Rd_seesCommand 25 rfl) rfl (fun c9 => ?_) (fun c9 => absurd c9 (fun c9 => c9 ((nI_leI (a := (st_b i).length) (b := j) (by omega) (by omega)).mpr (by omega))))
          refine lv_iload_n hx hb (fh_d d_Rd_seesCommand 43 rfl) rfl (lv_at hl 1 rfl) ?_
          refine lv_aload_n hx hb (fh_d d_Rd_seesCommand 44 rfl) rfl (lv_at hl 2 rfl) ?_
          refine fh_get (own := "FormulaSetter$Reader") (ref := "FormulaSetter$Reader") (C := "FormulaSetter$Reader") (T := T_Rd) (N := 7) (v := .int (nI L)) hx hb hT i_Rd hown hK hP mkR_rd rfl 5 (by decide) (hT _ w185) (fun _ h9 => h9) (rfl) (fh_d d_Rd_seesCommand 45 rfl) ?_
          refine lv_icmp_eq (tgt := 92) hx hb (fh_d d_Rd_seesCommand 46 rfl) rfl (fun c10 => ?_) (fun c10 => ?_)
          · refine lv_iconst (v := 1) hx hb (fh_d d_Rd_seesCommand 53 rfl) (by decide) ?_
            refine lv_goto (tgt := 97) hx hb (fh_d d_Rd_seesCommand 54 rfl) rfl ?_
            exact fh_zret X hP hS (fh_d d_Rd_seesCommand 56 rfl) (by decide) ⟨by rw [if_pos ⟨q92, qle, fun k hk => hall k (by omega), Or.inl ((nI_eq (by omega) (by omega)).mp c10)⟩], rfl, rfl⟩
          · have qne : ¬ sk f L a + 1 + (st_b i).length = L := fun q => c10 (by rw [q])
            refine lv_aload_n hx hb (fh_d d_Rd_seesCommand 47 rfl) rfl (lv_at hl 2 rfl) ?_
            refine fh_get (own := "FormulaSetter$Reader") (ref := "FormulaSetter$Reader") (C := "FormulaSetter$Reader") (T := T_Rd) (N := 7) (v := .ref (x + 1)) hx hb hT i_Rd hown hK hP mkR_rd rfl 4 (by decide) (hT _ w184) (fun _ h9 => h9) (rfl) (fh_d d_Rd_seesCommand 48 rfl) ?_
            refine lv_iload_n hx hb (fh_d d_Rd_seesCommand 49 rfl) rfl (lv_at hl 1 rfl) ?_
            refine fn_cald (f := f) (k := sk f L a + 1 + (st_b i).length) hx hb hK hP 1 ((mkR_g (by omega) (by omega) (by omega)).trans hg1) rfl (rfl) (by omega) (by decide) (fh_d d_Rd_seesCommand 50 rfl) ?_
            refine fh_callS (cc' := c_At_isLetter) (nL' := 1) (rest := []) (av := [.int (f (sk f L a + 1 + (st_b i).length))]) X hR (m_At_isLetter l D ct b RO (r - 1) n (f (sk f L a + 1 + (st_b i).length)) (mkR x kA aA g nc lc (.ref (x + 1)) (nI L) (nI (sk f L a)) C R CL RL)) w379 w377 w378 w20 ⟨by decide, by decide, by show _ = some 1; decide +kernel⟩ (by omega) (by decide) hP hS hl.1 rfl (by exact Nat.le_of_ble_eq_true rfl) (fh_d d_Rd_seesCommand 51 rfl) ⟨Nat.le_refl _, Nat.le_refl _⟩ (fun v9 h9 n9 H locs hq hP hS => ?_)
            obtain ⟨rfl, u11, u12⟩ := hq
            rw [u11, u12] at hP
            refine lv_if_ne (tgt := 96) hx hb (fh_d d_Rd_seesCommand 52 rfl) rfl (fun c13 => ?_) (fun c13 => ?_)
            · refine lv_iconst (v := 0) hx hb (fh_d d_Rd_seesCommand 55 rfl) (by decide) ?_
              exact fh_zret X hP hS (fh_d d_Rd_seesCommand 56 rfl) (by decide) ⟨by rw [if_neg (fun z => z.2.2.2.elim (fun q => c10 (by rw [q])) (fun q => c13 (by rw [if_neg q])))], rfl, rfl⟩
            · refine lv_iconst (v := 1) hx hb (fh_d d_Rd_seesCommand 53 rfl) (by decide) ?_
              refine lv_goto (tgt := 97) hx hb (fh_d d_Rd_seesCommand 54 rfl) rfl ?_
              exact fh_zret X hP hS (fh_d d_Rd_seesCommand 56 rfl) (by decide) ⟨by rw [if_pos ⟨q92, qle, fun k hk => hall k (by omega), Or.inr (fun z => absurd (c13 : (if isL (f (sk f L a + 1 + (st_b i).length)) then (1 : Int32) else 0) = 0) (by rw [if_pos z]; decide))⟩], rfl, rfl⟩
        | succ t ih =>
          intro j hjt hj hall H locs ls hP hS hl
          refine lv_iload_n hx hb (fh_d d_Rd_seesCommand 22 rfl) rfl (lv_at hl 0 rfl) ?_
          refine lv_aload_n hx hb (fh_d d_Rd_seesCommand 23 rfl) rfl (lv_at hl 3 rfl) ?_
          refine fh_callV (cc' := c_St_length) (nL' := 1) (rest := [.int (nI j)]) (a := sA i) (As := []) X hR (m_St_length l D ct b RO hR sA sV hSt (r - 1) n i (by omega) hi (mkR x kA aA g nc lc (.ref (x + 1)) (nI L) (nI (sk f L a)) C R CL RL)) w332 w329 w330 w331 w15 ⟨by decide, by decide, by show _ = some 0; decide +kernel⟩ (by omega) (by decide) (fs_recv ((hSt _ hRO).1 i hi).1 hS) hP hS hl.1 rfl (by exact Nat.le_of_ble_eq_true rfl) (fh_d d_Rd_seesCommand 24 rfl) ⟨Nat.le_refl _, Nat.le_refl _⟩ (fun v9 h9 n9 H locs hq hP hS => ?_)
          obtain ⟨rfl, u14, u15⟩ := hq
          rw [u14, u15] at hP
          refine lv_icmp_ge (tgt := 72) hx hb (fh_d d_Rd_seesCommand 25 rfl) rfl (fun c16 => absurd c16 (fun c9 => absurd ((nI_leI (a := (st_b i).length) (b := j) (by omega) (by omega)).mp c9) (by omega))) (fun c16 => ?_)
          refine lv_aload_n hx hb (fh_d d_Rd_seesCommand 26 rfl) rfl (lv_at hl 2 rfl) ?_
          refine fh_get (own := "FormulaSetter$Reader") (ref := "FormulaSetter$Reader") (C := "FormulaSetter$Reader") (T := T_Rd) (N := 7) (v := .ref (x + 1)) hx hb hT i_Rd hown hK hP mkR_rd rfl 4 (by decide) (hT _ w184) (fun _ h9 => h9) (rfl) (fh_d d_Rd_seesCommand 27 rfl) ?_
          refine lv_aload_n hx hb (fh_d d_Rd_seesCommand 28 rfl) rfl (lv_at hl 2 rfl) ?_
          refine fh_get (own := "FormulaSetter$Reader") (ref := "FormulaSetter$Reader") (C := "FormulaSetter$Reader") (T := T_Rd) (N := 7) (v := .int (nI (sk f L a))) hx hb hT i_Rd hown hK hP mkR_rd rfl 6 (by decide) (hT _ w186) (fun _ h9 => h9) (rfl) (fh_d d_Rd_seesCommand 29 rfl) ?_
          refine lv_iconst (v := 1) hx hb (fh_d d_Rd_seesCommand 30 rfl) (by decide) ?_
          refine lv_iadd hx hb (fh_d d_Rd_seesCommand 31 rfl) ?_
          refine lv_iload_n hx hb (fh_d d_Rd_seesCommand 32 rfl) rfl (lv_at hl 0 rfl) ?_
          refine lv_iadd hx hb (fh_d d_Rd_seesCommand 33 rfl) ?_
          refine fn_cald (f := f) (k := sk f L a + 1 + j) hx hb hK hP 1 ((mkR_g (by omega) (by omega) (by omega)).trans hg1) rfl (by rw [nI_1, nI_add]) (by omega) (by decide) (fh_d d_Rd_seesCommand 34 rfl) ?_
          refine lv_aload_n hx hb (fh_d d_Rd_seesCommand 35 rfl) rfl (lv_at hl 3 rfl) ?_
          refine lv_iload_n hx hb (fh_d d_Rd_seesCommand 36 rfl) rfl (lv_at hl 0 rfl) ?_
          refine fh_callV (cc' := c_St_charAt) (nL' := 2) (rest := [.int (f (sk f L a + 1 + j))]) (a := sA i) (As := [.int (nI j)]) X hR (m_St_charAt l D ct b RO hR sA sV hSt (r - 1) n i j (by omega) hi (by omega) (mkR x kA aA g nc lc (.ref (x + 1)) (nI L) (nI (sk f L a)) C R CL RL)) w342 w339 w340 w341 w15 ⟨by decide, by decide, by show _ = some 1; decide +kernel⟩ (by omega) (by decide) (fs_recv ((hSt _ hRO).1 i hi).1 hS) hP hS hl.1 rfl (by exact Nat.le_of_ble_eq_true rfl) (fh_d d_Rd_seesCommand 37 rfl) ⟨Nat.le_refl _, Nat.le_refl _⟩ (fun v9 h9 n9 H locs hq hP hS => ?_)
          obtain ⟨rfl, u17, u18⟩ := hq
          rw [u17, u18] at hP
          refine lv_icmp_eq (tgt := 66) hx hb (fh_d d_Rd_seesCommand 38 rfl) rfl (fun c19 => ?_) (fun c19 => ?_)
          · refine W.eq (g2 := F0 m 66 ls []) rfl ?_
            refine lv_iinc (k := 0) (v := (nI j) + 1) (lv' := [(3, .int ((nI j) + 1)), (2, .int (nI (sk f L a + 1 + (st_b i).length))), (0, .ref (x + 2)), (1, .ref (sA i))]) hx hb (fh_d d_Rd_seesCommand 41 rfl) hl rfl (by rfl) (by decide) rfl (fun ls hl => ?_)
            refine lv_goto (tgt := 35) hx hb (fh_d d_Rd_seesCommand 42 rfl) rfl ?_
            rw [nI_1] at hl
            exact ih (j + 1) (by omega) (by omega) (fun k hk => by by_cases q : k = j; exact q ▸ c19; exact hall k (by omega)) H _ _ hP hS hl
          · refine lv_iconst (v := 0) hx hb (fh_d d_Rd_seesCommand 39 rfl) (by decide) ?_
            exact fh_zret X hP hS (fh_d d_Rd_seesCommand 40 rfl) (by decide) ⟨by rw [if_neg (fun z => c19 (z.2.2.1 j (by omega)))], rfl, rfl⟩
      refine lv_iconst (v := 0) hx hb (fh_d d_Rd_seesCommand 20 rfl) (by decide) ?_
      refine lv_istore_n (lv' := [(3, .int 0), (2, .int (nI (sk f L a + 1 + (st_b i).length))), (0, .ref (x + 2)), (1, .ref (sA i))]) hx hb (fh_d d_Rd_seesCommand 21 rfl) rfl hl (by decide) rfl (fun ls hl => ?_)
      exact loop _ 0 rfl (Nat.zero_le _) (fun k hk => absurd hk (Nat.not_lt_zero _)) H _ _ hP hS hl
    · refine lv_iconst (v := 0) hx hb (fh_d d_Rd_seesCommand 18 rfl) (by decide) ?_
      exact fh_zret X hP hS (fh_d d_Rd_seesCommand 19 rfl) (by decide) ⟨by rw [if_neg (fun z => c6 ((nI_leI (by omega) (by omega)).mpr z.2.1))], rfl, rfl⟩
  · refine lv_iconst (v := 0) hx hb (fh_d d_Rd_seesCommand 4 rfl) (by decide) ?_
    exact fh_zret X hP hS (fh_d d_Rd_seesCommand 5 rfl) (by decide) ⟨by rw [if_neg (fun z => c3 z.1)], rfl, rfl⟩

abbrev lend (f : Nat → Int32) (L a : Nat) : Prop := hre f L a = 0 ∨ hre f L a = 125 ∨ hre f L a = 38 ∨ (hre f L a = 92 ∧ hre f L (a + 1) = 92) ∨ scm f L a 0
set_option maxHeartbeats 4000000 in
set_option maxRecDepth 100000 in
theorem m_Rd_isLineEnd (l : Launch) (D : va_G) (ct : Nat → ClassId) (b : Nat) (RO : State → Prop) (hR : fh_R b RO) (sA sV : Nat → Nat) (hSt : ∀ U, RO U → ro_S b sA sV U) (r : Nat) (hr : 5 ≤ r) (n x : Nat) (kA aA : Nat → Nat) (g : fh_H) (C : Nat → Nat → Int32) (R : Nat → Nat → Option Nat) (CL : Nat → Nat → Int32) (RL : Nat → Nat → Option Nat) (nc lc : Int32) (f : Nat → Int32) (L a : Nat) (hL : L ≤ 160) (ha : a ≤ 400) (hg1 : g (x + 1) = some (.inl (ct 1, 160, .inl f))) (hf7 : ∀ j, f j = (nI (ixI (f j))) ∧ ixI (f j) < 128) : fh_C l D fh_cl (fh_tys ct) b RO y_Rd_isLineEnd (Cond.code y_Rd_isLineEnd c_Rd_isLineEnd 2 (Option.some FieldType.boolean) :: fh_T) (fh_rm r 0 0) [.ref (x + 2)] (mkR x kA aA g nc lc (.ref (x + 1)) (nI L) (nI a) C R CL RL) n (fun v h' n' => v = some (.int (if lend f L (sk f L a) then 1 else 0)) ∧ h' = mkR x kA aA g nc lc (.ref (x + 1)) (nI L) (nI (sk f L a)) C R CL RL ∧ n' = n) 0 0 := by
  refine fh_enter (by decide) (Nat.le_of_ble_eq_true rfl) [(0, .ref (x + 2))] rfl ?_
  intro p e s m args below meth c H ls X hP hS hl
  have hx := X.1
  have hb := X.2.1
  have hml := X.2.2.1
  have hown : s.vm.findClass "FormulaSetter$Reader" = some m.cls := X.2.2.2.1
  have hT := X.2.2.2.2.1
  have hK := X.2.2.2.2.2.1
  have hRO := X.2.2.2.2.2.2.1
  have hnm : meth.name = "isLineEnd" := X.2.2.2.2.2.2.2.2.2.2
  have hf : ∀ j, f j = (nI (ixI (f j))) ∧ ixI (f j) < 256 := fun j => ⟨(hf7 j).1, by have := (hf7 j).2; omega⟩
  have hid := sk_id f L _ a rfl
  refine lv_aload_n hx hb (fh_d d_Rd_isLineEnd 0 rfl) rfl (lv_at hl 0 rfl) ?_
  refine fh_callV (cc' := c_Rd_peek) (nL' := 1) (rest := []) (a := x + 2) (As := []) X hR (m_Rd_peek l D ct b RO (r - 1) n x kA aA g C R CL RL nc lc f L (a) hL (by omega) hg1 hf) w319 w316 w318 v3 w2 ⟨by decide, by decide, by show _ = some 0; decide +kernel⟩ (by omega) (by decide) (fh_recv hK hP mkR_rd rfl) hP hS hl.1 rfl (by exact Nat.le_of_ble_eq_true rfl) (fh_d d_Rd_isLineEnd 1 rfl) ⟨Nat.le_refl _, Nat.le_refl _⟩ (fun v9 h9 n9 H locs hq hP hS => ?_)
  obtain ⟨rfl, u1, u2⟩ := hq
  rw [u1, u2] at hP
  have hsk := sk_ge f L _ a rfl
  have hsk2 : sk f L a ≤ 400 := by
    by_cases q9 : a ≤ L
    · have := hsk.2 q9; omega
    · rw [sk_n (by omega)]; omega
  refine lv_istore_n (lv' := [(1, .int (hre f L (sk f L a))), (0, .ref (x + 2))]) hx hb (fh_d d_Rd_isLineEnd 2 rfl) rfl hl (by decide) rfl (fun ls hl => ?_)
  refine lv_iload_n hx hb (fh_d d_Rd_isLineEnd 3 rfl) rfl (lv_at hl 0 rfl) ?_
  refine lv_if_eq (tgt := 37) hx hb (fh_d d_Rd_isLineEnd 4 rfl) rfl (fun c3 => ?_) (fun c3 => ?_)
  · refine lv_iconst (v := 1) hx hb (fh_d d_Rd_isLineEnd 18 rfl) (by decide) ?_
    refine lv_goto (tgt := 42) hx hb (fh_d d_Rd_isLineEnd 19 rfl) rfl ?_
    exact fh_zret X hP hS (fh_d d_Rd_isLineEnd 21 rfl) (by decide) ⟨by rw [if_pos (Or.inl c3)], rfl, rfl⟩
  · refine lv_iload_n hx hb (fh_d d_Rd_isLineEnd 5 rfl) rfl (lv_at hl 0 rfl) ?_
    refine lv_bipush (v := 125) hx hb (fh_d d_Rd_isLineEnd 6 rfl) (by decide) ?_
    refine lv_icmp_eq (tgt := 37) hx hb (fh_d d_Rd_isLineEnd 7 rfl) rfl (fun c4 => ?_) (fun c4 => ?_)
    · refine lv_iconst (v := 1) hx hb (fh_d d_Rd_isLineEnd 18 rfl) (by decide) ?_
      refine lv_goto (tgt := 42) hx hb (fh_d d_Rd_isLineEnd 19 rfl) rfl ?_
      exact fh_zret X hP hS (fh_d d_Rd_isLineEnd 21 rfl) (by decide) ⟨by rw [if_pos (Or.inr (Or.inl c4))], rfl, rfl⟩
    · refine lv_iload_n hx hb (fh_d d_Rd_isLineEnd 8 rfl) rfl (lv_at hl 0 rfl) ?_
      refine lv_bipush (v := 38) hx hb (fh_d d_Rd_isLineEnd 9 rfl) (by decide) ?_
      refine lv_icmp_eq (tgt := 37) hx hb (fh_d d_Rd_isLineEnd 10 rfl) rfl (fun c5 => ?_) (fun c5 => ?_)
      · refine lv_iconst (v := 1) hx hb (fh_d d_Rd_isLineEnd 18 rfl) (by decide) ?_
        refine lv_goto (tgt := 42) hx hb (fh_d d_Rd_isLineEnd 19 rfl) rfl ?_
        exact fh_zret X hP hS (fh_d d_Rd_isLineEnd 21 rfl) (by decide) ⟨by rw [if_pos (Or.inr (Or.inr (Or.inl c5)))], rfl, rfl⟩
      · refine lv_aload_n hx hb (fh_d d_Rd_isLineEnd 11 rfl) rfl (lv_at hl 1 rfl) ?_
        have hC := m_Rd_seesRowEnd l D ct b RO hR (r - 1) (by omega) n x kA aA g C R CL RL nc lc f L (sk f L a) hL (sk_le ha hL) hg1 hf
        rw [hid] at hC
        refine fh_callV (cc' := c_Rd_seesRowEnd) (nL' := 1) (rest := []) (a := x + 2) (As := []) X hR (hC) w323 w320 w322 v4 w2 ⟨by decide, by decide, by show _ = some 0; decide +kernel⟩ (by omega) (by decide) (fh_recv hK hP mkR_rd rfl) hP hS hl.1 rfl (by exact Nat.le_of_ble_eq_true rfl) (fh_d d_Rd_isLineEnd 12 rfl) ⟨Nat.le_refl _, Nat.le_refl _⟩ (fun v9 h9 n9 H locs hq hP hS => ?_)
        obtain ⟨rfl, u6, u7⟩ := hq
        rw [u6, u7] at hP
        refine lv_if_ne (tgt := 37) hx hb (fh_d d_Rd_isLineEnd 13 rfl) rfl (fun c8 => ?_) (fun c8 => ?_)
        · refine lv_iconst (v := 1) hx hb (fh_d d_Rd_isLineEnd 18 rfl) (by decide) ?_
          refine lv_goto (tgt := 42) hx hb (fh_d d_Rd_isLineEnd 19 rfl) rfl ?_
          exact fh_zret X hP hS (fh_d d_Rd_isLineEnd 21 rfl) (by decide) ⟨by rw [if_pos (Or.inr (Or.inr (Or.inr (Or.inl (Classical.byContradiction fun z => c8 (if_neg z))))))], rfl, rfl⟩
        · refine lv_aload_n hx hb (fh_d d_Rd_isLineEnd 14 rfl) rfl (lv_at hl 1 rfl) ?_
          refine va_ldcS (own := "FormulaSetter$Reader") (tx := "right") (index := 85) hx hb hown ((hSt _ hRO).1 0 (by decide)).2.2.2.2 (fh_d d_Rd_isLineEnd 15 rfl) ?_
          have hC := m_Rd_seesCommand l D ct b RO hR sA sV hSt (r - 1) (by omega) n x kA aA g C R CL RL nc lc f L (sk f L a) hL (sk_le ha hL) hg1 hf7 0 (by decide)
          rw [hid] at hC
          refine fh_callV (cc' := c_Rd_seesCommand) (nL' := 4) (rest := []) (a := x + 2) (As := [.ref (sA 0)]) X hR (hC) w328 w325 w327 v5 w2 ⟨by decide, by decide, by show _ = some 1; decide +kernel⟩ (by omega) (by decide) (fh_recv hK hP mkR_rd rfl) hP hS hl.1 rfl (by exact Nat.le_of_ble_eq_true rfl) (fh_d d_Rd_isLineEnd 16 rfl) ⟨Nat.le_refl _, Nat.le_refl _⟩ (fun v9 h9 n9 H locs hq hP hS => ?_)
          obtain ⟨rfl, u9, u10⟩ := hq
          rw [u9, u10] at hP
          refine lv_if_eq (tgt := 41) hx hb (fh_d d_Rd_isLineEnd 17 rfl) rfl (fun c11 => ?_) (fun c11 => ?_)
          · refine lv_iconst (v := 0) hx hb (fh_d d_Rd_isLineEnd 20 rfl) (by decide) ?_
            refine fh_zret X hP hS (fh_d d_Rd_isLineEnd 21 rfl) (by decide) ⟨?_, rfl, rfl⟩
            rw [if_neg]
            rintro (z | z | z | z | z)
            · exact c3 z
            · exact c4 z
            · exact c5 z
            · rw [if_pos z] at c8; exact absurd c8 (by decide)
            · rw [if_pos z] at c11; exact absurd c11 (by decide)
          · refine lv_iconst (v := 1) hx hb (fh_d d_Rd_isLineEnd 18 rfl) (by decide) ?_
            refine lv_goto (tgt := 42) hx hb (fh_d d_Rd_isLineEnd 19 rfl) rfl ?_
            exact fh_zret X hP hS (fh_d d_Rd_isLineEnd 21 rfl) (by decide) ⟨by rw [if_pos (Or.inr (Or.inr (Or.inr (Or.inr (Classical.byContradiction fun z => c11 (if_neg z))))))], rfl, rfl⟩
