/-! The reference: letters, nameHere, sortOf. Printed by wip/whole/gen/p25.py -/
theorem isL_0 : ¬ isL 0 := by decide
theorem isL_lt {f : Nat → Int32} {L k : Nat} (h : isL (hre f L k)) : k < L := by
  by_cases h1 : k < L
  · exact h1
  · unfold hre at h
    rw [if_neg h1] at h
    exact absurd h isL_0
/-- how far the letters go from a + k on -/
def ll (f : Nat → Int32) (L a k : Nat) : Nat := if h : isL (hre f L (a + k)) then ll f L a (k + 1) else k
termination_by L - (a + k)
decreasing_by have := isL_lt h; omega
theorem ll_y {f : Nat → Int32} {L a k : Nat} (h : isL (hre f L (a + k))) : ll f L a k = ll f L a (k + 1) := by rw [ll, dif_pos h]
theorem ll_n {f : Nat → Int32} {L a k : Nat} (h : ¬ isL (hre f L (a + k))) : ll f L a k = k := by rw [ll, dif_neg h]
/-- the name as a number -/
def nh (f : Nat → Int32) (L a k : Nat) (v : Int64) : Int64 := if h : isL (hre f L (a + k)) then nh f L a (k + 1) (if k < 6 then (v <<< ((8 : Int32).toInt64 &&& 63)) ||| (hre f L (a + k)).toInt64 else 0) else if 6 < k then 0 else v
termination_by L - (a + k)
decreasing_by have := isL_lt h; omega
theorem nh_y {f : Nat → Int32} {L a k : Nat} {v : Int64} (h : isL (hre f L (a + k))) : nh f L a k v = nh f L a (k + 1) (if k < 6 then (v <<< ((8 : Int32).toInt64 &&& 63)) ||| (hre f L (a + k)).toInt64 else 0) := by rw [nh, dif_pos h]
theorem nh_n {f : Nat → Int32} {L a k : Nat} {v : Int64} (h : ¬ isL (hre f L (a + k))) : nh f L a k v = if 6 < k then 0 else v := by rw [nh, dif_neg h]
set_option maxHeartbeats 4000000 in
set_option maxRecDepth 100000 in
theorem m_Mo_letters (l : Launch) (D : va_G) (ct : Nat → ClassId) (b : Nat) (RO : State → Prop) (hR : fh_R b RO) (r : Nat) (hr : 1 ≤ r) (n x : Nat) (g : fh_H) (A : Nat → Nat → Int32) (th wr no nu op pi wi he de : Int32) (L a : Nat) (hL : L ≤ 160) (ha : a ≤ 1000) : fh_C l D fh_cl (fh_tys ct) b RO y_Mo_letters (Cond.code y_Mo_letters c_Mo_letters 2 (Option.some FieldType.int) :: fh_T) (fh_rm r 0 0) [.ref x] (mkM ct x g A th (nI L) (nI a) wr no nu op pi wi he de) n (fun v h' n' => v = some (.int (nI (ll (A 0) L a 1))) ∧ h' = mkM ct x g A th (nI L) (nI a) wr no nu op pi wi he de ∧ n' = n) 0 0 := by
  refine fh_enter (by decide) (Nat.le_of_ble_eq_true rfl) [(0, .ref x)] rfl ?_
  intro p e s m args below meth c H ls X hP hS hl
  have hx := X.1
  have hb := X.2.1
  have hml := X.2.2.1
  have hown : s.vm.findClass "FormulaSetterModel" = some m.cls := X.2.2.2.1
  have hT := X.2.2.2.2.1
  have hK := X.2.2.2.2.2.1
  have hRO := X.2.2.2.2.2.2.1
  have hnm : meth.name = "letters" := X.2.2.2.2.2.2.2.2.2.2
  have loop : ∀ (j k : Nat), L - (a + k) = j → k ≤ 1000 → ll (A 0) L a k = ll (A 0) L a 1 → ∀ (H : Heap) (locs : List Loc) (ls : Array Slot), fh_P D fh_cl b (mkM ct x g A th (nI L) (nI a) wr no nu op pi wi he de) n H → va_S (fh_A b) s.heap H locs → lv_has ls 2 [(1, .int (nI k)), (0, .ref x)] → W p l e (fh_rm r 0 0) s m args below meth c H locs 0 0 (MQ below (fh_Post D fh_cl b (fun v h' n' => v = some (.int (nI (ll (A 0) L a 1))) ∧ h' = mkM ct x g A th (nI L) (nI a) wr no nu op pi wi he de ∧ n' = n)) args s 0 0 (fh_A b)) (F0 m 2 ls []) := by
    intro j
    induction j with
    | zero =>
      intro k hjk hk hll H locs ls hP hS hl
      refine lv_aload_n hx hb (fh_d d_Mo_letters 2 rfl) rfl (lv_at hl 1 rfl) ?_
      refine lv_iload_n hx hb (fh_d d_Mo_letters 3 rfl) rfl (lv_at hl 0 rfl) ?_
      refine fh_callV (cc' := c_Mo_here) (nL' := 2) (rest := []) (a := x) (As := [.int (nI k)]) X hR (m_Mo_here l D ct b RO (r - 1) n x g A th wr no nu op pi wi he de L a  (k) hL (by omega)) w1060 w1057 w1059 v36 w9 ⟨by decide, by decide, by show _ = some 1; decide +kernel⟩ (by omega) (by decide) (fh_recv hK hP mkM_o rfl) hP hS hl.1 rfl (by exact Nat.le_of_ble_eq_true rfl) (fh_d d_Mo_letters 4 rfl) ⟨Nat.le_refl _, Nat.le_refl _⟩ (fun v9 h9 n9 H locs hq hP hS => ?_)
      obtain ⟨rfl, u1, u2⟩ := hq
      rw [u1, u2] at hP
      refine fh_callS (cc' := c_Mo_isLetter) (nL' := 1) (rest := []) (av := [.int (hre (A 0) L (a + k))]) X hR (m_Mo_isLetter l D ct b RO (r - 1) n (hre (A 0) L (a + k)) _) w1079 w1077 w1078 w9 ⟨by decide, by decide, by show _ = some 1; decide +kernel⟩ (by omega) (by decide) hP hS hl.1 rfl (by exact Nat.le_of_ble_eq_true rfl) (fh_d d_Mo_letters 5 rfl) ⟨Nat.le_refl _, Nat.le_refl _⟩ (fun v9 h9 n9 H locs hq hP hS => ?_)
      obtain ⟨rfl, u3, u4⟩ := hq
      rw [u3, u4] at hP
      refine lv_if_eq (tgt := 19) hx hb (fh_d d_Mo_letters 6 rfl) rfl (fun c5 => ?_) (fun c5 => ?_)
      · refine lv_iload_n hx hb (fh_d d_Mo_letters 9 rfl) rfl (lv_at hl 0 rfl) ?_
        have q9 : ¬ isL (hre (A 0) L (a + k)) := fun q => by rw [if_pos q] at c5; exact absurd c5 (by decide)
        exact fh_iret X hP hS (fh_d d_Mo_letters 10 rfl) ⟨by rw [← hll, ll_n q9], rfl, rfl⟩
      · refine lv_iinc (k := 0) (v := (nI k) + 1) (lv' := [(1, .int ((nI k) + 1)), (0, .ref x)]) hx hb (fh_d d_Mo_letters 7 rfl) hl rfl (by rfl) (by decide) rfl (fun ls hl => ?_)
        refine lv_goto (tgt := 2) hx hb (fh_d d_Mo_letters 8 rfl) rfl ?_
        have q9 : isL (hre (A 0) L (a + k)) := Classical.byContradiction fun q => c5 (if_neg q)
        have q8 := isL_lt q9
        omega
    | succ j ih =>
      intro k hjk hk hll H locs ls hP hS hl
      refine lv_aload_n hx hb (fh_d d_Mo_letters 2 rfl) rfl (lv_at hl 1 rfl) ?_
      refine lv_iload_n hx hb (fh_d d_Mo_letters 3 rfl) rfl (lv_at hl 0 rfl) ?_
      refine fh_callV (cc' := c_Mo_here) (nL' := 2) (rest := []) (a := x) (As := [.int (nI k)]) X hR (m_Mo_here l D ct b RO (r - 1) n x g A th wr no nu op pi wi he de L a  (k) hL (by omega)) w1060 w1057 w1059 v36 w9 ⟨by decide, by decide, by show _ = some 1; decide +kernel⟩ (by omega) (by decide) (fh_recv hK hP mkM_o rfl) hP hS hl.1 rfl (by exact Nat.le_of_ble_eq_true rfl) (fh_d d_Mo_letters 4 rfl) ⟨Nat.le_refl _, Nat.le_refl _⟩ (fun v9 h9 n9 H locs hq hP hS => ?_)
      obtain ⟨rfl, u6, u7⟩ := hq
      rw [u6, u7] at hP
      refine fh_callS (cc' := c_Mo_isLetter) (nL' := 1) (rest := []) (av := [.int (hre (A 0) L (a + k))]) X hR (m_Mo_isLetter l D ct b RO (r - 1) n (hre (A 0) L (a + k)) _) w1079 w1077 w1078 w9 ⟨by decide, by decide, by show _ = some 1; decide +kernel⟩ (by omega) (by decide) hP hS hl.1 rfl (by exact Nat.le_of_ble_eq_true rfl) (fh_d d_Mo_letters 5 rfl) ⟨Nat.le_refl _, Nat.le_refl _⟩ (fun v9 h9 n9 H locs hq hP hS => ?_)
      obtain ⟨rfl, u8, u9⟩ := hq
      rw [u8, u9] at hP
      refine lv_if_eq (tgt := 19) hx hb (fh_d d_Mo_letters 6 rfl) rfl (fun c10 => ?_) (fun c10 => ?_)
      · refine lv_iload_n hx hb (fh_d d_Mo_letters 9 rfl) rfl (lv_at hl 0 rfl) ?_
        have q9 : ¬ isL (hre (A 0) L (a + k)) := fun q => by rw [if_pos q] at c10; exact absurd c10 (by decide)
        exact fh_iret X hP hS (fh_d d_Mo_letters 10 rfl) ⟨by rw [← hll, ll_n q9], rfl, rfl⟩
      · refine lv_iinc (k := 0) (v := (nI k) + 1) (lv' := [(1, .int ((nI k) + 1)), (0, .ref x)]) hx hb (fh_d d_Mo_letters 7 rfl) hl rfl (by rfl) (by decide) rfl (fun ls hl => ?_)
        refine lv_goto (tgt := 2) hx hb (fh_d d_Mo_letters 8 rfl) rfl ?_
        have q9 : isL (hre (A 0) L (a + k)) := Classical.byContradiction fun q => c10 (if_neg q)
        have q8 := isL_lt q9
        rw [nI_1] at hl
        exact ih (k + 1) (by omega) (by omega) (by rw [← hll, ll_y q9]) H _ _ hP hS hl
  refine lv_iconst (v := 1) hx hb (fh_d d_Mo_letters 0 rfl) (by decide) ?_
  refine lv_istore_n (lv' := [(1, .int 1), (0, .ref x)]) hx hb (fh_d d_Mo_letters 1 rfl) rfl hl (by decide) rfl (fun ls hl => ?_)
  exact loop _ 1 rfl (by omega) rfl H _ _ hP hS hl

set_option maxHeartbeats 4000000 in
set_option maxRecDepth 100000 in
theorem m_Mo_nameHere (l : Launch) (D : va_G) (ct : Nat → ClassId) (b : Nat) (RO : State → Prop) (hR : fh_R b RO) (r : Nat) (hr : 1 ≤ r) (n x : Nat) (g : fh_H) (A : Nat → Nat → Int32) (th wr no nu op pi wi he de : Int32) (L a : Nat) (hL : L ≤ 160) (ha : a ≤ 1000) : fh_C l D fh_cl (fh_tys ct) b RO y_Mo_nameHere (Cond.code y_Mo_nameHere c_Mo_nameHere 4 (Option.some FieldType.long) :: fh_T) (fh_rm r 0 0) [.ref x] (mkM ct x g A th (nI L) (nI a) wr no nu op pi wi he de) n (fun v h' n' => v = some (.long (nh (A 0) L a 1 0)) ∧ h' = mkM ct x g A th (nI L) (nI a) wr no nu op pi wi he de ∧ n' = n) 0 0 := by
  refine fh_enter (by decide) (Nat.le_of_ble_eq_true rfl) [(0, .ref x)] rfl ?_
  intro p e s m args below meth c H ls X hP hS hl
  have hx := X.1
  have hb := X.2.1
  have hml := X.2.2.1
  have hown : s.vm.findClass "FormulaSetterModel" = some m.cls := X.2.2.2.1
  have hT := X.2.2.2.2.1
  have hK := X.2.2.2.2.2.1
  have hRO := X.2.2.2.2.2.2.1
  have hnm : meth.name = "nameHere" := X.2.2.2.2.2.2.2.2.2.2
  have loop : ∀ (j k : Nat) (v : Int64), L - (a + k) = j → k ≤ 1000 → nh (A 0) L a k v = nh (A 0) L a 1 0 → ∀ (H : Heap) (locs : List Loc) (ls : Array Slot), fh_P D fh_cl b (mkM ct x g A th (nI L) (nI a) wr no nu op pi wi he de) n H → va_S (fh_A b) s.heap H locs → lv_has ls 4 [(3, .int (nI k)), (1, .long v), (0, .ref x)] → W p l e (fh_rm r 0 0) s m args below meth c H locs 0 0 (MQ below (fh_Post D fh_cl b (fun v h' n' => v = some (.long (nh (A 0) L a 1 0)) ∧ h' = mkM ct x g A th (nI L) (nI a) wr no nu op pi wi he de ∧ n' = n)) args s 0 0 (fh_A b)) (F0 m 4 ls []) := by
    intro j
    induction j with
    | zero =>
      intro k v hjk hk hnh H locs ls hP hS hl
      refine lv_aload_n hx hb (fh_d d_Mo_nameHere 4 rfl) rfl (lv_at hl 2 rfl) ?_
      refine lv_iload_n hx hb (fh_d d_Mo_nameHere 5 rfl) rfl (lv_at hl 0 rfl) ?_
      refine fh_callV (cc' := c_Mo_here) (nL' := 2) (rest := []) (a := x) (As := [.int (nI k)]) X hR (m_Mo_here l D ct b RO (r - 1) n x g A th wr no nu op pi wi he de L a  (k) hL (by omega)) w1060 w1057 w1059 v36 w9 ⟨by decide, by decide, by show _ = some 1; decide +kernel⟩ (by omega) (by decide) (fh_recv hK hP mkM_o rfl) hP hS hl.1 rfl (by exact Nat.le_of_ble_eq_true rfl) (fh_d d_Mo_nameHere 6 rfl) ⟨Nat.le_refl _, Nat.le_refl _⟩ (fun v9 h9 n9 H locs hq hP hS => ?_)
      obtain ⟨rfl, u1, u2⟩ := hq
      rw [u1, u2] at hP
      refine fh_callS (cc' := c_Mo_isLetter) (nL' := 1) (rest := []) (av := [.int (hre (A 0) L (a + k))]) X hR (m_Mo_isLetter l D ct b RO (r - 1) n (hre (A 0) L (a + k)) _) w1079 w1077 w1078 w9 ⟨by decide, by decide, by show _ = some 1; decide +kernel⟩ (by omega) (by decide) hP hS hl.1 rfl (by exact Nat.le_of_ble_eq_true rfl) (fh_d d_Mo_nameHere 7 rfl) ⟨Nat.le_refl _, Nat.le_refl _⟩ (fun v9 h9 n9 H locs hq hP hS => ?_)
      obtain ⟨rfl, u3, u4⟩ := hq
      rw [u3, u4] at hP
      refine lv_if_eq (tgt := 43) hx hb (fh_d d_Mo_nameHere 8 rfl) rfl (fun c5 => ?_) (fun c5 => ?_)
      · refine lv_iload_n hx hb (fh_d d_Mo_nameHere 25 rfl) rfl (lv_at hl 0 rfl) ?_
        refine lv_bipush (v := 6) hx hb (fh_d d_Mo_nameHere 26 rfl) (by decide) ?_
        refine lv_icmp_le (tgt := 53) hx hb (fh_d d_Mo_nameHere 27 rfl) rfl (fun c6 => ?_) (fun c6 => ?_)
        · refine lv_lload_n hx hb (fh_d d_Mo_nameHere 30 rfl) rfl (lv_at hl 1 rfl) ?_
          have q9 : ¬ isL (hre (A 0) L (a + k)) := fun q => by rw [if_pos q] at c5; exact absurd c5 (by decide)
          have q8 : ¬ 6 < k := by have := (nI_leI (b := 6) (by omega) (by decide)).mp c6; omega
          exact fh_lret X hP hS (fh_d d_Mo_nameHere 31 rfl) ⟨by rw [← hnh, nh_n q9, if_neg q8], rfl, rfl⟩
        · refine lv_lconst (v := 0) hx hb (fh_d d_Mo_nameHere 28 rfl) (by decide) ?_
          refine lv_goto (tgt := 54) hx hb (fh_d d_Mo_nameHere 29 rfl) rfl ?_
          have q9 : ¬ isL (hre (A 0) L (a + k)) := fun q => by rw [if_pos q] at c5; exact absurd c5 (by decide)
          have q8 : 6 < k := Nat.not_le.mp fun q => c6 ((nI_leI (b := 6) (by omega) (by decide)).mpr q)
          exact fh_lret X hP hS (fh_d d_Mo_nameHere 31 rfl) ⟨by rw [← hnh, nh_n q9, if_pos q8], rfl, rfl⟩
      · have q9 : isL (hre (A 0) L (a + k)) := Classical.byContradiction fun q => c5 (if_neg q)
        have q8 := isL_lt q9
        omega
    | succ j ih =>
      intro k v hjk hk hnh H locs ls hP hS hl
      refine lv_aload_n hx hb (fh_d d_Mo_nameHere 4 rfl) rfl (lv_at hl 2 rfl) ?_
      refine lv_iload_n hx hb (fh_d d_Mo_nameHere 5 rfl) rfl (lv_at hl 0 rfl) ?_
      refine fh_callV (cc' := c_Mo_here) (nL' := 2) (rest := []) (a := x) (As := [.int (nI k)]) X hR (m_Mo_here l D ct b RO (r - 1) n x g A th wr no nu op pi wi he de L a  (k) hL (by omega)) w1060 w1057 w1059 v36 w9 ⟨by decide, by decide, by show _ = some 1; decide +kernel⟩ (by omega) (by decide) (fh_recv hK hP mkM_o rfl) hP hS hl.1 rfl (by exact Nat.le_of_ble_eq_true rfl) (fh_d d_Mo_nameHere 6 rfl) ⟨Nat.le_refl _, Nat.le_refl _⟩ (fun v9 h9 n9 H locs hq hP hS => ?_)
      obtain ⟨rfl, u7, u8⟩ := hq
      rw [u7, u8] at hP
      refine fh_callS (cc' := c_Mo_isLetter) (nL' := 1) (rest := []) (av := [.int (hre (A 0) L (a + k))]) X hR (m_Mo_isLetter l D ct b RO (r - 1) n (hre (A 0) L (a + k)) _) w1079 w1077 w1078 w9 ⟨by decide, by decide, by show _ = some 1; decide +kernel⟩ (by omega) (by decide) hP hS hl.1 rfl (by exact Nat.le_of_ble_eq_true rfl) (fh_d d_Mo_nameHere 7 rfl) ⟨Nat.le_refl _, Nat.le_refl _⟩ (fun v9 h9 n9 H locs hq hP hS => ?_)
      obtain ⟨rfl, u9, u10⟩ := hq
      rw [u9, u10] at hP
      refine lv_if_eq (tgt := 43) hx hb (fh_d d_Mo_nameHere 8 rfl) rfl (fun c11 => ?_) (fun c11 => ?_)
      · refine lv_iload_n hx hb (fh_d d_Mo_nameHere 25 rfl) rfl (lv_at hl 0 rfl) ?_
        refine lv_bipush (v := 6) hx hb (fh_d d_Mo_nameHere 26 rfl) (by decide) ?_
        refine lv_icmp_le (tgt := 53) hx hb (fh_d d_Mo_nameHere 27 rfl) rfl (fun c12 => ?_) (fun c12 => ?_)
        · refine lv_lload_n hx hb (fh_d d_Mo_nameHere 30 rfl) rfl (lv_at hl 1 rfl) ?_
          have q9 : ¬ isL (hre (A 0) L (a + k)) := fun q => by rw [if_pos q] at c11; exact absurd c11 (by decide)
          have q8 : ¬ 6 < k := by have := (nI_leI (b := 6) (by omega) (by decide)).mp c12; omega
          exact fh_lret X hP hS (fh_d d_Mo_nameHere 31 rfl) ⟨by rw [← hnh, nh_n q9, if_neg q8], rfl, rfl⟩
        · refine lv_lconst (v := 0) hx hb (fh_d d_Mo_nameHere 28 rfl) (by decide) ?_
          refine lv_goto (tgt := 54) hx hb (fh_d d_Mo_nameHere 29 rfl) rfl ?_
          have q9 : ¬ isL (hre (A 0) L (a + k)) := fun q => by rw [if_pos q] at c11; exact absurd c11 (by decide)
          have q8 : 6 < k := Nat.not_le.mp fun q => c12 ((nI_leI (b := 6) (by omega) (by decide)).mpr q)
          exact fh_lret X hP hS (fh_d d_Mo_nameHere 31 rfl) ⟨by rw [← hnh, nh_n q9, if_pos q8], rfl, rfl⟩
      · have q9 : isL (hre (A 0) L (a + k)) := Classical.byContradiction fun q => c11 (if_neg q)
        have q8 := isL_lt q9
        refine lv_iload_n hx hb (fh_d d_Mo_nameHere 9 rfl) rfl (lv_at hl 0 rfl) ?_
        refine lv_bipush (v := 6) hx hb (fh_d d_Mo_nameHere 10 rfl) (by decide) ?_
        refine lv_icmp_ge (tgt := 35) hx hb (fh_d d_Mo_nameHere 11 rfl) rfl (fun c13 => ?_) (fun c13 => ?_)
        · refine lv_lconst (v := 0) hx hb (fh_d d_Mo_nameHere 21 rfl) (by decide) ?_
          refine lv_lstore_n (lv' := [(1, .long 0), (3, .int (nI k)), (0, .ref x)]) hx hb (fh_d d_Mo_nameHere 22 rfl) rfl hl (by decide) rfl (fun ls hl => ?_)
          refine lv_iinc (k := 1) (v := (nI k) + 1) (lv' := [(3, .int ((nI k) + 1)), (1, .long 0), (0, .ref x)]) hx hb (fh_d d_Mo_nameHere 23 rfl) hl rfl (by rfl) (by decide) rfl (fun ls hl => ?_)
          refine lv_goto (tgt := 4) hx hb (fh_d d_Mo_nameHere 24 rfl) rfl ?_
          have q7 : ¬ k < 6 := by have := (nI_leI (a := 6) (by decide) (by omega)).mp c13; omega
          rw [nI_1] at hl
          exact ih (k + 1) _ (by omega) (by omega) (by rw [← hnh, nh_y q9, if_neg q7]) H _ _ hP hS hl
        · refine lv_lload_n hx hb (fh_d d_Mo_nameHere 12 rfl) rfl (lv_at hl 1 rfl) ?_
          refine lv_bipush (v := 8) hx hb (fh_d d_Mo_nameHere 13 rfl) (by decide) ?_
          refine lv_lshl hx hb (fh_d d_Mo_nameHere 14 rfl) rfl ?_
          refine lv_aload_n hx hb (fh_d d_Mo_nameHere 15 rfl) rfl (lv_at hl 2 rfl) ?_
          refine lv_iload_n hx hb (fh_d d_Mo_nameHere 16 rfl) rfl (lv_at hl 0 rfl) ?_
          refine fh_callV (cc' := c_Mo_here) (nL' := 2) (rest := [.long (v <<< ((8 : Int32).toInt64 &&& 63))]) (a := x) (As := [.int (nI k)]) X hR (m_Mo_here l D ct b RO (r - 1) n x g A th wr no nu op pi wi he de L a  (k) hL (by omega)) w1060 w1057 w1059 v36 w9 ⟨by decide, by decide, by show _ = some 1; decide +kernel⟩ (by omega) (by decide) (fh_recv hK hP mkM_o rfl) hP hS hl.1 rfl (by exact Nat.le_of_ble_eq_true rfl) (fh_d d_Mo_nameHere 17 rfl) ⟨Nat.le_refl _, Nat.le_refl _⟩ (fun v9 h9 n9 H locs hq hP hS => ?_)
          obtain ⟨rfl, u14, u15⟩ := hq
          rw [u14, u15] at hP
          refine lv_i2l hx hb (fh_d d_Mo_nameHere 18 rfl) rfl ?_
          refine lv_lor hx hb (fh_d d_Mo_nameHere 19 rfl) ?_
          refine lv_goto (tgt := 36) hx hb (fh_d d_Mo_nameHere 20 rfl) rfl ?_
          refine lv_lstore_n (lv' := [(1, .long ((v <<< ((8 : Int32).toInt64 &&& 63)) ||| ((hre (A 0) L (a + k)).toInt64))), (3, .int (nI k)), (0, .ref x)]) hx hb (fh_d d_Mo_nameHere 22 rfl) rfl hl (by decide) rfl (fun ls hl => ?_)
          refine lv_iinc (k := 1) (v := (nI k) + 1) (lv' := [(3, .int ((nI k) + 1)), (1, .long ((v <<< ((8 : Int32).toInt64 &&& 63)) ||| ((hre (A 0) L (a + k)).toInt64))), (0, .ref x)]) hx hb (fh_d d_Mo_nameHere 23 rfl) hl rfl (by rfl) (by decide) rfl (fun ls hl => ?_)
          refine lv_goto (tgt := 4) hx hb (fh_d d_Mo_nameHere 24 rfl) rfl ?_
          have q7 : k < 6 := Nat.not_le.mp fun q => c13 ((nI_leI (a := 6) (by decide) (by omega)).mpr q)
          rw [nI_1] at hl
          exact ih (k + 1) _ (by omega) (by omega) (by rw [← hnh, nh_y q9, if_pos q7]) H _ _ hP hS hl
  refine lv_lconst (v := 0) hx hb (fh_d d_Mo_nameHere 0 rfl) (by decide) ?_
  refine lv_lstore_n (lv' := [(1, .long 0), (0, .ref x)]) hx hb (fh_d d_Mo_nameHere 1 rfl) rfl hl (by decide) rfl (fun ls hl => ?_)
  refine lv_iconst (v := 1) hx hb (fh_d d_Mo_nameHere 2 rfl) (by decide) ?_
  refine lv_istore_n (lv' := [(3, .int 1), (1, .long 0), (0, .ref x)]) hx hb (fh_d d_Mo_nameHere 3 rfl) rfl hl (by decide) rfl (fun ls hl => ?_)
  exact loop _ 1 0 rfl (by omega) rfl H _ _ hP hS hl
