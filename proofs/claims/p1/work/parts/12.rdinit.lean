/-! Reader(), Typesetter(), FormulaSetter(). Printed by wip/whole/gen/p12.py -/
def nu_0 : va_E := .inr (2, [.int 0, .int 0, .int 0, .int 0, .int 0, .null, .null, .int 0, .int 0, .null, .null, .null, .null, .null, .null])
def li_0 : va_E := .inr (3, [.int 0, .int 0, .int 0, .int 0, .int 0, .null, .int 0, .int 0, .null])
def rd_F (x i : Nat) : Nat → Option Nat := fun j => if j < i then some (x + j) else none
theorem rd_F0 (x : Nat) : rd_F x 0 = fun _ => none := by funext j; simp [rd_F]
theorem rd_Fs (x i : Nat) : va_up (rd_F x i) i (some (x + i)) = rd_F x (i + 1) := by
  funext j
  simp only [va_up, rd_F]
  by_cases hj : j = i
  · subst hj; simp
  · by_cases h2 : j < i
    · simp [hj, h2, Nat.lt_succ_of_lt h2]
    · simp [hj, h2, show ¬ j < i + 1 by omega]
abbrev fh_q (f : Nat → Option Nat) : (Nat → Int32) ⊕ (Nat → Int64) ⊕ (Nat → UInt32) ⊕ (Nat → UInt64) ⊕ (Nat → Option Nat) := .inr (.inr (.inr (.inr f)))
/-- a Reader at x in the making: i nuclei -/
def rd_1 (ct : Nat → ClassId) (x i : Nat) (h : fh_H) : fh_H := fun q => if q = x then some (.inr (1, [.ref (x + 1), .null, .int 0, .int 0, .null, .int 0, .int 0])) else if q = x + 1 then some (.inl (ct 4, 60, fh_q (rd_F (x + 2) i))) else if x + 2 ≤ q ∧ q < x + 2 + i then some nu_0 else h q
/-- then i lines -/
def rd_2 (ct : Nat → ClassId) (x i : Nat) (h : fh_H) : fh_H := fun q => if q = x then some (.inr (1, [.ref (x + 1), .ref (x + 62), .int 0, .int 0, .null, .int 0, .int 0])) else if q = x + 62 then some (.inl (ct 5, 161, fh_q (rd_F (x + 63) i))) else if x + 63 ≤ q ∧ q < x + 63 + i then some li_0 else rd_1 ct x 60 h q
theorem rd_1_0 (ct : Nat → ClassId) (x : Nat) (h : fh_H) : fh_up (fh_up h (x + 1) (.inl (ct 4, 60, fh_q fun _ => none))) x (.inr (1, [.ref (x + 1), .null, .int 0, .int 0, .null, .int 0, .int 0])) = rd_1 ct x 0 h := by
  funext q
  simp only [fh_up, rd_1, rd_F0]
  by_cases h1 : q = x
  · simp [h1]
  · by_cases h2 : q = x + 1
    · simp [h2]
    · rw [if_neg h1, if_neg h2, if_neg h1, if_neg h2, if_neg (by omega)]
theorem rd_1_s (ct : Nat → ClassId) (x i : Nat) (h : fh_H) : fh_up (fh_up (rd_1 ct x i h) (x + 2 + i) nu_0) (x + 1) (.inl (ct 4, 60, fh_q (va_up (rd_F (x + 2) i) i (some (x + 2 + i))))) = rd_1 ct x (i + 1) h := by
  funext q
  rw [rd_Fs]
  simp only [fh_up, rd_1]
  by_cases h1 : q = x
  · subst h1; rw [if_neg (by omega), if_neg (by omega)]; simp
  · by_cases h2 : q = x + 1
    · simp [h2]
    · by_cases h3 : q = x + 2 + i
      · subst h3; rw [if_neg h2, if_pos rfl, if_neg h1, if_neg h2, if_pos (by omega)]
      · rw [if_neg h2, if_neg h3, if_neg h1, if_neg h2, if_neg h1, if_neg h2]
        by_cases h4 : x + 2 ≤ q ∧ q < x + 2 + i
        · rw [if_pos h4, if_pos (by omega)]
        · rw [if_neg h4, if_neg (by omega)]
theorem rd_2_0 (ct : Nat → ClassId) (x : Nat) (h : fh_H) : fh_up (fh_up (rd_1 ct x 60 h) (x + 62) (.inl (ct 5, 161, fh_q fun _ => none))) x (.inr (1, [.ref (x + 1), .ref (x + 62), .int 0, .int 0, .null, .int 0, .int 0])) = rd_2 ct x 0 h := by
  funext q
  simp only [fh_up, rd_2, rd_F0]
  by_cases h1 : q = x
  · simp [h1]
  · by_cases h2 : q = x + 62
    · simp [h2]
    · rw [if_neg h1, if_neg h2, if_neg h1, if_neg h2, if_neg (by omega)]
theorem rd_2_s (ct : Nat → ClassId) (x i : Nat) (h : fh_H) : fh_up (fh_up (rd_2 ct x i h) (x + 63 + i) li_0) (x + 62) (.inl (ct 5, 161, fh_q (va_up (rd_F (x + 63) i) i (some (x + 63 + i))))) = rd_2 ct x (i + 1) h := by
  funext q
  rw [rd_Fs]
  simp only [fh_up, rd_2]
  by_cases h1 : q = x
  · subst h1; rw [if_neg (by omega), if_neg (by omega)]; simp
  · by_cases h2 : q = x + 62
    · simp [h2]
    · by_cases h3 : q = x + 63 + i
      · subst h3; rw [if_neg h2, if_pos rfl, if_neg h1, if_neg h2, if_pos (by omega)]
      · rw [if_neg h2, if_neg h3, if_neg h1, if_neg h2, if_neg h1, if_neg h2]
        by_cases h4 : x + 63 ≤ q ∧ q < x + 63 + i
        · rw [if_pos h4, if_pos (by omega)]
        · rw [if_neg h4, if_neg (by omega)]
theorem nI_lit (k : Nat) : nI k = Int32.ofNat k := rfl
set_option maxHeartbeats 4000000 in
set_option maxRecDepth 100000 in
/-- Reader(): 60 nuclei, 161 lines -/
theorem m_Rd_init (l : Launch) (D : va_G) (ct : Nat → ClassId) (b : Nat) (RO : State → Prop) (hR : fh_R b RO) (hN : ∀ U, RO U → fh_N U) (r n x : Nat) (h : fh_H) (hr : 3 ≤ r) (hx0 : h x = some (.inr (1, [.null, .null, .int 0, .int 0, .null, .int 0, .int 0]))) (hn : n = x + 1) : fh_C l D fh_cl (fh_tys ct) b RO y_Rd_init (Cond.code y_Rd_init c_Rd_init 2 (Option.none : Option FieldType) :: fh_T) (fh_rm r 223 2570) [.ref x] h n (fun v h' n' => v = none ∧ h' = rd_2 ct x 161 h ∧ n' = x + 224) 223 2570 := by
  refine fh_enter (by decide) (Nat.le_of_ble_eq_true rfl) [(0, .ref x)] rfl ?_
  intro p e s m args below meth c H ls X hP hS hl
  have hx := X.1
  have hb := X.2.1
  have hml := X.2.2.1
  have hown : s.vm.findClass "FormulaSetter$Reader" = some m.cls := X.2.2.2.1
  have hT := X.2.2.2.2.1
  have hK := X.2.2.2.2.2.1
  have hRO := X.2.2.2.2.2.2.1
  have hnm : meth.name = "<init>" := X.2.2.2.2.2.2.2.2.2.2
  have loop2 : ∀ (k i : Nat), i + k = 161 → ∀ (H : Heap) (locs : List Loc) (ls : Array Slot), fh_P D fh_cl b (rd_2 ct x i h) (x + 63 + i) H → va_S (fh_A b) s.heap H locs → lv_has ls 2 [(1, .int (nI i)), (0, .ref x)] → W p l e (fh_rm r 223 2570) s m args below meth c H locs (62 + i) (1121 + 9 * i) (MQ below (fh_Post D fh_cl b fun v h' n' => v = none ∧ h' = rd_2 ct x 161 h ∧ n' = x + 224) args s 223 2570 (fh_A b)) (F0 m 52 ls []) := by
    intro k
    induction k with
    | zero =>
      intro i hik H locs ls hP hS hl
      obtain rfl : i = 161 := by omega
      refine lv_iload_n hx hb (fh_d d_Rd_init 26 rfl) rfl (lv_at hl 0 rfl) ?_
      refine lv_sipush (v := 161) hx hb (fh_d d_Rd_init 27 rfl) (by decide) ?_
      refine lv_icmp_ge (tgt := 78) hx hb (fh_d d_Rd_init 28 rfl) rfl (fun c1 => ?_) (fun c1 => absurd c1 (fun c9 => c1 (nI_le (a := 161) (b := 161) (by omega) (by decide))))
      exact fh_vret X hP hS (fh_d d_Rd_init 38 rfl) ⟨rfl, rfl, rfl⟩
    | succ k ih =>
      intro i hik H locs ls hP hS hl
      have q1 : (rd_2 ct x i h) x = some (.inr (1, [.ref (x + 1), .ref (x + 62), .int 0, .int 0, .null, .int 0, .int 0])) := by simp [rd_2]
      have q2 : (rd_2 ct x i h) (x + 62) = some (.inl (ct 5, 161, .inr (.inr (.inr (.inr (rd_F (x + 63) i)))))) := by simp [rd_2, fh_q]
      refine lv_iload_n hx hb (fh_d d_Rd_init 26 rfl) rfl (lv_at hl 0 rfl) ?_
      refine lv_sipush (v := 161) hx hb (fh_d d_Rd_init 27 rfl) (by decide) ?_
      refine lv_icmp_ge (tgt := 78) hx hb (fh_d d_Rd_init 28 rfl) rfl (fun c2 => absurd c2 (nI_ge (a := i) (b := 161) (by omega) (by decide))) (fun c2 => ?_)
      refine lv_aload_n hx hb (fh_d d_Rd_init 29 rfl) rfl (lv_at hl 1 rfl) ?_
      refine fh_get (own := "FormulaSetter$Reader") (ref := "FormulaSetter$Reader") (C := "FormulaSetter$Reader") (T := T_Rd) (N := 7) (v := .ref (x + 62)) hx hb hT i_Rd hown hK hP q1 rfl 1 (by decide) (hT _ w181) (fun _ h9 => h9) rfl (fh_d d_Rd_init 30 rfl) ?_
      refine lv_iload_n hx hb (fh_d d_Rd_init 31 rfl) rfl (lv_at hl 0 rfl) ?_
      refine fh_new (own := "FormulaSetter$Reader") (C := "FormulaSetter$Line") (T := T_Li) (N := 9) (ci := 3) (fs := [.int 0, .int 0, .int 0, .int 0, .int 0, .null, .int 0, .int 0, .null]) hx hb hT i_Li t_Li k_Li hown (hT _ w146) (hT _ w148) (hT _ w5) hK hP hS rfl (by decide +kernel) (by show 62 + i + 1 ≤ 223; omega) (by show 1121 + 9 * i + 9 ≤ 2570; omega) (fh_d d_Rd_init 32 rfl) (fun H hP hS => ?_)
      obtain ⟨h3, eh3⟩ : ∃ z : fh_H, z = fh_up (rd_2 ct x i h) (x + 63 + i) (.inr (3, [.int 0, .int 0, .int 0, .int 0, .int 0, .null, .int 0, .int 0, .null])) := ⟨_, rfl⟩
      replace hP : fh_P D fh_cl b h3 (x + 63 + i + 1) H := by rw [eh3]; exact hP
      have k4 : h3 x = some (.inr (1, [.ref (x + 1), .ref (x + 62), .int 0, .int 0, .null, .int 0, .int 0])) := by rw [eh3, fh_up_ne (by omega)]; exact q1
      have k5 : h3 (x + 62) = some (.inl (ct 5, 161, .inr (.inr (.inr (.inr (rd_F (x + 63) i)))))) := by rw [eh3, fh_up_ne (by omega)]; exact q2
      have k6 : h3 (x + 63 + i) = some (.inr (3, [.int 0, .int 0, .int 0, .int 0, .int 0, .null, .int 0, .int 0, .null])) := by rw [eh3]; exact fh_up_same
      refine lv_dup hx hb (fh_d d_Rd_init 33 rfl) rfl ?_
      refine fh_callIN (cc' := c_Li_init) (nL' := 1) (rest := [.ref (x + 63 + i), .int (nI i), .ref (x + 62)]) (a := x + 63 + i) (As := []) X hR (m_Li_init l D ct b RO hR hN (r - 1) _ _ _ (by omega)) w151 (hN _ hRO).2.2.2.1 w150 w5 rfl ⟨by decide, by decide, by decide +kernel⟩ (by omega) (by decide) hP hS hl.1 rfl (by exact Nat.le_of_ble_eq_true rfl) (fh_d d_Rd_init 34 rfl) ⟨by show _ + 0 ≤ 223; omega, by show _ + 0 ≤ 2570; omega⟩ (fun v9 h9 n9 H locs hq hP hS => ?_)
      obtain ⟨rfl, q2x, q3x⟩ := hq
      rw [q2x, q3x] at hP
      refine fh_aast hx hb hK hP hS 5 3 k5 rfl k6 rfl (vp_in_nI (by omega) (by decide)) (fh_d d_Rd_init 35 rfl) (fun H locs hP hS => ?_)
      obtain ⟨h7, eh7⟩ : ∃ z : fh_H, z = fh_up h3 (x + 62) (.inl (ct 5, 161, .inr (.inr (.inr (.inr (va_up (rd_F (x + 63) i) (nI i).toNatClampNeg (some (x + 63 + i)))))))) := ⟨_, rfl⟩
      replace hP : fh_P D fh_cl b h7 (x + 63 + i + 1) H := by rw [eh7]; exact hP
      have k8 : h7 x = some (.inr (1, [.ref (x + 1), .ref (x + 62), .int 0, .int 0, .null, .int 0, .int 0])) := by rw [eh7, fh_up_ne (by omega)]; exact k4
      have k9 : h7 (x + 63 + i) = some (.inr (3, [.int 0, .int 0, .int 0, .int 0, .int 0, .null, .int 0, .int 0, .null])) := by rw [eh7, fh_up_ne (by omega)]; exact k6
      have k10 : h7 (x + 62) = some (.inl (ct 5, 161, .inr (.inr (.inr (.inr (va_up (rd_F (x + 63) i) (nI i).toNatClampNeg (some (x + 63 + i)))))))) := by rw [eh7]; exact fh_up_same
      refine lv_iinc (k := 0) (v := (nI i) + 1) (lv' := [(1, .int ((nI i) + 1)), (0, .ref x)]) hx hb (fh_d d_Rd_init 36 rfl) hl rfl (by rfl) (by decide) rfl (fun ls hl => ?_)
      refine lv_goto (tgt := 52) hx hb (fh_d d_Rd_init 37 rfl) rfl ?_
      refine W.cs (cells' := 62 + (i + 1)) (slots' := 1121 + 9 * (i + 1)) (by omega) (by omega) ?_
      refine ih (i + 1) (by omega) H _ _ ?_ hS ?_
      · have q9 : h7 = rd_2 ct x (i + 1) h := by rw [eh7, eh3]; rw [nI_clamp (show i < 2 ^ 31 by omega)]; exact rd_2_s ct x i h
        rw [← q9]; exact hP
      · rw [← nI_1]; exact hl
  have loop1 : ∀ (k i : Nat), i + k = 60 → ∀ (H : Heap) (locs : List Loc) (ls : Array Slot), fh_P D fh_cl b (rd_1 ct x i h) (x + 2 + i) H → va_S (fh_A b) s.heap H locs → lv_has ls 2 [(1, .int (nI i)), (0, .ref x)] → W p l e (fh_rm r 223 2570) s m args below meth c H locs (1 + i) (60 + 15 * i) (MQ below (fh_Post D fh_cl b fun v h' n' => v = none ∧ h' = rd_2 ct x 161 h ∧ n' = x + 224) args s 223 2570 (fh_A b)) (F0 m 15 ls []) := by
    intro k
    induction k with
    | zero =>
      intro i hik H locs ls hP hS hl
      obtain rfl : i = 60 := by omega
      have q1 : (rd_1 ct x 60 h) x = some (.inr (1, [.ref (x + 1), .null, .int 0, .int 0, .null, .int 0, .int 0])) := by simp [rd_1]
      refine lv_iload_n hx hb (fh_d d_Rd_init 8 rfl) rfl (lv_at hl 0 rfl) ?_
      refine lv_bipush (v := 60) hx hb (fh_d d_Rd_init 9 rfl) (by decide) ?_
      refine lv_icmp_ge (tgt := 40) hx hb (fh_d d_Rd_init 10 rfl) rfl (fun c11 => ?_) (fun c11 => absurd c11 (fun c9 => c11 (nI_le (a := 60) (b := 60) (by omega) (by decide))))
      refine lv_aload_n hx hb (fh_d d_Rd_init 20 rfl) rfl (lv_at hl 1 rfl) ?_
      refine lv_sipush (v := 161) hx hb (fh_d d_Rd_init 21 rfl) (by decide) ?_
      refine fh_anew (own := "FormulaSetter$Reader") (C := "FormulaSetter$Line") (N' := 161) hx hb hown (hT _ w146) (hN _ hRO).2.1 hK 5 rfl hP hS (by decide) (by decide) (by decide) (by show 61 + 1 ≤ 223; omega) (by show 960 + 161 ≤ 2570; omega) (fh_d d_Rd_init 22 rfl) (fun H hP hS => ?_)
      obtain ⟨h12, eh12⟩ : ∃ z : fh_H, z = fh_up (rd_1 ct x 60 h) (x + 62) (.inl (ct 5, 161, .inr (.inr (.inr (.inr (fun _ => none)))))) := ⟨_, rfl⟩
      replace hP : fh_P D fh_cl b h12 (x + 63) H := by rw [eh12]; exact hP
      have k13 : h12 x = some (.inr (1, [.ref (x + 1), .null, .int 0, .int 0, .null, .int 0, .int 0])) := by rw [eh12, fh_up_ne (by omega)]; exact q1
      have k14 : h12 (x + 62) = some (.inl (ct 5, 161, .inr (.inr (.inr (.inr (fun _ => none)))))) := by rw [eh12]; exact fh_up_same
      refine fh_putF (own := "FormulaSetter$Reader") (ref := "FormulaSetter$Reader") (C := "FormulaSetter$Reader") (T := T_Rd) (N := 7) (v := .ref (x + 62)) (ty := (.array (.object "FormulaSetter$Line"))) hx hb hT i_Rd t_Rd k_Rd n_Rd hown hK hP hS k13 rfl 1 (by decide) (hT _ w181) (fun _ h9 => h9) rfl hnm rfl (by decide +kernel) rfl rfl (by simp) (fh_d d_Rd_init 23 rfl) (fun H locs hP hS => ?_)
      obtain ⟨h15, eh15⟩ : ∃ z : fh_H, z = fh_up h12 x (.inr (1, [.ref (x + 1), .ref (x + 62), .int 0, .int 0, .null, .int 0, .int 0])) := ⟨_, rfl⟩
      replace hP : fh_P D fh_cl b h15 (x + 63) H := by rw [eh15]; exact hP
      have k16 : h15 (x + 62) = some (.inl (ct 5, 161, .inr (.inr (.inr (.inr (fun _ => none)))))) := by rw [eh15, fh_up_ne (by omega)]; exact k14
      have k17 : h15 x = some (.inr (1, [.ref (x + 1), .ref (x + 62), .int 0, .int 0, .null, .int 0, .int 0])) := by rw [eh15]; exact fh_up_same
      refine lv_iconst (v := 0) hx hb (fh_d d_Rd_init 24 rfl) (by decide) ?_
      refine lv_istore_n (lv' := [(1, .int 0), (0, .ref x)]) hx hb (fh_d d_Rd_init 25 rfl) rfl hl (by decide) rfl (fun ls hl => ?_)
      refine loop2 161 0 rfl H _ _ ?_ hS hl
      have q9 : h15 = rd_2 ct x 0 h := by rw [eh15, eh12]; exact rd_2_0 ct x h
      rw [← q9]; exact hP
    | succ k ih =>
      intro i hik H locs ls hP hS hl
      have q1 : (rd_1 ct x i h) x = some (.inr (1, [.ref (x + 1), .null, .int 0, .int 0, .null, .int 0, .int 0])) := by simp [rd_1]
      have q2 : (rd_1 ct x i h) (x + 1) = some (.inl (ct 4, 60, .inr (.inr (.inr (.inr (rd_F (x + 2) i)))))) := by simp [rd_1, fh_q]
      refine lv_iload_n hx hb (fh_d d_Rd_init 8 rfl) rfl (lv_at hl 0 rfl) ?_
      refine lv_bipush (v := 60) hx hb (fh_d d_Rd_init 9 rfl) (by decide) ?_
      refine lv_icmp_ge (tgt := 40) hx hb (fh_d d_Rd_init 10 rfl) rfl (fun c18 => absurd c18 (nI_ge (a := i) (b := 60) (by omega) (by decide))) (fun c18 => ?_)
      refine lv_aload_n hx hb (fh_d d_Rd_init 11 rfl) rfl (lv_at hl 1 rfl) ?_
      refine fh_get (own := "FormulaSetter$Reader") (ref := "FormulaSetter$Reader") (C := "FormulaSetter$Reader") (T := T_Rd) (N := 7) (v := .ref (x + 1)) hx hb hT i_Rd hown hK hP q1 rfl 0 (by decide) (hT _ w180) (fun _ h9 => h9) rfl (fh_d d_Rd_init 12 rfl) ?_
      refine lv_iload_n hx hb (fh_d d_Rd_init 13 rfl) rfl (lv_at hl 0 rfl) ?_
      refine fh_new (own := "FormulaSetter$Reader") (C := "FormulaSetter$Nucleus") (T := T_Nu) (N := 15) (ci := 2) (fs := [.int 0, .int 0, .int 0, .int 0, .int 0, .null, .null, .int 0, .int 0, .null, .null, .null, .null, .null, .null]) hx hb hT i_Nu t_Nu k_Nu hown (hT _ w41) (hT _ w43) (hT _ w4) hK hP hS rfl (by decide +kernel) (by show 1 + i + 1 ≤ 223; omega) (by show 60 + 15 * i + 15 ≤ 2570; omega) (fh_d d_Rd_init 14 rfl) (fun H hP hS => ?_)
      obtain ⟨h19, eh19⟩ : ∃ z : fh_H, z = fh_up (rd_1 ct x i h) (x + 2 + i) (.inr (2, [.int 0, .int 0, .int 0, .int 0, .int 0, .null, .null, .int 0, .int 0, .null, .null, .null, .null, .null, .null])) := ⟨_, rfl⟩
      replace hP : fh_P D fh_cl b h19 (x + 2 + i + 1) H := by rw [eh19]; exact hP
      have k20 : h19 x = some (.inr (1, [.ref (x + 1), .null, .int 0, .int 0, .null, .int 0, .int 0])) := by rw [eh19, fh_up_ne (by omega)]; exact q1
      have k21 : h19 (x + 1) = some (.inl (ct 4, 60, .inr (.inr (.inr (.inr (rd_F (x + 2) i)))))) := by rw [eh19, fh_up_ne (by omega)]; exact q2
      have k22 : h19 (x + 2 + i) = some (.inr (2, [.int 0, .int 0, .int 0, .int 0, .int 0, .null, .null, .int 0, .int 0, .null, .null, .null, .null, .null, .null])) := by rw [eh19]; exact fh_up_same
      refine lv_dup hx hb (fh_d d_Rd_init 15 rfl) rfl ?_
      refine fh_callIN (cc' := c_Nu_init) (nL' := 1) (rest := [.ref (x + 2 + i), .int (nI i), .ref (x + 1)]) (a := x + 2 + i) (As := []) X hR (m_Nu_init l D ct b RO hR hN (r - 1) _ _ _ (by omega)) w46 (hN _ hRO).2.2.1 w45 w4 rfl ⟨by decide, by decide, by decide +kernel⟩ (by omega) (by decide) hP hS hl.1 rfl (by exact Nat.le_of_ble_eq_true rfl) (fh_d d_Rd_init 16 rfl) ⟨by show _ + 0 ≤ 223; omega, by show _ + 0 ≤ 2570; omega⟩ (fun v9 h9 n9 H locs hq hP hS => ?_)
      obtain ⟨rfl, q2x, q3x⟩ := hq
      rw [q2x, q3x] at hP
      refine fh_aast hx hb hK hP hS 4 2 k21 rfl k22 rfl (vp_in_nI (by omega) (by decide)) (fh_d d_Rd_init 17 rfl) (fun H locs hP hS => ?_)
      obtain ⟨h23, eh23⟩ : ∃ z : fh_H, z = fh_up h19 (x + 1) (.inl (ct 4, 60, .inr (.inr (.inr (.inr (va_up (rd_F (x + 2) i) (nI i).toNatClampNeg (some (x + 2 + i)))))))) := ⟨_, rfl⟩
      replace hP : fh_P D fh_cl b h23 (x + 2 + i + 1) H := by rw [eh23]; exact hP
      have k24 : h23 x = some (.inr (1, [.ref (x + 1), .null, .int 0, .int 0, .null, .int 0, .int 0])) := by rw [eh23, fh_up_ne (by omega)]; exact k20
      have k25 : h23 (x + 2 + i) = some (.inr (2, [.int 0, .int 0, .int 0, .int 0, .int 0, .null, .null, .int 0, .int 0, .null, .null, .null, .null, .null, .null])) := by rw [eh23, fh_up_ne (by omega)]; exact k22
      have k26 : h23 (x + 1) = some (.inl (ct 4, 60, .inr (.inr (.inr (.inr (va_up (rd_F (x + 2) i) (nI i).toNatClampNeg (some (x + 2 + i)))))))) := by rw [eh23]; exact fh_up_same
      refine lv_iinc (k := 0) (v := (nI i) + 1) (lv' := [(1, .int ((nI i) + 1)), (0, .ref x)]) hx hb (fh_d d_Rd_init 18 rfl) hl rfl (by rfl) (by decide) rfl (fun ls hl => ?_)
      refine lv_goto (tgt := 15) hx hb (fh_d d_Rd_init 19 rfl) rfl ?_
      refine W.cs (cells' := 1 + (i + 1)) (slots' := 60 + 15 * (i + 1)) (by omega) (by omega) ?_
      refine ih (i + 1) (by omega) H _ _ ?_ hS ?_
      · have q9 : h23 = rd_1 ct x (i + 1) h := by rw [eh23, eh19]; rw [nI_clamp (show i < 2 ^ 31 by omega)]; exact rd_1_s ct x i h
        rw [← q9]; exact hP
      · rw [← nI_1]; exact hl
  subst hn
  refine lv_aload_n hx hb (fh_d d_Rd_init 0 rfl) rfl (lv_at hl 0 rfl) ?_
  refine W.objInit hx hb hown (hT _ w40) (hT _ w33) (hT _ w34) rfl (by rw [hml]; exact hl.1) rfl (fh_d d_Rd_init 1 rfl) (by show 1 ≤ r; omega) (by show _ ≤ 60 * r; simp; omega) ?_
  refine W.eq (g2 := F0 m 4 ls []) rfl ?_
  refine lv_aload_n hx hb (fh_d d_Rd_init 2 rfl) rfl (lv_at hl 0 rfl) ?_
  refine lv_bipush (v := 60) hx hb (fh_d d_Rd_init 3 rfl) (by decide) ?_
  refine fh_anew (own := "FormulaSetter$Reader") (C := "FormulaSetter$Nucleus") (N' := 60) hx hb hown (hT _ w41) (hN _ hRO).1 hK 4 rfl hP hS (by decide) (by decide) (by decide) (by show 0 + 1 ≤ 223; omega) (by show 0 + 60 ≤ 2570; omega) (fh_d d_Rd_init 4 rfl) (fun H hP hS => ?_)
  obtain ⟨h27, eh27⟩ : ∃ z : fh_H, z = fh_up h (x + 1) (.inl (ct 4, 60, .inr (.inr (.inr (.inr (fun _ => none)))))) := ⟨_, rfl⟩
  replace hP : fh_P D fh_cl b h27 (x + 2) H := by rw [eh27]; exact hP
  have k28 : h27 x = some (.inr (1, [.null, .null, .int 0, .int 0, .null, .int 0, .int 0])) := by rw [eh27, fh_up_ne (by omega)]; exact hx0
  have k29 : h27 (x + 1) = some (.inl (ct 4, 60, .inr (.inr (.inr (.inr (fun _ => none)))))) := by rw [eh27]; exact fh_up_same
  refine fh_putF (own := "FormulaSetter$Reader") (ref := "FormulaSetter$Reader") (C := "FormulaSetter$Reader") (T := T_Rd) (N := 7) (v := .ref (x + 1)) (ty := (.array (.object "FormulaSetter$Nucleus"))) hx hb hT i_Rd t_Rd k_Rd n_Rd hown hK hP hS k28 rfl 0 (by decide) (hT _ w180) (fun _ h9 => h9) rfl hnm rfl (by decide +kernel) rfl rfl (by simp) (fh_d d_Rd_init 5 rfl) (fun H locs hP hS => ?_)
  obtain ⟨h30, eh30⟩ : ∃ z : fh_H, z = fh_up h27 x (.inr (1, [.ref (x + 1), .null, .int 0, .int 0, .null, .int 0, .int 0])) := ⟨_, rfl⟩
  replace hP : fh_P D fh_cl b h30 (x + 2) H := by rw [eh30]; exact hP
  have k31 : h30 (x + 1) = some (.inl (ct 4, 60, .inr (.inr (.inr (.inr (fun _ => none)))))) := by rw [eh30, fh_up_ne (by omega)]; exact k29
  have k32 : h30 x = some (.inr (1, [.ref (x + 1), .null, .int 0, .int 0, .null, .int 0, .int 0])) := by rw [eh30]; exact fh_up_same
  refine lv_iconst (v := 0) hx hb (fh_d d_Rd_init 6 rfl) (by decide) ?_
  refine lv_istore_n (lv' := [(1, .int 0), (0, .ref x)]) hx hb (fh_d d_Rd_init 7 rfl) rfl hl (by decide) rfl (fun ls hl => ?_)
  refine loop1 60 0 rfl H _ _ ?_ hS hl
  have q9 : h30 = rd_1 ct x 0 h := by rw [eh30, eh27]; exact rd_1_0 ct x h
  rw [← q9]; exact hP
