/-! type of both sides. Printed by wip/whole/gen/p17.py -/
/-- K characters may be typed -/
def ty_ok (c : Int64) (k : Int32) (L K : Nat) : Prop := k = nI K ∧ 1 ≤ K ∧ K ≤ 8 ∧ L + K ≤ 160 ∧ ∀ i, i < K → 32 ≤ fb c i ∧ fb c i ≤ 126
/-- the text with the first t of K characters behind its L characters -/
def ty_t (c : Int64) (K L t : Nat) (tx : Nat → Int32) : Nat → Int32 := fun j => if L ≤ j ∧ j < L + t then nI (fb c (K - 1 - (j - L))) else tx j
theorem ty_t0 (c : Int64) (K L : Nat) (tx : Nat → Int32) : ty_t c K L 0 tx = tx := by
  funext j
  unfold ty_t
  rw [if_neg (by omega)]
theorem ty_ts (c : Int64) (K L t : Nat) (tx : Nat → Int32) : upd (ty_t c K L t tx) (L + t) (nI (fb c (K - 1 - t))) = ty_t c K L (t + 1) tx := by
  funext j
  unfold upd ty_t
  by_cases h1 : j = L + t
  · subst h1
    rw [if_pos rfl, if_pos (by omega)]
    congr 2
    omega
  · rw [if_neg h1]
    by_cases h2 : L ≤ j ∧ j < L + t
    · rw [if_pos h2, if_pos (by omega)]
    · rw [if_neg h2, if_neg (by omega)]
theorem ty_n1 {c : Int64} {k : Int32} {L : Nat} (h : k < 1) : ∀ K, ¬ ty_ok c k L K := by
  rintro K ⟨rfl, h1, h2, -⟩
  exact absurd ((nI_ltI (b := 1) (by omega) (by decide)).mp h) (by omega)
theorem ty_n2 {c : Int64} {k : Int32} {L : Nat} (h : 8 < k) : ∀ K, ¬ ty_ok c k L K := by
  rintro K ⟨rfl, h1, h2, -⟩
  exact absurd ((nI_ltI (a := 8) (by decide) (by omega)).mp h) (by omega)
theorem ty_K {k : Int32} (h1 : ¬ k < 1) (h2 : ¬ 8 < k) : ∃ K : Nat, 1 ≤ K ∧ K ≤ 8 ∧ k = nI K := by
  have a1 : (1 : Int32) ≤ k := Int32.not_lt.mp h1
  have b1 := Int32.le_iff_toInt_le.mp a1
  have b2 := Int32.le_iff_toInt_le.mp (Int32.not_lt.mp h2)
  have c1 : (1 : Int32).toInt = 1 := by decide
  have c2 : (8 : Int32).toInt = 8 := by decide
  rw [c1] at b1
  rw [c2] at b2
  refine ⟨k.toInt.toNat, by omega, by omega, Int32.toInt_inj.mp ?_⟩
  rw [nI_toInt (by omega)]
  omega
theorem ty_n3 {c : Int64} {L K : Nat} (hL : L ≤ 160) (h8 : K ≤ 8) (h : ¬ nI L + nI K ≤ 160) : ∀ K', ¬ ty_ok c (nI K) L K' := by
  rintro K' ⟨e, h1, h2, h3, -⟩
  have e' := (nI_eq (by omega) (by omega)).mp e
  subst e'
  rw [nI_add] at h
  exact h ((nI_leI (b := 160) (by omega) (by decide)).mpr h3)
theorem ty_y3 {L K : Nat} (hL : L ≤ 160) (h8 : K ≤ 8) (h : nI L + nI K ≤ 160) : L + K ≤ 160 := by
  rw [nI_add] at h
  exact (nI_leI (b := 160) (by omega) (by decide)).mp h
theorem ty_n4 {c : Int64} {L K i : Nat} (h8 : K ≤ 8) (hi : i < K) (h : nI (fb c i) < 32 ∨ ¬ nI (fb c i) ≤ 126) : ∀ K', ¬ ty_ok c (nI K) L K' := by
  rintro K' ⟨e, h1, h2, h3, h4⟩
  have e' := (nI_eq (by omega) (by omega)).mp e
  subst e'
  obtain ⟨a1, a2⟩ := h4 i hi
  rcases h with h | h
  · exact absurd ((nI_ltI (b := 32) (by omega) (by decide)).mp h) (by omega)
  · exact h ((nI_leI (b := 126) (by omega) (by decide)).mpr a2)
theorem ty_y4 {c : Int64} {i : Nat} (h1 : ¬ nI (fb c i) < 32) (h2 : nI (fb c i) ≤ 126) : 32 ≤ fb c i ∧ fb c i ≤ 126 := by
  have h3 := fb_lt c i
  refine ⟨?_, (nI_leI (b := 126) (by omega) (by decide)).mp h2⟩
  have : ¬ fb c i < 32 := fun h => h1 ((nI_ltI (b := 32) (by omega) (by decide)).mpr h)
  omega
theorem ty_m1 (t : Nat) : nI (t + 1) - 1 + (-1) = nI t - 1 := by
  rw [nI_pred]
  exact (Int32.sub_eq_add_neg ..).symm
theorem ty_neg : nI 0 - 1 < 0 := by decide +kernel
theorem ty_pos {t : Nat} (h : t < 8) : ¬ nI (t + 1) - 1 < 0 := by
  rw [nI_pred]
  exact nI_pos (by omega)
theorem fh_up_swap {h : fh_H} {a c : Nat} {e e' : va_E} (hac : a ≠ c) : fh_up (fh_up h c e') a e = fh_up (fh_up h a e) c e' := by
  funext q
  by_cases h1 : q = a
  · subst h1; rw [fh_up_same, fh_up_ne hac, fh_up_same]
  · by_cases h2 : q = c
    · subst h2; rw [fh_up_ne h1, fh_up_same, fh_up_same]
    · rw [fh_up_ne h1, fh_up_ne h2, fh_up_ne h2, fh_up_ne h1]
set_option maxHeartbeats 4000000 in
set_option maxRecDepth 100000 in
theorem m_FS_byteOf (l : Launch) (D : va_G) (ct : Nat → ClassId) (b : Nat) (RO : State → Prop) (r n : Nat) (c0 : Int64) (i : Nat) (hi : i < 8) (h : fh_H) : fh_C l D fh_cl (fh_tys ct) b RO y_FS_byteOf (Cond.code y_FS_byteOf c_FS_byteOf 3 (Option.some FieldType.int) :: fh_T) (fh_rm r 0 0) [.long c0, .int (nI i)] h n (fun v h' n' => v = some (.int (nI (fb c0 i))) ∧ h' = h ∧ n' = n) 0 0 := by
  refine fh_enter (by decide) (Nat.le_of_ble_eq_true rfl) [(0, .long c0), (2, .int (nI i))] rfl ?_
  intro p e s m args below meth c H ls X hP hS hl
  have hx := X.1
  have hb := X.2.1
  have hml := X.2.2.1
  have hown : s.vm.findClass "FormulaSetter" = some m.cls := X.2.2.2.1
  have hT := X.2.2.2.2.1
  have hK := X.2.2.2.2.2.1
  have hRO := X.2.2.2.2.2.2.1
  have hnm : meth.name = "byteOf" := X.2.2.2.2.2.2.2.2.2.2
  refine lv_lload_n hx hb (fh_d d_FS_byteOf 0 rfl) rfl (lv_at hl 0 rfl) ?_
  refine lv_bipush (v := 8) hx hb (fh_d d_FS_byteOf 1 rfl) (by decide) ?_
  refine lv_iload_n hx hb (fh_d d_FS_byteOf 2 rfl) rfl (lv_at hl 1 rfl) ?_
  refine lv_imul hx hb (fh_d d_FS_byteOf 3 rfl) ?_
  refine lv_lushr hx hb (fh_d d_FS_byteOf 4 rfl) rfl ?_
  refine lv_l2i hx hb (fh_d d_FS_byteOf 5 rfl) rfl ?_
  refine lv_sipush (v := 255) hx hb (fh_d d_FS_byteOf 6 rfl) (by decide) ?_
  refine lv_iand hx hb (fh_d d_FS_byteOf 7 rfl) ?_
  exact fh_iret X hP hS (fh_d d_FS_byteOf 8 rfl) ⟨by rw [fb_cls c0 hi], rfl, rfl⟩

set_option maxHeartbeats 4000000 in
set_option maxRecDepth 100000 in
theorem m_FS_type (l : Launch) (D : va_G) (ct : Nat → ClassId) (b : Nat) (RO : State → Prop) (hR : fh_R b RO) (r n x : Nat) (hr : 1 ≤ r) (c0 : Int64) (k : Int32) (L : Nat) (hL : L ≤ 160) (w hh d : Int32) (tx : Nat → Int32) (h : fh_H) (ho : h x = some (fs_o x (nI L) w hh d)) (ht : h (x + 1) = some (.inl (ct 1, 160, .inl tx))) : fh_C l D fh_cl (fh_tys ct) b RO y_FS_type (Cond.code y_FS_type c_FS_type 6 (Option.some FieldType.int) :: fh_T) (fh_rm r 0 0) [.ref x, .long c0, .int k] h n (fun v h' n' => n' = n ∧ ((∃ J, ty_ok c0 k L J ∧ v = some (.int (nI (L + J))) ∧ h' = fh_up (fh_up h (x + 1) (.inl (ct 1, 160, .inl (ty_t c0 J L J tx)))) x (fs_o x (nI (L + J)) w hh d)) ∨ ((∀ J, ¬ ty_ok c0 k L J) ∧ v = some (.int (-1000000)) ∧ h' = h))) 0 0 := by
  refine fh_enter (by decide) (Nat.le_of_ble_eq_true rfl) [(0, .ref x), (1, .long c0), (3, .int k)] rfl ?_
  intro p e s m args below meth c H ls X hP hS hl
  have hx := X.1
  have hb := X.2.1
  have hml := X.2.2.1
  have hown : s.vm.findClass "FormulaSetter" = some m.cls := X.2.2.2.1
  have hT := X.2.2.2.2.1
  have hK := X.2.2.2.2.2.1
  have hRO := X.2.2.2.2.2.2.1
  have hnm : meth.name = "type" := X.2.2.2.2.2.2.2.2.2.2
  refine lv_iload_n hx hb (fh_d d_FS_type 0 rfl) rfl (lv_at hl 2 rfl) ?_
  refine lv_iconst (v := 1) hx hb (fh_d d_FS_type 1 rfl) (by decide) ?_
  refine lv_icmp_lt (tgt := 23) hx hb (fh_d d_FS_type 2 rfl) rfl (fun c1 => ?_) (fun c1 => ?_)
  · refine lv_ldc (v := (-1000000)) hx hb hown (hT _ w281) (fh_d d_FS_type 12 rfl) ?_
    exact fh_iret X hP hS (fh_d d_FS_type 13 rfl) ⟨rfl, Or.inr ⟨ty_n1 c1, rfl, rfl⟩⟩
  · refine lv_iload_n hx hb (fh_d d_FS_type 3 rfl) rfl (lv_at hl 2 rfl) ?_
    refine lv_bipush (v := 8) hx hb (fh_d d_FS_type 4 rfl) (by decide) ?_
    refine lv_icmp_gt (tgt := 23) hx hb (fh_d d_FS_type 5 rfl) rfl (fun c2 => ?_) (fun c2 => ?_)
    · refine lv_ldc (v := (-1000000)) hx hb hown (hT _ w281) (fh_d d_FS_type 12 rfl) ?_
      exact fh_iret X hP hS (fh_d d_FS_type 13 rfl) ⟨rfl, Or.inr ⟨ty_n2 c2, rfl, rfl⟩⟩
    · obtain ⟨K, hK1, hK8, rfl⟩ := ty_K c1 c2
      refine lv_aload_n hx hb (fh_d d_FS_type 6 rfl) rfl (lv_at hl 0 rfl) ?_
      refine fh_get (own := "FormulaSetter") (ref := "FormulaSetter") (C := "FormulaSetter") (T := T_FS) (N := 7) (v := .int (nI L)) hx hb hT i_FS hown hK hP ho rfl 3 (by decide) (hT _ w258) (fun _ h9 => h9) rfl (fh_d d_FS_type 7 rfl) ?_
      refine lv_iload_n hx hb (fh_d d_FS_type 8 rfl) rfl (lv_at hl 2 rfl) ?_
      refine lv_iadd hx hb (fh_d d_FS_type 9 rfl) ?_
      refine lv_sipush (v := 160) hx hb (fh_d d_FS_type 10 rfl) (by decide) ?_
      refine lv_icmp_le (tgt := 26) hx hb (fh_d d_FS_type 11 rfl) rfl (fun c3 => ?_) (fun c3 => ?_)
      · have hLK := ty_y3 hL hK8 c3
        have loop2 : (∀ i, i < K → 32 ≤ fb c0 i ∧ fb c0 i ≤ 126) → ∀ (t : Nat), t ≤ K → ∀ (h1 : fh_H) (H : Heap) (locs : List Loc) (ls : Array Slot), h1 = fh_up (fh_up h (x + 1) (.inl (ct 1, 160, .inl (ty_t c0 K L (K - t) tx)))) x (fs_o x (nI (L + (K - t))) w hh d) → fh_P D fh_cl b h1 n H → va_S (fh_A b) s.heap H locs → lv_has ls 6 [(4, .int (nI t - 1)), (0, .ref x), (1, .long c0), (3, .int (nI K))] → W p l e (fh_rm r 0 0) s m args below meth c H locs 0 0 (MQ below (fh_Post D fh_cl b (fun v h' n' => n' = n ∧ ((∃ J, ty_ok c0 (nI K) L J ∧ v = some (.int (nI (L + J))) ∧ h' = fh_up (fh_up h (x + 1) (.inl (ct 1, 160, .inl (ty_t c0 J L J tx)))) x (fs_o x (nI (L + J)) w hh d)) ∨ ((∀ J, ¬ ty_ok c0 (nI K) L J) ∧ v = some (.int (-1000000)) ∧ h' = h)))) args s 0 0 (fh_A b)) (F0 m 71 ls []) := by
          intro hok t
          induction t with
          | zero =>
            intro ht9 h1 H locs ls e1 hP hS hl
            have q1 : h1 x = some (fs_o x (nI (L + (K - 0))) w hh d) := by rw [e1]; exact fh_up_same
            have q2 : h1 (x + 1) = some (.inl (ct 1, 160, .inl (ty_t c0 K L (K - 0) tx))) := by rw [e1, fh_up_ne (by omega)]; exact fh_up_same
            refine lv_iload hx hb (fh_d d_FS_type 37 rfl) (lv_at hl 0 rfl) ?_
            refine lv_if_lt (tgt := 108) hx hb (fh_d d_FS_type 38 rfl) rfl (fun c4 => ?_) (fun c4 => absurd c4 (fun c9 => c4 ty_neg))
            refine lv_aload_n hx hb (fh_d d_FS_type 56 rfl) rfl (lv_at hl 1 rfl) ?_
            refine fh_get (own := "FormulaSetter") (ref := "FormulaSetter") (C := "FormulaSetter") (T := T_FS) (N := 7) (v := .int (nI (L + (K - 0)))) hx hb hT i_FS hown hK hP q1 rfl 3 (by decide) (hT _ w258) (fun _ h9 => h9) rfl (fh_d d_FS_type 57 rfl) ?_
            rw [Nat.sub_zero] at e1
            exact fh_iret X hP hS (fh_d d_FS_type 58 rfl) ⟨rfl, Or.inl ⟨K, ⟨rfl, hK1, hK8, hLK, hok⟩, by rw [Nat.sub_zero], e1⟩⟩
          | succ t ih =>
            intro ht9 h1 H locs ls e1 hP hS hl
            have q1 : h1 x = some (fs_o x (nI (L + (K - (t + 1)))) w hh d) := by rw [e1]; exact fh_up_same
            have q2 : h1 (x + 1) = some (.inl (ct 1, 160, .inl (ty_t c0 K L (K - (t + 1)) tx))) := by rw [e1, fh_up_ne (by omega)]; exact fh_up_same
            refine lv_iload hx hb (fh_d d_FS_type 37 rfl) (lv_at hl 0 rfl) ?_
            refine lv_if_lt (tgt := 108) hx hb (fh_d d_FS_type 38 rfl) rfl (fun c5 => absurd c5 (ty_pos (by omega))) (fun c5 => ?_)
            refine lv_aload_n hx hb (fh_d d_FS_type 39 rfl) rfl (lv_at hl 1 rfl) ?_
            refine fh_get (own := "FormulaSetter") (ref := "FormulaSetter") (C := "FormulaSetter") (T := T_FS) (N := 7) (v := .ref (x + 1)) hx hb hT i_FS hown hK hP q1 rfl 0 (by decide) (hT _ w255) (fun _ h9 => h9) rfl (fh_d d_FS_type 40 rfl) ?_
            refine lv_aload_n hx hb (fh_d d_FS_type 41 rfl) rfl (lv_at hl 1 rfl) ?_
            refine fh_get (own := "FormulaSetter") (ref := "FormulaSetter") (C := "FormulaSetter") (T := T_FS) (N := 7) (v := .int (nI (L + (K - (t + 1))))) hx hb hT i_FS hown hK hP q1 rfl 3 (by decide) (hT _ w258) (fun _ h9 => h9) rfl (fh_d d_FS_type 42 rfl) ?_
            refine lv_lload_n hx hb (fh_d d_FS_type 43 rfl) rfl (lv_at hl 2 rfl) ?_
            refine lv_iload hx hb (fh_d d_FS_type 44 rfl) (lv_at hl 0 rfl) ?_
            rw [nI_pred] at hl ⊢
            refine fh_callS (cc' := c_FS_byteOf) (nL' := 3) (rest := [.int (nI (L + (K - (t + 1)))), .ref (x + 1)]) (av := [.long c0, .int (nI t)]) X hR (m_FS_byteOf l D ct b RO (r - 1) _ c0 (t) (by omega) _) w284 w282 w283 w1 ⟨by decide, by decide, by show _ = some 2; decide +kernel⟩ (by omega) (by decide) hP hS hl.1 rfl (by exact Nat.le_of_ble_eq_true rfl) (fh_d d_FS_type 45 rfl) ⟨Nat.le_refl _, Nat.le_refl _⟩ (fun v9 h9 n9 H locs hq hP hS => ?_)
            obtain ⟨rfl, u6, u7⟩ := hq
            rw [u6, u7] at hP
            refine lv_i2c hx hb (fh_d d_FS_type 46 rfl) rfl ?_
            refine fh_cast hx hb hK hP hS 1 q2 rfl (vp_in_nI (by omega) (by decide)) (fh_d d_FS_type 47 rfl) (fun H locs hP hS => ?_)
            obtain ⟨h8, eh8⟩ : ∃ z : fh_H, z = fh_up h1 (x + 1) (.inl (ct 1, 160, .inl (upd (ty_t c0 K L (K - (t + 1)) tx) (nI (L + (K - (t + 1)))).toNatClampNeg (vp_nar .char (((nI (fb c0 (t))).toUInt32 % 65536).toInt32))))) := ⟨_, rfl⟩
            replace hP : fh_P D fh_cl b h8 n H := by rw [eh8]; exact hP
            have k9 : h8 x = some (fs_o x (nI (L + (K - (t + 1)))) w hh d) := by rw [eh8, fh_up_ne (by omega)]; exact q1
            have k10 : h8 (x + 1) = some (.inl (ct 1, 160, .inl (upd (ty_t c0 K L (K - (t + 1)) tx) (nI (L + (K - (t + 1)))).toNatClampNeg (vp_nar .char (((nI (fb c0 (t))).toUInt32 % 65536).toInt32))))) := by rw [eh8]; exact fh_up_same
            refine lv_aload_n hx hb (fh_d d_FS_type 48 rfl) rfl (lv_at hl 1 rfl) ?_
            refine lv_dup hx hb (fh_d d_FS_type 49 rfl) rfl ?_
            refine fh_get (own := "FormulaSetter") (ref := "FormulaSetter") (C := "FormulaSetter") (T := T_FS) (N := 7) (v := .int (nI (L + (K - (t + 1))))) hx hb hT i_FS hown hK hP k9 rfl 3 (by decide) (hT _ w258) (fun _ h9 => h9) rfl (fh_d d_FS_type 50 rfl) ?_
            refine lv_iconst (v := 1) hx hb (fh_d d_FS_type 51 rfl) (by decide) ?_
            refine lv_iadd hx hb (fh_d d_FS_type 52 rfl) ?_
            refine fh_put (own := "FormulaSetter") (ref := "FormulaSetter") (C := "FormulaSetter") (T := T_FS) (N := 7) (v := .int ((nI (L + (K - (t + 1)))) + 1)) (ty := .int) hx hb hT i_FS t_FS k_FS n_FS hown hK hP hS k9 rfl 3 (by decide) (hT _ w258) (fun _ h9 => h9) rfl (by decide +kernel) rfl rfl (by simp) (fh_d d_FS_type 53 rfl) (fun H locs hP hS => ?_)
            obtain ⟨h11, eh11⟩ : ∃ z : fh_H, z = fh_up h8 x (fs_o x ((nI (L + (K - (t + 1)))) + 1) w hh d) := ⟨_, rfl⟩
            replace hP : fh_P D fh_cl b h11 n H := by rw [eh11]; exact hP
            have k12 : h11 (x + 1) = some (.inl (ct 1, 160, .inl (upd (ty_t c0 K L (K - (t + 1)) tx) (nI (L + (K - (t + 1)))).toNatClampNeg (vp_nar .char (((nI (fb c0 (t))).toUInt32 % 65536).toInt32))))) := by rw [eh11, fh_up_ne (by omega)]; exact k10
            have k13 : h11 x = some (fs_o x ((nI (L + (K - (t + 1)))) + 1) w hh d) := by rw [eh11]; exact fh_up_same
            refine lv_iinc (k := 0) (v := (nI t) + (-1)) (lv' := [(4, .int ((nI t) + (-1))), (0, .ref x), (1, .long c0), (3, .int (nI K))]) hx hb (fh_d d_FS_type 54 rfl) hl rfl (by rfl) (by decide) rfl (fun ls hl => ?_)
            refine lv_goto (tgt := 71) hx hb (fh_d d_FS_type 55 rfl) rfl ?_
            refine ih (by omega) _ H _ _ ?_ hP hS ?_
            · rw [eh11, eh8, e1, fh_up_swap (show x + 1 ≠ x by omega), fh_up_up, fh_up_up]
              have g1 : (nI (L + (K - (t + 1)))).toNatClampNeg = L + (K - (t + 1)) := nI_clamp (by omega)
              have g2 : K - t = K - (t + 1) + 1 := by omega
              have g3 : fb c0 t = fb c0 (K - 1 - (K - (t + 1))) := by congr 1; omega
              rw [g1, fb_nar _ (fb_lt c0 t), g3, ty_ts, ← g2, nI_1, show L + (K - (t + 1)) + 1 = L + (K - t) by omega]
            · have g4 : nI t + (-1) = nI t - 1 := (Int32.sub_eq_add_neg ..).symm
              rw [← g4]; exact hl
        have loop1 : ∀ (j i : Nat), i + j = K → (∀ q, q < i → 32 ≤ fb c0 q ∧ fb c0 q ≤ 126) → ∀ (H : Heap) (locs : List Loc) (ls : Array Slot), fh_P D fh_cl b h n H → va_S (fh_A b) s.heap H locs → lv_has ls 6 [(4, .int (nI i)), (0, .ref x), (1, .long c0), (3, .int (nI K))] → W p l e (fh_rm r 0 0) s m args below meth c H locs 0 0 (MQ below (fh_Post D fh_cl b (fun v h' n' => n' = n ∧ ((∃ J, ty_ok c0 (nI K) L J ∧ v = some (.int (nI (L + J))) ∧ h' = fh_up (fh_up h (x + 1) (.inl (ct 1, 160, .inl (ty_t c0 J L J tx)))) x (fs_o x (nI (L + J)) w hh d)) ∨ ((∀ J, ¬ ty_ok c0 (nI K) L J) ∧ v = some (.int (-1000000)) ∧ h' = h)))) args s 0 0 (fh_A b)) (F0 m 29 ls []) := by
          intro j
          induction j with
          | zero =>
            intro i hij hok H locs ls hP hS hl
            obtain rfl : i = K := by omega
            refine lv_iload hx hb (fh_d d_FS_type 16 rfl) (lv_at hl 0 rfl) ?_
            refine lv_iload_n hx hb (fh_d d_FS_type 17 rfl) rfl (lv_at hl 3 rfl) ?_
            refine lv_icmp_ge (tgt := 66) hx hb (fh_d d_FS_type 18 rfl) rfl (fun c14 => ?_) (fun c14 => absurd c14 (fun c9 => c14 (nI_le (Nat.le_refl _) (by omega))))
            refine lv_iload_n hx hb (fh_d d_FS_type 33 rfl) rfl (lv_at hl 3 rfl) ?_
            refine lv_iconst (v := 1) hx hb (fh_d d_FS_type 34 rfl) (by decide) ?_
            refine lv_isub hx hb (fh_d d_FS_type 35 rfl) ?_
            refine lv_istore (lv' := [(4, .int ((nI i) - 1)), (0, .ref x), (1, .long c0), (3, .int (nI i))]) hx hb (fh_d d_FS_type 36 rfl) hl (by decide) rfl (fun ls hl => ?_)
            refine loop2 hok i (Nat.le_refl _) h H _ _ ?_ hP hS hl
            rw [Nat.sub_self, ty_t0, fh_up_id ht]
            exact (fh_up_id ho).symm
          | succ j ih =>
            intro i hij hok H locs ls hP hS hl
            refine lv_iload hx hb (fh_d d_FS_type 16 rfl) (lv_at hl 0 rfl) ?_
            refine lv_iload_n hx hb (fh_d d_FS_type 17 rfl) rfl (lv_at hl 3 rfl) ?_
            refine lv_icmp_ge (tgt := 66) hx hb (fh_d d_FS_type 18 rfl) rfl (fun c15 => absurd c15 (nI_ge (a := i) (b := K) (by omega) (by omega))) (fun c15 => ?_)
            refine lv_lload_n hx hb (fh_d d_FS_type 19 rfl) rfl (lv_at hl 2 rfl) ?_
            refine lv_iload hx hb (fh_d d_FS_type 20 rfl) (lv_at hl 0 rfl) ?_
            refine fh_callS (cc' := c_FS_byteOf) (nL' := 3) (rest := []) (av := [.long c0, .int (nI i)]) X hR (m_FS_byteOf l D ct b RO (r - 1) _ c0 (i) (by omega) _) w284 w282 w283 w1 ⟨by decide, by decide, by show _ = some 2; decide +kernel⟩ (by omega) (by decide) hP hS hl.1 rfl (by exact Nat.le_of_ble_eq_true rfl) (fh_d d_FS_type 21 rfl) ⟨Nat.le_refl _, Nat.le_refl _⟩ (fun v9 h9 n9 H locs hq hP hS => ?_)
            obtain ⟨rfl, u16, u17⟩ := hq
            rw [u16, u17] at hP
            refine lv_istore (lv' := [(5, .int (nI (fb c0 (i)))), (4, .int (nI i)), (0, .ref x), (1, .long c0), (3, .int (nI K))]) hx hb (fh_d d_FS_type 22 rfl) hl (by decide) rfl (fun ls hl => ?_)
            refine lv_iload hx hb (fh_d d_FS_type 23 rfl) (lv_at hl 0 rfl) ?_
            refine lv_bipush (v := 32) hx hb (fh_d d_FS_type 24 rfl) (by decide) ?_
            refine lv_icmp_lt (tgt := 57) hx hb (fh_d d_FS_type 25 rfl) rfl (fun c18 => ?_) (fun c18 => ?_)
            · refine lv_ldc (v := (-1000000)) hx hb hown (hT _ w281) (fh_d d_FS_type 29 rfl) ?_
              exact fh_iret X hP hS (fh_d d_FS_type 30 rfl) ⟨rfl, Or.inr ⟨ty_n4 hK8 (by omega) (Or.inl c18), rfl, rfl⟩⟩
            · refine lv_iload hx hb (fh_d d_FS_type 26 rfl) (lv_at hl 0 rfl) ?_
              refine lv_bipush (v := 126) hx hb (fh_d d_FS_type 27 rfl) (by decide) ?_
              refine lv_icmp_le (tgt := 60) hx hb (fh_d d_FS_type 28 rfl) rfl (fun c19 => ?_) (fun c19 => ?_)
              · refine lv_iinc (k := 1) (v := (nI i) + 1) (lv' := [(4, .int ((nI i) + 1)), (5, .int (nI (fb c0 (i)))), (0, .ref x), (1, .long c0), (3, .int (nI K))]) hx hb (fh_d d_FS_type 31 rfl) hl rfl (by rfl) (by decide) rfl (fun ls hl => ?_)
                refine lv_goto (tgt := 29) hx hb (fh_d d_FS_type 32 rfl) rfl ?_
                refine ih (i + 1) (by omega) (fun q hq => ?_) H _ _ hP hS ?_
                · by_cases g : q = i
                  · subst g; exact ty_y4 c18 c19
                  · exact hok q (by omega)
                · have hl := lv_sub hl [0, 2, 3, 4] (l' := [(4, .int (nI i + 1)), (0, .ref x), (1, .long c0), (3, .int (nI K))]) rfl
                  rw [← nI_1]; exact hl
              · refine lv_ldc (v := (-1000000)) hx hb hown (hT _ w281) (fh_d d_FS_type 29 rfl) ?_
                exact fh_iret X hP hS (fh_d d_FS_type 30 rfl) ⟨rfl, Or.inr ⟨ty_n4 hK8 (by omega) (Or.inr c19), rfl, rfl⟩⟩
        refine lv_iconst (v := 0) hx hb (fh_d d_FS_type 14 rfl) (by decide) ?_
        refine lv_istore (lv' := [(4, .int 0), (0, .ref x), (1, .long c0), (3, .int (nI K))]) hx hb (fh_d d_FS_type 15 rfl) hl (by decide) rfl (fun ls hl => ?_)
        exact loop1 K 0 (by omega) (fun q hq => absurd hq (by omega)) H _ _ hP hS hl
      · refine lv_ldc (v := (-1000000)) hx hb hown (hT _ w281) (fh_d d_FS_type 12 rfl) ?_
        exact fh_iret X hP hS (fh_d d_FS_type 13 rfl) ⟨rfl, Or.inr ⟨ty_n3 hL hK8 c3, rfl, rfl⟩⟩
