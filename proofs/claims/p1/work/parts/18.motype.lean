/-! type and piece of the reference. Printed by wip/whole/gen/p18.py -/
theorem ty_l1 {q : Nat} (hq : q < 256) : lg_cmp (lN q) 32 < 0 ↔ nI q < 32 := by
  revert hq
  revert q
  decide +kernel
theorem ty_l2 {q : Nat} (hq : q < 256) : lg_cmp (lN q) 126 ≤ 0 ↔ nI q ≤ 126 := by
  revert hq
  revert q
  decide +kernel
set_option maxHeartbeats 4000000 in
set_option maxRecDepth 100000 in
theorem m_Mo_type (l : Launch) (D : va_G) (ct : Nat → ClassId) (b : Nat) (RO : State → Prop) (r n x : Nat) (c0 : Int64) (k : Int32) (L : Nat) (hL : L ≤ 160) (th at_ wr no nu op pi wi he de : Int32) (tx : Nat → Int32) (h : fh_H) (hm : h x = some (mo_s x th (nI L) at_ wr no nu op pi wi he de)) (ht : h (x + 1) = some (.inl (ct 0, 160, .inl tx))) : fh_C l D fh_cl (fh_tys ct) b RO y_Mo_type (Cond.code y_Mo_type c_Mo_type 7 (Option.some FieldType.int) :: fh_T) (fh_rm r 0 0) [.ref x, .long c0, .int k] h n (fun v h' n' => n' = n ∧ ((∃ J, ty_ok c0 k L J ∧ v = some (.int (nI (L + J))) ∧ h' = fh_up (fh_up h (x + 1) (.inl (ct 0, 160, .inl (ty_t c0 J L J tx)))) x (mo_s x 0 (nI (L + J)) at_ wr no nu op pi wi he de)) ∨ ((∀ J, ¬ ty_ok c0 k L J) ∧ v = some (.int (-1000000)) ∧ h' = fh_up h x (mo_s x 0 (nI L) at_ wr no nu op pi wi he de)))) 0 0 := by
  refine fh_enter (by decide) (Nat.le_of_ble_eq_true rfl) [(0, .ref x), (1, .long c0), (3, .int k)] rfl ?_
  intro p e s m args below meth c H ls X hP hS hl
  have hx := X.1
  have hb := X.2.1
  have hml := X.2.2.1
  have hown : s.vm.findClass "FormulaSetterModel" = some m.cls := X.2.2.2.1
  have hT := X.2.2.2.2.1
  have hK := X.2.2.2.2.2.1
  have hRO := X.2.2.2.2.2.2.1
  have hnm : meth.name = "type" := X.2.2.2.2.2.2.2.2.2.2
  refine lv_aload_n hx hb (fh_d d_Mo_type 0 rfl) rfl (lv_at hl 0 rfl) ?_
  refine lv_iconst (v := 0) hx hb (fh_d d_Mo_type 1 rfl) (by decide) ?_
  refine fh_put (own := "FormulaSetterModel") (ref := "FormulaSetterModel") (C := "FormulaSetterModel") (T := T_Mo) (N := 53) (v := .int 0) (ty := .int) hx hb hT i_Mo t_Mo k_Mo n_Mo hown hK hP hS hm rfl 0 (by decide) (hT _ w860) (fun _ h9 => h9) rfl (by decide +kernel) rfl rfl (by simp) (fh_d d_Mo_type 2 rfl) (fun H locs hP hS => ?_)
  obtain ⟨h1, eh1⟩ : ∃ z : fh_H, z = fh_up h x (mo_s x 0 (nI L) at_ wr no nu op pi wi he de) := ⟨_, rfl⟩
  replace hP : fh_P D fh_cl b h1 n H := by rw [eh1]; exact hP
  have k2 : h1 (x + 1) = some (.inl (ct 0, 160, .inl tx)) := by rw [eh1, fh_up_ne (by omega)]; exact ht
  have k3 : h1 x = some (mo_s x 0 (nI L) at_ wr no nu op pi wi he de) := by rw [eh1]; exact fh_up_same
  refine lv_iload_n hx hb (fh_d d_Mo_type 3 rfl) rfl (lv_at hl 2 rfl) ?_
  refine lv_iconst (v := 1) hx hb (fh_d d_Mo_type 4 rfl) (by decide) ?_
  refine lv_icmp_lt (tgt := 28) hx hb (fh_d d_Mo_type 5 rfl) rfl (fun c4 => ?_) (fun c4 => ?_)
  · refine lv_ldc (v := (-1000000)) hx hb hown (hT _ w1029) (fh_d d_Mo_type 15 rfl) ?_
    exact fh_iret X hP hS (fh_d d_Mo_type 16 rfl) ⟨rfl, Or.inr ⟨ty_n1 c4, rfl, eh1⟩⟩
  · refine lv_iload_n hx hb (fh_d d_Mo_type 6 rfl) rfl (lv_at hl 2 rfl) ?_
    refine lv_bipush (v := 8) hx hb (fh_d d_Mo_type 7 rfl) (by decide) ?_
    refine lv_icmp_gt (tgt := 28) hx hb (fh_d d_Mo_type 8 rfl) rfl (fun c5 => ?_) (fun c5 => ?_)
    · refine lv_ldc (v := (-1000000)) hx hb hown (hT _ w1029) (fh_d d_Mo_type 15 rfl) ?_
      exact fh_iret X hP hS (fh_d d_Mo_type 16 rfl) ⟨rfl, Or.inr ⟨ty_n2 c5, rfl, eh1⟩⟩
    · obtain ⟨K, hK1, hK8, rfl⟩ := ty_K c4 c5
      refine lv_aload_n hx hb (fh_d d_Mo_type 9 rfl) rfl (lv_at hl 0 rfl) ?_
      refine fh_get (own := "FormulaSetterModel") (ref := "FormulaSetterModel") (C := "FormulaSetterModel") (T := T_Mo) (N := 53) (v := .int (nI L)) hx hb hT i_Mo hown hK hP k3 rfl 1 (by decide) (hT _ w861) (fun _ h9 => h9) rfl (fh_d d_Mo_type 10 rfl) ?_
      refine lv_iload_n hx hb (fh_d d_Mo_type 11 rfl) rfl (lv_at hl 2 rfl) ?_
      refine lv_iadd hx hb (fh_d d_Mo_type 12 rfl) ?_
      refine lv_sipush (v := 160) hx hb (fh_d d_Mo_type 13 rfl) (by decide) ?_
      refine lv_icmp_le (tgt := 31) hx hb (fh_d d_Mo_type 14 rfl) rfl (fun c6 => ?_) (fun c6 => ?_)
      · have hLK := ty_y3 hL hK8 c6
        have loop2 : (∀ i, i < K → 32 ≤ fb c0 i ∧ fb c0 i ≤ 126) → ∀ (t : Nat), t ≤ K → ∀ (h2 : fh_H) (H : Heap) (locs : List Loc) (ls : Array Slot), h2 = fh_up (fh_up h (x + 1) (.inl (ct 0, 160, .inl (ty_t c0 K L (K - t) tx)))) x (mo_s x 0 (nI (L + (K - t))) at_ wr no nu op pi wi he de) → fh_P D fh_cl b h2 n H → va_S (fh_A b) s.heap H locs → lv_has ls 7 [(4, .int (nI t - 1)), (0, .ref x), (1, .long c0), (3, .int (nI K))] → W p l e (fh_rm r 0 0) s m args below meth c H locs 0 0 (MQ below (fh_Post D fh_cl b (fun v h' n' => n' = n ∧ ((∃ J, ty_ok c0 (nI K) L J ∧ v = some (.int (nI (L + J))) ∧ h' = fh_up (fh_up h (x + 1) (.inl (ct 0, 160, .inl (ty_t c0 J L J tx)))) x (mo_s x 0 (nI (L + J)) at_ wr no nu op pi wi he de)) ∨ ((∀ J, ¬ ty_ok c0 (nI K) L J) ∧ v = some (.int (-1000000)) ∧ h' = fh_up h x (mo_s x 0 (nI L) at_ wr no nu op pi wi he de))))) args s 0 0 (fh_A b)) (F0 m 85 ls []) := by
          intro hok t
          induction t with
          | zero =>
            intro ht9 h2 H locs ls e1 hP hS hl
            have q1 : h2 x = some (mo_s x 0 (nI (L + (K - 0))) at_ wr no nu op pi wi he de) := by rw [e1]; exact fh_up_same
            have q2 : h2 (x + 1) = some (.inl (ct 0, 160, .inl (ty_t c0 K L (K - 0) tx))) := by rw [e1, fh_up_ne (by omega)]; exact fh_up_same
            refine lv_iload hx hb (fh_d d_Mo_type 46 rfl) (lv_at hl 0 rfl) ?_
            refine lv_if_lt (tgt := 127) hx hb (fh_d d_Mo_type 47 rfl) rfl (fun c7 => ?_) (fun c7 => absurd c7 (fun c9 => c7 ty_neg))
            refine lv_aload_n hx hb (fh_d d_Mo_type 69 rfl) rfl (lv_at hl 1 rfl) ?_
            refine fh_get (own := "FormulaSetterModel") (ref := "FormulaSetterModel") (C := "FormulaSetterModel") (T := T_Mo) (N := 53) (v := .int (nI (L + (K - 0)))) hx hb hT i_Mo hown hK hP q1 rfl 1 (by decide) (hT _ w861) (fun _ h9 => h9) rfl (fh_d d_Mo_type 70 rfl) ?_
            rw [Nat.sub_zero] at e1
            exact fh_iret X hP hS (fh_d d_Mo_type 71 rfl) ⟨rfl, Or.inl ⟨K, ⟨rfl, hK1, hK8, hLK, hok⟩, by rw [Nat.sub_zero], e1⟩⟩
          | succ t ih =>
            intro ht9 h2 H locs ls e1 hP hS hl
            have q1 : h2 x = some (mo_s x 0 (nI (L + (K - (t + 1)))) at_ wr no nu op pi wi he de) := by rw [e1]; exact fh_up_same
            have q2 : h2 (x + 1) = some (.inl (ct 0, 160, .inl (ty_t c0 K L (K - (t + 1)) tx))) := by rw [e1, fh_up_ne (by omega)]; exact fh_up_same
            refine lv_iload hx hb (fh_d d_Mo_type 46 rfl) (lv_at hl 0 rfl) ?_
            refine lv_if_lt (tgt := 127) hx hb (fh_d d_Mo_type 47 rfl) rfl (fun c8 => absurd c8 (ty_pos (by omega))) (fun c8 => ?_)
            refine lv_aload_n hx hb (fh_d d_Mo_type 48 rfl) rfl (lv_at hl 1 rfl) ?_
            refine fh_get (own := "FormulaSetterModel") (ref := "FormulaSetterModel") (C := "FormulaSetterModel") (T := T_Mo) (N := 53) (v := .ref (x + 1)) hx hb hT i_Mo hown hK hP q1 rfl 2 (by decide) (hT _ w862) (fun _ h9 => h9) rfl (fh_d d_Mo_type 49 rfl) ?_
            refine lv_aload_n hx hb (fh_d d_Mo_type 50 rfl) rfl (lv_at hl 1 rfl) ?_
            refine fh_get (own := "FormulaSetterModel") (ref := "FormulaSetterModel") (C := "FormulaSetterModel") (T := T_Mo) (N := 53) (v := .int (nI (L + (K - (t + 1))))) hx hb hT i_Mo hown hK hP q1 rfl 1 (by decide) (hT _ w861) (fun _ h9 => h9) rfl (fh_d d_Mo_type 51 rfl) ?_
            refine lv_lload_n hx hb (fh_d d_Mo_type 52 rfl) rfl (lv_at hl 2 rfl) ?_
            rw [nI_pred] at hl
            refine lv_bipush (v := 8) hx hb (fh_d d_Mo_type 53 rfl) (by decide) ?_
            refine lv_iload hx hb (fh_d d_Mo_type 54 rfl) (lv_at hl 0 rfl) ?_
            refine lv_imul hx hb (fh_d d_Mo_type 55 rfl) ?_
            refine lv_lshr hx hb (fh_d d_Mo_type 56 rfl) rfl ?_
            refine lv_ldc2 (v := 255) hx hb hown (hT _ w1030) (fh_d d_Mo_type 57 rfl) ?_
            refine lv_land hx hb (fh_d d_Mo_type 58 rfl) ?_
            rw [fb_ref c0 (show t < 8 by omega)]
            refine lv_l2i hx hb (fh_d d_Mo_type 59 rfl) rfl ?_
            rw [lN_i]
            refine fh_iast hx hb hK hP hS 0 q2 rfl (vp_in_nI (by omega) (by decide)) (fh_d d_Mo_type 60 rfl) (fun H locs hP hS => ?_)
            obtain ⟨h9, eh9⟩ : ∃ z : fh_H, z = fh_up h2 (x + 1) (.inl (ct 0, 160, .inl (upd (ty_t c0 K L (K - (t + 1)) tx) (nI (L + (K - (t + 1)))).toNatClampNeg (nI (fb c0 t))))) := ⟨_, rfl⟩
            replace hP : fh_P D fh_cl b h9 n H := by rw [eh9]; exact hP
            have k10 : h9 x = some (mo_s x 0 (nI (L + (K - (t + 1)))) at_ wr no nu op pi wi he de) := by rw [eh9, fh_up_ne (by omega)]; exact q1
            have k11 : h9 (x + 1) = some (.inl (ct 0, 160, .inl (upd (ty_t c0 K L (K - (t + 1)) tx) (nI (L + (K - (t + 1)))).toNatClampNeg (nI (fb c0 t))))) := by rw [eh9]; exact fh_up_same
            refine lv_aload_n hx hb (fh_d d_Mo_type 61 rfl) rfl (lv_at hl 1 rfl) ?_
            refine lv_dup hx hb (fh_d d_Mo_type 62 rfl) rfl ?_
            refine fh_get (own := "FormulaSetterModel") (ref := "FormulaSetterModel") (C := "FormulaSetterModel") (T := T_Mo) (N := 53) (v := .int (nI (L + (K - (t + 1))))) hx hb hT i_Mo hown hK hP k10 rfl 1 (by decide) (hT _ w861) (fun _ h9 => h9) rfl (fh_d d_Mo_type 63 rfl) ?_
            refine lv_iconst (v := 1) hx hb (fh_d d_Mo_type 64 rfl) (by decide) ?_
            refine lv_iadd hx hb (fh_d d_Mo_type 65 rfl) ?_
            refine fh_put (own := "FormulaSetterModel") (ref := "FormulaSetterModel") (C := "FormulaSetterModel") (T := T_Mo) (N := 53) (v := .int ((nI (L + (K - (t + 1)))) + 1)) (ty := .int) hx hb hT i_Mo t_Mo k_Mo n_Mo hown hK hP hS k10 rfl 1 (by decide) (hT _ w861) (fun _ h9 => h9) rfl (by decide +kernel) rfl rfl (by simp) (fh_d d_Mo_type 66 rfl) (fun H locs hP hS => ?_)
            obtain ⟨h12, eh12⟩ : ∃ z : fh_H, z = fh_up h9 x (mo_s x 0 ((nI (L + (K - (t + 1)))) + 1) at_ wr no nu op pi wi he de) := ⟨_, rfl⟩
            replace hP : fh_P D fh_cl b h12 n H := by rw [eh12]; exact hP
            have k13 : h12 (x + 1) = some (.inl (ct 0, 160, .inl (upd (ty_t c0 K L (K - (t + 1)) tx) (nI (L + (K - (t + 1)))).toNatClampNeg (nI (fb c0 t))))) := by rw [eh12, fh_up_ne (by omega)]; exact k11
            have k14 : h12 x = some (mo_s x 0 ((nI (L + (K - (t + 1)))) + 1) at_ wr no nu op pi wi he de) := by rw [eh12]; exact fh_up_same
            refine lv_iinc (k := 0) (v := (nI t) + (-1)) (lv' := [(4, .int ((nI t) + (-1))), (0, .ref x), (1, .long c0), (3, .int (nI K))]) hx hb (fh_d d_Mo_type 67 rfl) hl rfl (by rfl) (by decide) rfl (fun ls hl => ?_)
            refine lv_goto (tgt := 85) hx hb (fh_d d_Mo_type 68 rfl) rfl ?_
            refine ih (by omega) _ H _ _ ?_ hP hS ?_
            · rw [eh12, eh9, e1, fh_up_swap (show x + 1 ≠ x by omega), fh_up_up, fh_up_up]
              have g1 : (nI (L + (K - (t + 1)))).toNatClampNeg = L + (K - (t + 1)) := nI_clamp (by omega)
              have g2 : K - t = K - (t + 1) + 1 := by omega
              have g3 : fb c0 t = fb c0 (K - 1 - (K - (t + 1))) := by congr 1; omega
              rw [g1, g3, ty_ts, ← g2, nI_1, show L + (K - (t + 1)) + 1 = L + (K - t) by omega]
            · have g4 : nI t + (-1) = nI t - 1 := (Int32.sub_eq_add_neg ..).symm
              rw [← g4]; exact hl
        have loop1 : ∀ (j i : Nat), i + j = K → (∀ q, q < i → 32 ≤ fb c0 q ∧ fb c0 q ≤ 126) → ∀ (H : Heap) (locs : List Loc) (ls : Array Slot), fh_P D fh_cl b h1 n H → va_S (fh_A b) s.heap H locs → lv_has ls 7 [(4, .int (nI i)), (0, .ref x), (1, .long c0), (3, .int (nI K))] → W p l e (fh_rm r 0 0) s m args below meth c H locs 0 0 (MQ below (fh_Post D fh_cl b (fun v h' n' => n' = n ∧ ((∃ J, ty_ok c0 (nI K) L J ∧ v = some (.int (nI (L + J))) ∧ h' = fh_up (fh_up h (x + 1) (.inl (ct 0, 160, .inl (ty_t c0 J L J tx)))) x (mo_s x 0 (nI (L + J)) at_ wr no nu op pi wi he de)) ∨ ((∀ J, ¬ ty_ok c0 (nI K) L J) ∧ v = some (.int (-1000000)) ∧ h' = fh_up h x (mo_s x 0 (nI L) at_ wr no nu op pi wi he de))))) args s 0 0 (fh_A b)) (F0 m 34 ls []) := by
          intro j
          induction j with
          | zero =>
            intro i hij hok H locs ls hP hS hl
            obtain rfl : i = K := by omega
            refine lv_iload hx hb (fh_d d_Mo_type 19 rfl) (lv_at hl 0 rfl) ?_
            refine lv_iload_n hx hb (fh_d d_Mo_type 20 rfl) rfl (lv_at hl 3 rfl) ?_
            refine lv_icmp_ge (tgt := 80) hx hb (fh_d d_Mo_type 21 rfl) rfl (fun c15 => ?_) (fun c15 => absurd c15 (fun c9 => c15 (nI_le (Nat.le_refl _) (by omega))))
            refine lv_iload_n hx hb (fh_d d_Mo_type 42 rfl) rfl (lv_at hl 3 rfl) ?_
            refine lv_iconst (v := 1) hx hb (fh_d d_Mo_type 43 rfl) (by decide) ?_
            refine lv_isub hx hb (fh_d d_Mo_type 44 rfl) ?_
            refine lv_istore (lv' := [(4, .int ((nI i) - 1)), (0, .ref x), (1, .long c0), (3, .int (nI i))]) hx hb (fh_d d_Mo_type 45 rfl) hl (by decide) rfl (fun ls hl => ?_)
            refine loop2 hok i (Nat.le_refl _) _ H _ _ ?_ hP hS hl
            rw [eh1, Nat.sub_self, ty_t0, fh_up_id ht]; rfl
          | succ j ih =>
            intro i hij hok H locs ls hP hS hl
            refine lv_iload hx hb (fh_d d_Mo_type 19 rfl) (lv_at hl 0 rfl) ?_
            refine lv_iload_n hx hb (fh_d d_Mo_type 20 rfl) rfl (lv_at hl 3 rfl) ?_
            refine lv_icmp_ge (tgt := 80) hx hb (fh_d d_Mo_type 21 rfl) rfl (fun c16 => absurd c16 (nI_ge (a := i) (b := K) (by omega) (by omega))) (fun c16 => ?_)
            refine lv_lload_n hx hb (fh_d d_Mo_type 22 rfl) rfl (lv_at hl 2 rfl) ?_
            refine lv_bipush (v := 8) hx hb (fh_d d_Mo_type 23 rfl) (by decide) ?_
            refine lv_iload hx hb (fh_d d_Mo_type 24 rfl) (lv_at hl 0 rfl) ?_
            refine lv_imul hx hb (fh_d d_Mo_type 25 rfl) ?_
            refine lv_lshr hx hb (fh_d d_Mo_type 26 rfl) rfl ?_
            refine lv_ldc2 (v := 255) hx hb hown (hT _ w1030) (fh_d d_Mo_type 27 rfl) ?_
            refine lv_land hx hb (fh_d d_Mo_type 28 rfl) ?_
            rw [fb_ref c0 (show i < 8 by omega)]
            refine lv_lstore (lv' := [(5, .long (lN (fb c0 i))), (4, .int (nI i)), (0, .ref x), (1, .long c0), (3, .int (nI K))]) hx hb (fh_d d_Mo_type 29 rfl) hl (by decide) rfl (fun ls hl => ?_)
            refine lv_lload hx hb (fh_d d_Mo_type 30 rfl) (lv_at hl 0 rfl) ?_
            refine lv_ldc2 (v := 32) hx hb hown (hT _ w1031) (fh_d d_Mo_type 31 rfl) ?_
            refine W.lcmp hx hb (fh_d d_Mo_type 32 rfl) ?_
            refine lv_if_lt (tgt := 71) hx hb (fh_d d_Mo_type 33 rfl) rfl (fun c17 => ?_) (fun c17 => ?_)
            · refine lv_ldc (v := (-1000000)) hx hb hown (hT _ w1029) (fh_d d_Mo_type 38 rfl) ?_
              exact fh_iret X hP hS (fh_d d_Mo_type 39 rfl) ⟨rfl, Or.inr ⟨ty_n4 hK8 (by omega) (Or.inl ((ty_l1 (fb_lt _ _)).mp c17)), rfl, eh1⟩⟩
            · refine lv_lload hx hb (fh_d d_Mo_type 34 rfl) (lv_at hl 0 rfl) ?_
              refine lv_ldc2 (v := 126) hx hb hown (hT _ w1032) (fh_d d_Mo_type 35 rfl) ?_
              refine W.lcmp hx hb (fh_d d_Mo_type 36 rfl) ?_
              refine lv_if_le (tgt := 74) hx hb (fh_d d_Mo_type 37 rfl) rfl (fun c18 => ?_) (fun c18 => ?_)
              · refine lv_iinc (k := 1) (v := (nI i) + 1) (lv' := [(4, .int ((nI i) + 1)), (5, .long (lN (fb c0 i))), (0, .ref x), (1, .long c0), (3, .int (nI K))]) hx hb (fh_d d_Mo_type 40 rfl) hl rfl (by rfl) (by decide) rfl (fun ls hl => ?_)
                refine lv_goto (tgt := 34) hx hb (fh_d d_Mo_type 41 rfl) rfl ?_
                refine ih (i + 1) (by omega) (fun q hq => ?_) H _ _ hP hS ?_
                · by_cases g : q = i
                  · subst g; exact ty_y4 (fun z => c17 ((ty_l1 (fb_lt _ _)).mpr z)) ((ty_l2 (fb_lt _ _)).mp c18)
                  · exact hok q (by omega)
                · have hl := lv_sub hl [0, 2, 3, 4] (l' := [(4, .int (nI i + 1)), (0, .ref x), (1, .long c0), (3, .int (nI K))]) rfl
                  rw [← nI_1]; exact hl
              · refine lv_ldc (v := (-1000000)) hx hb hown (hT _ w1029) (fh_d d_Mo_type 38 rfl) ?_
                exact fh_iret X hP hS (fh_d d_Mo_type 39 rfl) ⟨rfl, Or.inr ⟨ty_n4 hK8 (by omega) (Or.inr (fun z => c18 ((ty_l2 (fb_lt _ _)).mpr z))), rfl, eh1⟩⟩
        refine lv_iconst (v := 0) hx hb (fh_d d_Mo_type 17 rfl) (by decide) ?_
        refine lv_istore (lv' := [(4, .int 0), (0, .ref x), (1, .long c0), (3, .int (nI K))]) hx hb (fh_d d_Mo_type 18 rfl) hl (by decide) rfl (fun ls hl => ?_)
        exact loop1 K 0 (by omega) (fun q hq => absurd hq (by omega)) H _ _ hP hS hl
      · refine lv_ldc (v := (-1000000)) hx hb hown (hT _ w1029) (fh_d d_Mo_type 15 rfl) ?_
        exact fh_iret X hP hS (fh_d d_Mo_type 16 rfl) ⟨rfl, Or.inr ⟨ty_n3 hL hK8 c6, rfl, eh1⟩⟩
