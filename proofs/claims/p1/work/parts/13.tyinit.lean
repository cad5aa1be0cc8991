/-! Typesetter(), FormulaSetter(). Printed by wip/whole/gen/p13.py -/
abbrev ar_0 (ct : Nat → ClassId) (N : Nat) : va_E := .inl (ct 0, N, .inl fun _ => (0 : Int32))
/-- a Typesetter at x, made; what it made lies behind it -/
def ty_1 (ct : Nat → ClassId) (x : Nat) (h : fh_H) : fh_H := fun q => if q = x then some (.inr (4, [.ref (x + 1), .ref (x + 3)])) else if q = x + 1 then some (.inr (5, [.ref (x + 2), .int 0])) else if q = x + 2 then some (ar_0 ct 720) else if q = x + 3 then some (.inr (6, [.ref (x + 4), .ref (x + 5), .ref (x + 6), .int 0, .int 0])) else if x + 4 ≤ q ∧ q < x + 7 then some (ar_0 ct 8) else h q
theorem ty_1_at (ct : Nat → ClassId) (x : Nat) (h h4 h5 h6 : fh_H) (e4 : h4 = fh_up (fh_up (fh_up (fh_up h (x + 1) (.inr (5, [.null, .int 0]))) (x + 2) (ar_0 ct 720)) (x + 1) (.inr (5, [.ref (x + 2), .int 0]))) x (.inr (4, [.ref (x + 1), .null]))) (e5 : h5 = fh_up h4 (x + 3) (.inr (6, [.null, .null, .null, .int 0, .int 0])))
    (e6 : ∀ q, h6 q = if q = x + 3 then some (.inr (6, [.ref (x + 4), .ref (x + 4 + 1), .ref (x + 4 + 2), .int 0, .int 0])) else if x + 4 ≤ q ∧ q < x + 4 + 3 then some (ar_0 ct 8) else h5 q) : fh_up h6 x (.inr (4, [.ref (x + 1), .ref (x + 3)])) = ty_1 ct x h := by
  funext q
  simp only [fh_up, ty_1, e6, e5, e4]
  by_cases h1 : q = x
  · simp [h1]
  · by_cases h2 : q = x + 1
    · subst h2; simp
    · by_cases h3 : q = x + 2
      · subst h3; simp
      · by_cases h4 : q = x + 3
        · subst h4; simp
        · by_cases h5 : x + 4 ≤ q ∧ q < x + 7
          · rw [if_neg h1, if_neg h4, if_pos h5, if_neg h1, if_neg h2, if_neg h3, if_neg h4, if_pos h5]
          · rw [if_neg h1, if_neg h4, if_neg h5, if_neg h4, if_neg h1, if_neg h2, if_neg h3, if_neg h2, if_neg h1, if_neg h2, if_neg h3, if_neg h4, if_neg h5]
set_option maxHeartbeats 4000000 in
set_option maxRecDepth 100000 in
/-- Typesetter(): a Sheet, a Grid -/
theorem m_Ty_init (l : Launch) (D : va_G) (ct : Nat → ClassId) (b : Nat) (RO : State → Prop) (hR : fh_R b RO) (r n x : Nat) (h : fh_H) (hr : 2 ≤ r) (hx0 : h x = some (.inr (4, [.null, .null]))) (hn : n = x + 1) : fh_C l D fh_cl (fh_tys ct) b RO y_Ty_init (Cond.code y_Ty_init c_Ty_init 1 (Option.none : Option FieldType) :: fh_T) (fh_rm r 6 751) [.ref x] h n (fun v h' n' => v = none ∧ h' = ty_1 ct x h ∧ n' = x + 7) 6 751 := by
  refine fh_enter (by decide) (Nat.le_of_ble_eq_true rfl) [(0, .ref x)] rfl ?_
  intro p e s m args below meth c H ls X hP hS hl
  have hx := X.1
  have hb := X.2.1
  have hml := X.2.2.1
  have hown : s.vm.findClass "FormulaSetter$Typesetter" = some m.cls := X.2.2.2.1
  have hT := X.2.2.2.2.1
  have hK := X.2.2.2.2.2.1
  have hRO := X.2.2.2.2.2.2.1
  have hnm : meth.name = "<init>" := X.2.2.2.2.2.2.2.2.2.2
  subst hn
  refine lv_aload_n hx hb (fh_d d_Ty_init 0 rfl) rfl (lv_at hl 0 rfl) ?_
  refine W.objInit hx hb hown (hT _ w207) (hT _ w33) (hT _ w34) rfl (by rw [hml]; exact hl.1) rfl (fh_d d_Ty_init 1 rfl) (by show 1 ≤ r; omega) (by show _ ≤ 60 * r; simp; omega) ?_
  refine W.eq (g2 := F0 m 4 ls []) rfl ?_
  refine lv_aload_n hx hb (fh_d d_Ty_init 2 rfl) rfl (lv_at hl 0 rfl) ?_
  refine fh_new (own := "FormulaSetter$Typesetter") (C := "FormulaSetter$Sheet") (T := T_Sh) (N := 2) (ci := 5) (fs := [.null, .int 0]) hx hb hT i_Sh t_Sh k_Sh hown (hT _ w208) (hT _ w209) (hT _ w7) hK hP hS rfl (by decide +kernel) (by show 0 + 1 ≤ 6; omega) (by show 0 + 2 ≤ 751; omega) (fh_d d_Ty_init 3 rfl) (fun H hP hS => ?_)
  obtain ⟨h1, eh1⟩ : ∃ z : fh_H, z = fh_up h (x + 1) (.inr (5, [.null, .int 0])) := ⟨_, rfl⟩
  replace hP : fh_P D fh_cl b h1 (x + 2) H := by rw [eh1]; exact hP
  have k2 : h1 x = some (.inr (4, [.null, .null])) := by rw [eh1, fh_up_ne (by omega)]; exact hx0
  have k3 : h1 (x + 1) = some (.inr (5, [.null, .int 0])) := by rw [eh1]; exact fh_up_same
  refine lv_dup hx hb (fh_d d_Ty_init 4 rfl) rfl ?_
  refine fh_callI (cc' := c_Sh_init) (nL' := 1) (rest := [.ref (x + 1), .ref x]) (a := x + 1) (As := []) X hR (m_Sh_init l D ct b RO (r - 1) _ (x + 1) _ (by omega) k3 (by omega)) w212 w210 w211 w7 rfl ⟨by decide, by decide, by decide +kernel⟩ (by omega) (by decide) hP hS hl.1 rfl (by exact Nat.le_of_ble_eq_true rfl) (fh_d d_Ty_init 5 rfl) ⟨by show _ + 1 ≤ 6; omega, by show _ + 720 ≤ 751; omega⟩ (fun v9 h9 n9 H locs hq hP hS => ?_)
  obtain ⟨rfl, q2, q3⟩ := hq
  rw [q3] at hP
  have ka : h9 x = some (.inr (4, [.null, .null])) := by rw [q2, fh_up_ne (by omega), fh_up_ne (by omega)]; exact k2
  have kb : h9 (x + 1) = some (.inr (5, [.ref (x + 2), .int 0])) := by rw [q2]; exact fh_up_same
  refine fh_putF (own := "FormulaSetter$Typesetter") (ref := "FormulaSetter$Typesetter") (C := "FormulaSetter$Typesetter") (T := T_Ty) (N := 2) (v := .ref (x + 1)) (ty := (.object "FormulaSetter$Sheet")) hx hb hT i_Ty t_Ty k_Ty n_Ty hown hK hP hS ka rfl 0 (by decide) (hT _ w247) (fun _ h9 => h9) rfl hnm rfl (by decide +kernel) rfl rfl (by simp) (fh_d d_Ty_init 6 rfl) (fun H locs hP hS => ?_)
  obtain ⟨h4, eh4⟩ : ∃ z : fh_H, z = fh_up h9 x (.inr (4, [.ref (x + 1), .null])) := ⟨_, rfl⟩
  replace hP : fh_P D fh_cl b h4 (x + 3) H := by rw [eh4]; exact hP
  have k5 : h4 (x + 1) = some (.inr (5, [.ref (x + 2), .int 0])) := by rw [eh4, fh_up_ne (by omega)]; exact kb
  have k6 : h4 x = some (.inr (4, [.ref (x + 1), .null])) := by rw [eh4]; exact fh_up_same
  refine lv_aload_n hx hb (fh_d d_Ty_init 7 rfl) rfl (lv_at hl 0 rfl) ?_
  refine fh_new (own := "FormulaSetter$Typesetter") (C := "FormulaSetter$Grid") (T := T_Gr) (N := 5) (ci := 6) (fs := [.null, .null, .null, .int 0, .int 0]) hx hb hT i_Gr t_Gr k_Gr hown (hT _ w225) (hT _ w226) (hT _ w8) hK hP hS rfl (by decide +kernel) (by show 2 + 1 ≤ 6; omega) (by show 722 + 5 ≤ 751; omega) (fh_d d_Ty_init 8 rfl) (fun H hP hS => ?_)
  obtain ⟨h7, eh7⟩ : ∃ z : fh_H, z = fh_up h4 (x + 3) (.inr (6, [.null, .null, .null, .int 0, .int 0])) := ⟨_, rfl⟩
  replace hP : fh_P D fh_cl b h7 (x + 4) H := by rw [eh7]; exact hP
  have k8 : h7 (x + 1) = some (.inr (5, [.ref (x + 2), .int 0])) := by rw [eh7, fh_up_ne (by omega)]; exact k5
  have k9 : h7 x = some (.inr (4, [.ref (x + 1), .null])) := by rw [eh7, fh_up_ne (by omega)]; exact k6
  have k10 : h7 (x + 3) = some (.inr (6, [.null, .null, .null, .int 0, .int 0])) := by rw [eh7]; exact fh_up_same
  refine lv_dup hx hb (fh_d d_Ty_init 9 rfl) rfl ?_
  refine fh_callI (cc' := c_Gr_init) (nL' := 1) (rest := [.ref (x + 3), .ref x]) (a := x + 3) (As := []) X hR (m_Gr_init l D ct b RO (r - 1) _ (x + 3) _ (by omega) k10 (by omega)) w229 w227 w228 w8 rfl ⟨by decide, by decide, by decide +kernel⟩ (by omega) (by decide) hP hS hl.1 rfl (by exact Nat.le_of_ble_eq_true rfl) (fh_d d_Ty_init 10 rfl) ⟨by show _ + 3 ≤ 6; omega, by show _ + 24 ≤ 751; omega⟩ (fun v9 h9 n9 H locs hq hP hS => ?_)
  obtain ⟨rfl, q5, q6⟩ := hq
  rw [q6] at hP
  rename_i h8 n8 _ _ _ _
  have kc : h9 x = some (.inr (4, [.ref (x + 1), .null])) := by rw [q5, if_neg (by omega), if_neg (by omega)]; exact k9
  have kd : h9 (x + 3) = some (.inr (6, [.ref (x + 4), .ref (x + 5), .ref (x + 6), .int 0, .int 0])) := by rw [q5, if_pos rfl]
  refine fh_putF (own := "FormulaSetter$Typesetter") (ref := "FormulaSetter$Typesetter") (C := "FormulaSetter$Typesetter") (T := T_Ty) (N := 2) (v := .ref (x + 3)) (ty := (.object "FormulaSetter$Grid")) hx hb hT i_Ty t_Ty k_Ty n_Ty hown hK hP hS kc rfl 1 (by decide) (hT _ w249) (fun _ h9 => h9) rfl hnm rfl (by decide +kernel) rfl rfl (by simp) (fh_d d_Ty_init 11 rfl) (fun H locs hP hS => ?_)
  obtain ⟨h11, eh11⟩ : ∃ z : fh_H, z = fh_up h9 x (.inr (4, [.ref (x + 1), .ref (x + 3)])) := ⟨_, rfl⟩
  replace hP : fh_P D fh_cl b h11 (x + 7) H := by rw [eh11]; exact hP
  have k12 : h11 (x + 3) = some (.inr (6, [.ref (x + 4), .ref (x + 5), .ref (x + 6), .int 0, .int 0])) := by rw [eh11, fh_up_ne (by omega)]; exact kd
  have k13 : h11 x = some (.inr (4, [.ref (x + 1), .ref (x + 3)])) := by rw [eh11]; exact fh_up_same
  refine fh_vret X hP hS (fh_d d_Ty_init 12 rfl) ⟨rfl, ?_, rfl⟩
  rw [eh11]
  exact ty_1_at ct x h h4 h7 h9 (by rw [eh4, q2, eh1]) (by rw [eh7]) q5

theorem rd_1_in (ct : Nat → ClassId) (x q : Nat) (h h' : fh_H) (h1 : x ≤ q) (h2 : q < x + 62) : rd_1 ct x 60 h q = rd_1 ct x 60 h' q := by
  unfold rd_1
  by_cases e1 : q = x
  · rw [if_pos e1, if_pos e1]
  · by_cases e2 : q = x + 1
    · rw [if_neg e1, if_pos e2, if_neg e1, if_pos e2]
    · rw [if_neg e1, if_neg e2, if_pos (by omega), if_neg e1, if_neg e2, if_pos (by omega)]
theorem rd_2_in (ct : Nat → ClassId) (x q : Nat) (h h' : fh_H) (h1 : x ≤ q) (h2 : q < x + 224) : rd_2 ct x 161 h q = rd_2 ct x 161 h' q := by
  unfold rd_2
  by_cases e1 : q = x
  · rw [if_pos e1, if_pos e1]
  · by_cases e2 : q = x + 62
    · rw [if_neg e1, if_pos e2, if_neg e1, if_pos e2]
    · by_cases e3 : x + 63 ≤ q ∧ q < x + 63 + 161
      · rw [if_neg e1, if_neg e2, if_pos e3, if_neg e1, if_neg e2, if_pos e3]
      · rw [if_neg e1, if_neg e2, if_neg e3, if_neg e1, if_neg e2, if_neg e3]
        exact rd_1_in ct x q h h' h1 (by omega)
theorem rd_2_out (ct : Nat → ClassId) (x q : Nat) (h : fh_H) (h1 : q < x ∨ x + 224 ≤ q) : rd_2 ct x 161 h q = h q := by
  unfold rd_2 rd_1
  rw [if_neg (by omega), if_neg (by omega), if_neg (by omega), if_neg (by omega), if_neg (by omega), if_neg (by omega)]
theorem ty_1_in (ct : Nat → ClassId) (x q : Nat) (h h' : fh_H) (h1 : x ≤ q) (h2 : q < x + 7) : ty_1 ct x h q = ty_1 ct x h' q := by
  unfold ty_1
  by_cases e1 : q = x
  · rw [if_pos e1, if_pos e1]
  · by_cases e2 : q = x + 1
    · rw [if_neg e1, if_pos e2, if_neg e1, if_pos e2]
    · by_cases e3 : q = x + 2
      · rw [if_neg e1, if_neg e2, if_pos e3, if_neg e1, if_neg e2, if_pos e3]
      · by_cases e4 : q = x + 3
        · rw [if_neg e1, if_neg e2, if_neg e3, if_pos e4, if_neg e1, if_neg e2, if_neg e3, if_pos e4]
        · rw [if_neg e1, if_neg e2, if_neg e3, if_neg e4, if_pos (by omega), if_neg e1, if_neg e2, if_neg e3, if_neg e4, if_pos (by omega)]
theorem ty_1_out (ct : Nat → ClassId) (x q : Nat) (h : fh_H) (h1 : q < x ∨ x + 7 ≤ q) : ty_1 ct x h q = h q := by
  unfold ty_1
  rw [if_neg (by omega), if_neg (by omega), if_neg (by omega), if_neg (by omega), if_neg (by omega)]
abbrev fs_o (x : Nat) (len w hh d : Int32) : va_E := .inr (0, [.ref (x + 1), .ref (x + 2), .ref (x + 226), .int len, .int w, .int hh, .int d])
/-- a FormulaSetter at x, made -/
def fs_1 (ct : Nat → ClassId) (x : Nat) (h : fh_H) : fh_H := fun q => if q = x then some (fs_o x 0 0 0 0) else if q = x + 1 then some (.inl (ct 1, 160, .inl fun _ => (0 : Int32))) else if x + 2 ≤ q ∧ q < x + 226 then rd_2 ct (x + 2) 161 (fun _ => none) q else if x + 226 ≤ q ∧ q < x + 233 then ty_1 ct (x + 226) (fun _ => none) q else h q
theorem fs_1_at (ct : Nat → ClassId) (x : Nat) (h h3 h6 : fh_H) (c e1 e2 e3 e4 : va_E) (he : c = .inl (ct 1, 160, .inl fun _ => (0 : Int32))) (h3e : h3 = fh_up (fh_up (fh_up h (x + 1) c) x e1) (x + 2) e2) (h6e : h6 = fh_up (fh_up (rd_2 ct (x + 2) 161 h3) x e3) (x + 226) e4) : fh_up (ty_1 ct (x + 226) h6) x (fs_o x 0 0 0 0) = fs_1 ct x h := by
  funext q
  unfold fs_1
  by_cases q1 : q = x
  · rw [if_pos q1, q1, fh_up_same]
  · rw [fh_up_ne q1, if_neg q1]
    by_cases q5 : x + 226 ≤ q ∧ q < x + 233
    · rw [if_neg (by omega), if_neg (by omega), if_pos q5]
      exact ty_1_in ct (x + 226) q _ _ q5.1 (by omega)
    · rw [ty_1_out ct (x + 226) q h6 (by omega), h6e, fh_up_ne (by omega), fh_up_ne q1]
      by_cases q3 : x + 2 ≤ q ∧ q < x + 226
      · rw [if_neg (by omega), if_pos q3]
        exact rd_2_in ct (x + 2) q _ _ q3.1 (by omega)
      · rw [rd_2_out ct (x + 2) q h3 (by omega), h3e, fh_up_ne (by omega), fh_up_ne q1, if_neg q3, if_neg q5]
        by_cases q2 : q = x + 1
        · rw [if_pos q2, q2, fh_up_same, he]
        · rw [if_neg q2, fh_up_ne q2]
set_option maxHeartbeats 4000000 in
set_option maxRecDepth 100000 in
/-- FormulaSetter() -/
theorem m_FS_init (l : Launch) (D : va_G) (ct : Nat → ClassId) (b : Nat) (RO : State → Prop) (hR : fh_R b RO) (hN : ∀ U, RO U → fh_N U) (r n x : Nat) (h : fh_H) (hr : 4 ≤ r) (hx0 : h x = some (.inr (0, [.null, .null, .null, .int 0, .int 0, .int 0, .int 0]))) (hn : n = x + 1) : fh_C l D fh_cl (fh_tys ct) b RO y_FS_init (Cond.code y_FS_init c_FS_init 1 (Option.none : Option FieldType) :: fh_T) (fh_rm r 232 3490) [.ref x] h n (fun v h' n' => v = none ∧ h' = fs_1 ct x h ∧ n' = x + 233) 232 3490 := by
  refine fh_enter (by decide) (Nat.le_of_ble_eq_true rfl) [(0, .ref x)] rfl ?_
  intro p e s m args below meth c H ls X hP hS hl
  have hx := X.1
  have hb := X.2.1
  have hml := X.2.2.1
  have hown : s.vm.findClass "FormulaSetter" = some m.cls := X.2.2.2.1
  have hT := X.2.2.2.2.1
  have hK := X.2.2.2.2.2.1
  have hRO := X.2.2.2.2.2.2.1
  have hnm : meth.name = "<init>" := X.2.2.2.2.2.2.2.2.2.2
  subst hn
  refine lv_aload_n hx hb (fh_d d_FS_init 0 rfl) rfl (lv_at hl 0 rfl) ?_
  refine W.objInit hx hb hown (hT _ w32) (hT _ w33) (hT _ w34) rfl (by rw [hml]; exact hl.1) rfl (fh_d d_FS_init 1 rfl) (by show 1 ≤ r; omega) (by show _ ≤ 60 * r; simp; omega) ?_
  refine W.eq (g2 := F0 m 4 ls []) rfl ?_
  refine lv_aload_n hx hb (fh_d d_FS_init 2 rfl) rfl (lv_at hl 0 rfl) ?_
  refine lv_sipush (v := 160) hx hb (fh_d d_FS_init 3 rfl) (by decide) ?_
  refine fh_newa (atype := .char) (ty := .char) (N' := 160) (a0 := (160, .inl (fun _ => (0 : Int32)))) hx hb (hT _ w145) rfl hK 1 rfl hP hS (fun _ => rfl) (by decide) (by decide) (by decide) (by show 0 + 1 ≤ 232; omega) (by show 0 + 160 ≤ 3490; omega) (fh_d d_FS_init 4 rfl) (fun H hP hS => ?_)
  obtain ⟨h1, eh1⟩ : ∃ z : fh_H, z = fh_up h (x + 1) (.inl (ct 1, 160, .inl (fun _ => (0 : Int32)))) := ⟨_, rfl⟩
  replace hP : fh_P D fh_cl b h1 (x + 2) H := by rw [eh1]; exact hP
  have k2 : h1 x = some (.inr (0, [.null, .null, .null, .int 0, .int 0, .int 0, .int 0])) := by rw [eh1, fh_up_ne (by omega)]; exact hx0
  have k3 : h1 (x + 1) = some (.inl (ct 1, 160, .inl (fun _ => (0 : Int32)))) := by rw [eh1]; exact fh_up_same
  refine fh_putF (own := "FormulaSetter") (ref := "FormulaSetter") (C := "FormulaSetter") (T := T_FS) (N := 7) (v := .ref (x + 1)) (ty := (.array .char)) hx hb hT i_FS t_FS k_FS n_FS hown hK hP hS k2 rfl 0 (by decide) (hT _ w255) (fun _ h9 => h9) rfl hnm rfl (by decide +kernel) rfl rfl (by simp) (fh_d d_FS_init 5 rfl) (fun H locs hP hS => ?_)
  obtain ⟨h4, eh4⟩ : ∃ z : fh_H, z = fh_up h1 x (.inr (0, [.ref (x + 1), .null, .null, .int 0, .int 0, .int 0, .int 0])) := ⟨_, rfl⟩
  replace hP : fh_P D fh_cl b h4 (x + 2) H := by rw [eh4]; exact hP
  have k5 : h4 (x + 1) = some (.inl (ct 1, 160, .inl (fun _ => (0 : Int32)))) := by rw [eh4, fh_up_ne (by omega)]; exact k3
  have k6 : h4 x = some (.inr (0, [.ref (x + 1), .null, .null, .int 0, .int 0, .int 0, .int 0])) := by rw [eh4]; exact fh_up_same
  refine lv_aload_n hx hb (fh_d d_FS_init 6 rfl) rfl (lv_at hl 0 rfl) ?_
  refine fh_new (own := "FormulaSetter") (C := "FormulaSetter$Reader") (T := T_Rd) (N := 7) (ci := 1) (fs := [.null, .null, .int 0, .int 0, .null, .int 0, .int 0]) hx hb hT i_Rd t_Rd k_Rd hown (hT _ w35) (hT _ w36) (hT _ w2) hK hP hS rfl (by decide +kernel) (by show 1 + 1 ≤ 232; omega) (by show 160 + 7 ≤ 3490; omega) (fh_d d_FS_init 7 rfl) (fun H hP hS => ?_)
  obtain ⟨h7, eh7⟩ : ∃ z : fh_H, z = fh_up h4 (x + 2) (.inr (1, [.null, .null, .int 0, .int 0, .null, .int 0, .int 0])) := ⟨_, rfl⟩
  replace hP : fh_P D fh_cl b h7 (x + 3) H := by rw [eh7]; exact hP
  have k8 : h7 (x + 1) = some (.inl (ct 1, 160, .inl (fun _ => (0 : Int32)))) := by rw [eh7, fh_up_ne (by omega)]; exact k5
  have k9 : h7 x = some (.inr (0, [.ref (x + 1), .null, .null, .int 0, .int 0, .int 0, .int 0])) := by rw [eh7, fh_up_ne (by omega)]; exact k6
  have k10 : h7 (x + 2) = some (.inr (1, [.null, .null, .int 0, .int 0, .null, .int 0, .int 0])) := by rw [eh7]; exact fh_up_same
  refine lv_dup hx hb (fh_d d_FS_init 8 rfl) rfl ?_
  refine fh_callI (cc' := c_Rd_init) (nL' := 2) (rest := [.ref (x + 2), .ref x]) (a := x + 2) (As := []) X hR (m_Rd_init l D ct b RO hR hN (r - 1) _ (x + 2) _ (by omega) k10 (by omega)) w39 w37 w38 w2 rfl ⟨by decide, by decide, by decide +kernel⟩ (by omega) (by decide) hP hS hl.1 rfl (by exact Nat.le_of_ble_eq_true rfl) (fh_d d_FS_init 9 rfl) ⟨by show _ + 223 ≤ 232; omega, by show _ + 2570 ≤ 3490; omega⟩ (fun v9 h9 n9 H locs hq hP hS => ?_)
  obtain ⟨rfl, q2, q3⟩ := hq
  rw [q3] at hP
  have ka : h9 x = some (.inr (0, [.ref (x + 1), .null, .null, .int 0, .int 0, .int 0, .int 0])) := by rw [q2, rd_2_out ct (x + 2) x _ (by omega)]; exact k9
  refine fh_putF (own := "FormulaSetter") (ref := "FormulaSetter") (C := "FormulaSetter") (T := T_FS) (N := 7) (v := .ref (x + 2)) (ty := (.object "FormulaSetter$Reader")) hx hb hT i_FS t_FS k_FS n_FS hown hK hP hS ka rfl 1 (by decide) (hT _ w256) (fun _ h9 => h9) rfl hnm rfl (by decide +kernel) rfl rfl (by simp) (fh_d d_FS_init 10 rfl) (fun H locs hP hS => ?_)
  obtain ⟨h11, eh11⟩ : ∃ z : fh_H, z = fh_up h9 x (.inr (0, [.ref (x + 1), .ref (x + 2), .null, .int 0, .int 0, .int 0, .int 0])) := ⟨_, rfl⟩
  replace hP : fh_P D fh_cl b h11 (x + 226) H := by rw [eh11]; exact hP
  have k12 : h11 x = some (.inr (0, [.ref (x + 1), .ref (x + 2), .null, .int 0, .int 0, .int 0, .int 0])) := by rw [eh11]; exact fh_up_same
  refine lv_aload_n hx hb (fh_d d_FS_init 11 rfl) rfl (lv_at hl 0 rfl) ?_
  refine fh_new (own := "FormulaSetter") (C := "FormulaSetter$Typesetter") (T := T_Ty) (N := 2) (ci := 4) (fs := [.null, .null]) hx hb hT i_Ty t_Ty k_Ty hown (hT _ w202) (hT _ w203) (hT _ w6) hK hP hS rfl (by decide +kernel) (by show 225 + 1 ≤ 232; omega) (by show 2737 + 2 ≤ 3490; omega) (fh_d d_FS_init 12 rfl) (fun H hP hS => ?_)
  obtain ⟨h13, eh13⟩ : ∃ z : fh_H, z = fh_up h11 (x + 226) (.inr (4, [.null, .null])) := ⟨_, rfl⟩
  replace hP : fh_P D fh_cl b h13 (x + 227) H := by rw [eh13]; exact hP
  have k14 : h13 x = some (.inr (0, [.ref (x + 1), .ref (x + 2), .null, .int 0, .int 0, .int 0, .int 0])) := by rw [eh13, fh_up_ne (by omega)]; exact k12
  have k15 : h13 (x + 226) = some (.inr (4, [.null, .null])) := by rw [eh13]; exact fh_up_same
  refine lv_dup hx hb (fh_d d_FS_init 13 rfl) rfl ?_
  refine fh_callI (cc' := c_Ty_init) (nL' := 1) (rest := [.ref (x + 226), .ref x]) (a := x + 226) (As := []) X hR (m_Ty_init l D ct b RO hR (r - 1) _ (x + 226) _ (by omega) k15 (by omega)) w206 w204 w205 w6 rfl ⟨by decide, by decide, by decide +kernel⟩ (by omega) (by decide) hP hS hl.1 rfl (by exact Nat.le_of_ble_eq_true rfl) (fh_d d_FS_init 14 rfl) ⟨by show _ + 6 ≤ 232; omega, by show _ + 751 ≤ 3490; omega⟩ (fun v9 h9 n9 H locs hq hP hS => ?_)
  obtain ⟨rfl, q5, q6⟩ := hq
  rw [q6] at hP
  have kb : h9 x = some (.inr (0, [.ref (x + 1), .ref (x + 2), .null, .int 0, .int 0, .int 0, .int 0])) := by rw [q5, ty_1_out ct (x + 226) x _ (by omega)]; exact k14
  refine fh_putF (own := "FormulaSetter") (ref := "FormulaSetter") (C := "FormulaSetter") (T := T_FS) (N := 7) (v := .ref (x + 226)) (ty := (.object "FormulaSetter$Typesetter")) hx hb hT i_FS t_FS k_FS n_FS hown hK hP hS kb rfl 2 (by decide) (hT _ w257) (fun _ h9 => h9) rfl hnm rfl (by decide +kernel) rfl rfl (by simp) (fh_d d_FS_init 15 rfl) (fun H locs hP hS => ?_)
  obtain ⟨h16, eh16⟩ : ∃ z : fh_H, z = fh_up h9 x (.inr (0, [.ref (x + 1), .ref (x + 2), .ref (x + 226), .int 0, .int 0, .int 0, .int 0])) := ⟨_, rfl⟩
  replace hP : fh_P D fh_cl b h16 (x + 233) H := by rw [eh16]; exact hP
  have k17 : h16 x = some (.inr (0, [.ref (x + 1), .ref (x + 2), .ref (x + 226), .int 0, .int 0, .int 0, .int 0])) := by rw [eh16]; exact fh_up_same
  refine fh_vret X hP hS (fh_d d_FS_init 16 rfl) ⟨rfl, ?_, rfl⟩
  rw [eh16, q5]
  exact fs_1_at ct x h h7 h13 _ _ _ _ _ rfl (by rw [eh7, eh4, eh1]) (by rw [eh13, eh11, q2])
