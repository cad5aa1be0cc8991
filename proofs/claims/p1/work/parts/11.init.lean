/-! Constructors of Box, Nucleus, Line, Sheet, Grid, Typesetter. Printed by wip/whole/gen/p11.py -/
abbrev fh_tys (ct : Nat → ClassId) : List (ClassId × FieldType) := [(ct 0, .int), (ct 1, .char), (ct 2, .long), (ct 3, .boolean), (ct 4, .object "FormulaSetter$Nucleus"), (ct 5, .object "FormulaSetter$Line")]
/-- words that the tables keep apart: arrays of our classes, links across the nest -/
def fh_N (U : State) : Prop := va_AO "FormulaSetter$Nucleus" U ∧ va_AO "FormulaSetter$Line" U ∧ va_Nw (.methodLinkNest "FormulaSetter$Reader" 17 ⟨"FormulaSetter$Nucleus", "<init>", "()V"⟩ "FormulaSetter") U ∧ va_Nw (.methodLinkNest "FormulaSetter$Reader" 24 ⟨"FormulaSetter$Line", "<init>", "()V"⟩ "FormulaSetter") U ∧ va_Nw (.methodLinkNest "FormulaSetter$Nucleus" 1 ⟨"FormulaSetter$Box", "<init>", "()V"⟩ "FormulaSetter") U ∧ va_Nw (.methodLinkNest "FormulaSetter$Line" 1 ⟨"FormulaSetter$Box", "<init>", "()V"⟩ "FormulaSetter") U
set_option maxHeartbeats 4000000 in
set_option maxRecDepth 100000 in
/-- Box(): nothing happens -/
theorem m_Bo_init (l : Launch) (D : va_G) (ct : Nat → ClassId) (b : Nat) (RO : State → Prop) (r n a : Nat) (h : fh_H) (hr : 1 ≤ r) : fh_C l D fh_cl (fh_tys ct) b RO y_Bo_init (Cond.code y_Bo_init c_Bo_init 1 (Option.none : Option FieldType) :: fh_T) (fh_rm r 0 0) [.ref a] h n (fun v h' n' => v = none ∧ h' = h ∧ n' = n) 0 0 := by
  refine fh_enter (by decide) (Nat.le_of_ble_eq_true rfl) [(0, .ref a)] rfl ?_
  intro p e s m args below meth c H ls X hP hS hl
  have hx := X.1
  have hb := X.2.1
  have hml := X.2.2.1
  have hown : s.vm.findClass "FormulaSetter$Box" = some m.cls := X.2.2.2.1
  have hT := X.2.2.2.2.1
  have hK := X.2.2.2.2.2.1
  have hRO := X.2.2.2.2.2.2.1
  have hnm : meth.name = "<init>" := X.2.2.2.2.2.2.2.2.2.2
  refine lv_aload_n hx hb (fh_d d_Bo_init 0 rfl) rfl (lv_at hl 0 rfl) ?_
  refine W.objInit hx hb hown (hT _ w50) (hT _ w33) (hT _ w34) rfl (by rw [hml]; exact hl.1) rfl (fh_d d_Bo_init 1 rfl) (by show 1 ≤ r; omega) (by show _ ≤ 60 * r; simp; omega) ?_
  refine W.eq (g2 := F0 m 4 ls []) rfl ?_
  exact fh_vret X hP hS (fh_d d_Bo_init 2 rfl) ⟨rfl, rfl, rfl⟩

set_option maxHeartbeats 4000000 in
set_option maxRecDepth 100000 in
/-- FormulaSetter$Nucleus(): nothing happens -/
theorem m_Nu_init (l : Launch) (D : va_G) (ct : Nat → ClassId) (b : Nat) (RO : State → Prop) (hR : fh_R b RO) (hN : ∀ U, RO U → fh_N U) (r n a : Nat) (h : fh_H) (hr : 2 ≤ r) : fh_C l D fh_cl (fh_tys ct) b RO y_Nu_init (Cond.code y_Nu_init c_Nu_init 1 (Option.none : Option FieldType) :: fh_T) (fh_rm r 0 0) [.ref a] h n (fun v h' n' => v = none ∧ h' = h ∧ n' = n) 0 0 := by
  refine fh_enter (by decide) (Nat.le_of_ble_eq_true rfl) [(0, .ref a)] rfl ?_
  intro p e s m args below meth c H ls X hP hS hl
  have hx := X.1
  have hb := X.2.1
  have hml := X.2.2.1
  have hown : s.vm.findClass "FormulaSetter$Nucleus" = some m.cls := X.2.2.2.1
  have hT := X.2.2.2.2.1
  have hK := X.2.2.2.2.2.1
  have hRO := X.2.2.2.2.2.2.1
  have hnm : meth.name = "<init>" := X.2.2.2.2.2.2.2.2.2.2
  refine lv_aload_n hx hb (fh_d d_Nu_init 0 rfl) rfl (lv_at hl 0 rfl) ?_
  refine fh_callIN (cc' := c_Bo_init) (nL' := 1) (rest := []) (a := a) (As := []) X hR (m_Bo_init l D ct b RO (r - 1) n a h (by omega)) w49 (hN _ hRO).2.2.2.2.1 w48 w3 rfl ⟨by decide, by decide, by decide +kernel⟩ (by omega) (by decide) hP hS hl.1 rfl (by decide) (fh_d d_Nu_init 1 rfl) ⟨by omega, by omega⟩ (fun v9 h9 n9 H locs hq hP hS => ?_)
  obtain ⟨rfl, q2, q3⟩ := hq
  rw [q2, q3] at hP
  exact fh_vret X hP hS (fh_d d_Nu_init 2 rfl) ⟨rfl, rfl, rfl⟩

set_option maxHeartbeats 4000000 in
set_option maxRecDepth 100000 in
/-- FormulaSetter$Line(): nothing happens -/
theorem m_Li_init (l : Launch) (D : va_G) (ct : Nat → ClassId) (b : Nat) (RO : State → Prop) (hR : fh_R b RO) (hN : ∀ U, RO U → fh_N U) (r n a : Nat) (h : fh_H) (hr : 2 ≤ r) : fh_C l D fh_cl (fh_tys ct) b RO y_Li_init (Cond.code y_Li_init c_Li_init 1 (Option.none : Option FieldType) :: fh_T) (fh_rm r 0 0) [.ref a] h n (fun v h' n' => v = none ∧ h' = h ∧ n' = n) 0 0 := by
  refine fh_enter (by decide) (Nat.le_of_ble_eq_true rfl) [(0, .ref a)] rfl ?_
  intro p e s m args below meth c H ls X hP hS hl
  have hx := X.1
  have hb := X.2.1
  have hml := X.2.2.1
  have hown : s.vm.findClass "FormulaSetter$Line" = some m.cls := X.2.2.2.1
  have hT := X.2.2.2.2.1
  have hK := X.2.2.2.2.2.1
  have hRO := X.2.2.2.2.2.2.1
  have hnm : meth.name = "<init>" := X.2.2.2.2.2.2.2.2.2.2
  refine lv_aload_n hx hb (fh_d d_Li_init 0 rfl) rfl (lv_at hl 0 rfl) ?_
  refine fh_callIN (cc' := c_Bo_init) (nL' := 1) (rest := []) (a := a) (As := []) X hR (m_Bo_init l D ct b RO (r - 1) n a h (by omega)) w49 (hN _ hRO).2.2.2.2.2 w48 w3 rfl ⟨by decide, by decide, by decide +kernel⟩ (by omega) (by decide) hP hS hl.1 rfl (by decide) (fh_d d_Li_init 1 rfl) ⟨by omega, by omega⟩ (fun v9 h9 n9 H locs hq hP hS => ?_)
  obtain ⟨rfl, q2, q3⟩ := hq
  rw [q2, q3] at hP
  exact fh_vret X hP hS (fh_d d_Li_init 2 rfl) ⟨rfl, rfl, rfl⟩

set_option maxHeartbeats 4000000 in
set_option maxRecDepth 100000 in
/-- Sheet(): a row of 720 ints -/
theorem m_Sh_init (l : Launch) (D : va_G) (ct : Nat → ClassId) (b : Nat) (RO : State → Prop) (r n a : Nat) (h : fh_H) (hr : 1 ≤ r) (ha : h a = some (.inr (5, [.null, .int 0]))) (han : a < n) : fh_C l D fh_cl (fh_tys ct) b RO y_Sh_init (Cond.code y_Sh_init c_Sh_init 1 (Option.none : Option FieldType) :: fh_T) (fh_rm r 1 720) [.ref a] h n (fun v h' n' => v = none ∧ h' = fh_up (fh_up h n (.inl (ct 0, 720, .inl fun _ => (0 : Int32)))) a (.inr (5, [.ref n, .int 0])) ∧ n' = n + 1) 1 720 := by
  refine fh_enter (by decide) (Nat.le_of_ble_eq_true rfl) [(0, .ref a)] rfl ?_
  intro p e s m args below meth c H ls X hP hS hl
  have hx := X.1
  have hb := X.2.1
  have hml := X.2.2.1
  have hown : s.vm.findClass "FormulaSetter$Sheet" = some m.cls := X.2.2.2.1
  have hT := X.2.2.2.2.1
  have hK := X.2.2.2.2.2.1
  have hRO := X.2.2.2.2.2.2.1
  have hnm : meth.name = "<init>" := X.2.2.2.2.2.2.2.2.2.2
  refine lv_aload_n hx hb (fh_d d_Sh_init 0 rfl) rfl (lv_at hl 0 rfl) ?_
  refine W.objInit hx hb hown (hT _ w213) (hT _ w33) (hT _ w34) rfl (by rw [hml]; exact hl.1) rfl (fh_d d_Sh_init 1 rfl) (by show 1 ≤ r; omega) (by show _ ≤ 60 * r; simp; omega) ?_
  refine W.eq (g2 := F0 m 4 ls []) rfl ?_
  refine lv_aload_n hx hb (fh_d d_Sh_init 2 rfl) rfl (lv_at hl 0 rfl) ?_
  refine lv_sipush (v := 720) hx hb (fh_d d_Sh_init 3 rfl) (by decide) ?_
  refine fh_newa (atype := .int) (ty := .int) (N' := 720) (a0 := (720, .inl (fun _ => (0 : Int32)))) hx hb (hT _ w224) rfl hK 0 rfl hP hS (fun _ => rfl) (by decide) (by decide) (by decide) (by show 0 + 1 ≤ 1; omega) (by show 0 + 720 ≤ 720; omega) (fh_d d_Sh_init 4 rfl) (fun H hP hS => ?_)
  obtain ⟨h1, eh1⟩ : ∃ z : fh_H, z = fh_up h n (.inl (ct 0, 720, .inl (fun _ => (0 : Int32)))) := ⟨_, rfl⟩
  replace hP : fh_P D fh_cl b h1 (n + 1) H := by rw [eh1]; exact hP
  have k2 : h1 a = some (.inr (5, [.null, .int 0])) := by rw [eh1, fh_up_ne (by omega)]; exact ha
  have k3 : h1 n = some (.inl (ct 0, 720, .inl (fun _ => (0 : Int32)))) := by rw [eh1]; exact fh_up_same
  refine fh_putF (own := "FormulaSetter$Sheet") (ref := "FormulaSetter$Sheet") (C := "FormulaSetter$Sheet") (T := T_Sh) (N := 2) (v := .ref n) (ty := (.array .int)) hx hb hT i_Sh t_Sh k_Sh n_Sh hown hK hP hS k2 rfl 0 (by decide) (hT _ w214) (fun _ h9 => h9) rfl hnm rfl (by decide +kernel) rfl rfl (by simp) (fh_d d_Sh_init 5 rfl) (fun H locs hP hS => ?_)
  obtain ⟨h4, eh4⟩ : ∃ z : fh_H, z = fh_up h1 a (.inr (5, [.ref n, .int 0])) := ⟨_, rfl⟩
  replace hP : fh_P D fh_cl b h4 (n + 1) H := by rw [eh4]; exact hP
  have k5 : h4 n = some (.inl (ct 0, 720, .inl (fun _ => (0 : Int32)))) := by rw [eh4, fh_up_ne (by omega)]; exact k3
  have k6 : h4 a = some (.inr (5, [.ref n, .int 0])) := by rw [eh4]; exact fh_up_same
  exact fh_vret X hP hS (fh_d d_Sh_init 6 rfl) ⟨rfl, by rw [eh4, eh1], rfl⟩

set_option maxHeartbeats 4000000 in
set_option maxRecDepth 100000 in
/-- Grid(): three rows of 8 ints -/
theorem m_Gr_init (l : Launch) (D : va_G) (ct : Nat → ClassId) (b : Nat) (RO : State → Prop) (r n a : Nat) (h : fh_H) (hr : 1 ≤ r) (ha : h a = some (.inr (6, [.null, .null, .null, .int 0, .int 0]))) (han : a < n) : fh_C l D fh_cl (fh_tys ct) b RO y_Gr_init (Cond.code y_Gr_init c_Gr_init 1 (Option.none : Option FieldType) :: fh_T) (fh_rm r 3 24) [.ref a] h n (fun v h' n' => v = none ∧ (∀ q, h' q = if q = a then some (.inr (6, [.ref n, .ref (n + 1), .ref (n + 2), .int 0, .int 0])) else if n ≤ q ∧ q < n + 3 then some (.inl (ct 0, 8, .inl fun _ => (0 : Int32))) else h q) ∧ n' = n + 3) 3 24 := by
  refine fh_enter (by decide) (Nat.le_of_ble_eq_true rfl) [(0, .ref a)] rfl ?_
  intro p e s m args below meth c H ls X hP hS hl
  have hx := X.1
  have hb := X.2.1
  have hml := X.2.2.1
  have hown : s.vm.findClass "FormulaSetter$Grid" = some m.cls := X.2.2.2.1
  have hT := X.2.2.2.2.1
  have hK := X.2.2.2.2.2.1
  have hRO := X.2.2.2.2.2.2.1
  have hnm : meth.name = "<init>" := X.2.2.2.2.2.2.2.2.2.2
  refine lv_aload_n hx hb (fh_d d_Gr_init 0 rfl) rfl (lv_at hl 0 rfl) ?_
  refine W.objInit hx hb hown (hT _ w230) (hT _ w33) (hT _ w34) rfl (by rw [hml]; exact hl.1) rfl (fh_d d_Gr_init 1 rfl) (by show 1 ≤ r; omega) (by show _ ≤ 60 * r; simp; omega) ?_
  refine W.eq (g2 := F0 m 4 ls []) rfl ?_
  refine lv_aload_n hx hb (fh_d d_Gr_init 2 rfl) rfl (lv_at hl 0 rfl) ?_
  refine lv_bipush (v := 8) hx hb (fh_d d_Gr_init 3 rfl) (by decide) ?_
  refine fh_newa (atype := .int) (ty := .int) (N' := 8) (a0 := (8, .inl (fun _ => (0 : Int32)))) hx hb (hT _ w224) rfl hK 0 rfl hP hS (fun _ => rfl) (by decide) (by decide) (by decide) (by show 0 + 1 ≤ 3; omega) (by show 0 + 8 ≤ 24; omega) (fh_d d_Gr_init 4 rfl) (fun H hP hS => ?_)
  obtain ⟨h1, eh1⟩ : ∃ z : fh_H, z = fh_up h n (.inl (ct 0, 8, .inl (fun _ => (0 : Int32)))) := ⟨_, rfl⟩
  replace hP : fh_P D fh_cl b h1 (n + 1) H := by rw [eh1]; exact hP
  have k2 : h1 a = some (.inr (6, [.null, .null, .null, .int 0, .int 0])) := by rw [eh1, fh_up_ne (by omega)]; exact ha
  have k3 : h1 n = some (.inl (ct 0, 8, .inl (fun _ => (0 : Int32)))) := by rw [eh1]; exact fh_up_same
  refine fh_putF (own := "FormulaSetter$Grid") (ref := "FormulaSetter$Grid") (C := "FormulaSetter$Grid") (T := T_Gr) (N := 5) (v := .ref n) (ty := (.array .int)) hx hb hT i_Gr t_Gr k_Gr n_Gr hown hK hP hS k2 rfl 0 (by decide) (hT _ w231) (fun _ h9 => h9) rfl hnm rfl (by decide +kernel) rfl rfl (by simp) (fh_d d_Gr_init 5 rfl) (fun H locs hP hS => ?_)
  obtain ⟨h4, eh4⟩ : ∃ z : fh_H, z = fh_up h1 a (.inr (6, [.ref n, .null, .null, .int 0, .int 0])) := ⟨_, rfl⟩
  replace hP : fh_P D fh_cl b h4 (n + 1) H := by rw [eh4]; exact hP
  have k5 : h4 n = some (.inl (ct 0, 8, .inl (fun _ => (0 : Int32)))) := by rw [eh4, fh_up_ne (by omega)]; exact k3
  have k6 : h4 a = some (.inr (6, [.ref n, .null, .null, .int 0, .int 0])) := by rw [eh4]; exact fh_up_same
  refine lv_aload_n hx hb (fh_d d_Gr_init 6 rfl) rfl (lv_at hl 0 rfl) ?_
  refine lv_bipush (v := 8) hx hb (fh_d d_Gr_init 7 rfl) (by decide) ?_
  refine fh_newa (atype := .int) (ty := .int) (N' := 8) (a0 := (8, .inl (fun _ => (0 : Int32)))) hx hb (hT _ w224) rfl hK 0 rfl hP hS (fun _ => rfl) (by decide) (by decide) (by decide) (by show 1 + 1 ≤ 3; omega) (by show 8 + 8 ≤ 24; omega) (fh_d d_Gr_init 8 rfl) (fun H hP hS => ?_)
  obtain ⟨h7, eh7⟩ : ∃ z : fh_H, z = fh_up h4 (n + 1) (.inl (ct 0, 8, .inl (fun _ => (0 : Int32)))) := ⟨_, rfl⟩
  replace hP : fh_P D fh_cl b h7 (n + 2) H := by rw [eh7]; exact hP
  have k8 : h7 n = some (.inl (ct 0, 8, .inl (fun _ => (0 : Int32)))) := by rw [eh7, fh_up_ne (by omega)]; exact k5
  have k9 : h7 a = some (.inr (6, [.ref n, .null, .null, .int 0, .int 0])) := by rw [eh7, fh_up_ne (by omega)]; exact k6
  have k10 : h7 (n + 1) = some (.inl (ct 0, 8, .inl (fun _ => (0 : Int32)))) := by rw [eh7]; exact fh_up_same
  refine fh_putF (own := "FormulaSetter$Grid") (ref := "FormulaSetter$Grid") (C := "FormulaSetter$Grid") (T := T_Gr) (N := 5) (v := .ref (n + 1)) (ty := (.array .int)) hx hb hT i_Gr t_Gr k_Gr n_Gr hown hK hP hS k9 rfl 1 (by decide) (hT _ w232) (fun _ h9 => h9) rfl hnm rfl (by decide +kernel) rfl rfl (by simp) (fh_d d_Gr_init 9 rfl) (fun H locs hP hS => ?_)
  obtain ⟨h11, eh11⟩ : ∃ z : fh_H, z = fh_up h7 a (.inr (6, [.ref n, .ref (n + 1), .null, .int 0, .int 0])) := ⟨_, rfl⟩
  replace hP : fh_P D fh_cl b h11 (n + 2) H := by rw [eh11]; exact hP
  have k12 : h11 n = some (.inl (ct 0, 8, .inl (fun _ => (0 : Int32)))) := by rw [eh11, fh_up_ne (by omega)]; exact k8
  have k13 : h11 (n + 1) = some (.inl (ct 0, 8, .inl (fun _ => (0 : Int32)))) := by rw [eh11, fh_up_ne (by omega)]; exact k10
  have k14 : h11 a = some (.inr (6, [.ref n, .ref (n + 1), .null, .int 0, .int 0])) := by rw [eh11]; exact fh_up_same
  refine lv_aload_n hx hb (fh_d d_Gr_init 10 rfl) rfl (lv_at hl 0 rfl) ?_
  refine lv_bipush (v := 8) hx hb (fh_d d_Gr_init 11 rfl) (by decide) ?_
  refine fh_newa (atype := .int) (ty := .int) (N' := 8) (a0 := (8, .inl (fun _ => (0 : Int32)))) hx hb (hT _ w224) rfl hK 0 rfl hP hS (fun _ => rfl) (by decide) (by decide) (by decide) (by show 2 + 1 ≤ 3; omega) (by show 16 + 8 ≤ 24; omega) (fh_d d_Gr_init 12 rfl) (fun H hP hS => ?_)
  obtain ⟨h15, eh15⟩ : ∃ z : fh_H, z = fh_up h11 (n + 2) (.inl (ct 0, 8, .inl (fun _ => (0 : Int32)))) := ⟨_, rfl⟩
  replace hP : fh_P D fh_cl b h15 (n + 3) H := by rw [eh15]; exact hP
  have k16 : h15 n = some (.inl (ct 0, 8, .inl (fun _ => (0 : Int32)))) := by rw [eh15, fh_up_ne (by omega)]; exact k12
  have k17 : h15 (n + 1) = some (.inl (ct 0, 8, .inl (fun _ => (0 : Int32)))) := by rw [eh15, fh_up_ne (by omega)]; exact k13
  have k18 : h15 a = some (.inr (6, [.ref n, .ref (n + 1), .null, .int 0, .int 0])) := by rw [eh15, fh_up_ne (by omega)]; exact k14
  have k19 : h15 (n + 2) = some (.inl (ct 0, 8, .inl (fun _ => (0 : Int32)))) := by rw [eh15]; exact fh_up_same
  refine fh_putF (own := "FormulaSetter$Grid") (ref := "FormulaSetter$Grid") (C := "FormulaSetter$Grid") (T := T_Gr) (N := 5) (v := .ref (n + 2)) (ty := (.array .int)) hx hb hT i_Gr t_Gr k_Gr n_Gr hown hK hP hS k18 rfl 2 (by decide) (hT _ w233) (fun _ h9 => h9) rfl hnm rfl (by decide +kernel) rfl rfl (by simp) (fh_d d_Gr_init 13 rfl) (fun H locs hP hS => ?_)
  obtain ⟨h20, eh20⟩ : ∃ z : fh_H, z = fh_up h15 a (.inr (6, [.ref n, .ref (n + 1), .ref (n + 2), .int 0, .int 0])) := ⟨_, rfl⟩
  replace hP : fh_P D fh_cl b h20 (n + 3) H := by rw [eh20]; exact hP
  have k21 : h20 n = some (.inl (ct 0, 8, .inl (fun _ => (0 : Int32)))) := by rw [eh20, fh_up_ne (by omega)]; exact k16
  have k22 : h20 (n + 1) = some (.inl (ct 0, 8, .inl (fun _ => (0 : Int32)))) := by rw [eh20, fh_up_ne (by omega)]; exact k17
  have k23 : h20 (n + 2) = some (.inl (ct 0, 8, .inl (fun _ => (0 : Int32)))) := by rw [eh20, fh_up_ne (by omega)]; exact k19
  have k24 : h20 a = some (.inr (6, [.ref n, .ref (n + 1), .ref (n + 2), .int 0, .int 0])) := by rw [eh20]; exact fh_up_same
  refine fh_vret X hP hS (fh_d d_Gr_init 14 rfl) ⟨rfl, fun q => ?_, rfl⟩
  rw [eh20, eh15, eh11, eh7, eh4, eh1]
  simp only [fh_up]
  by_cases q1 : q = a
  · simp [q1]
  · by_cases q2 : q = n
    · subst q2; simp [q1]
    · by_cases q3 : q = n + 1
      · subst q3; simp [q1]
      · by_cases q4 : q = n + 2
        · subst q4; simp [q1]
        · rw [if_neg q1, if_neg q4, if_neg q1, if_neg q3, if_neg q1, if_neg q2, if_neg q1, if_neg (by omega)]
