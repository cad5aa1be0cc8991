/-! Arrays.fill on the Grid's arrays. Printed by wip/whole/gen/p64.py -/
def fiF (W : Nat → Int32) (v : Int32) (k : Nat) : Nat → Int32 := fun j => if j < k then v else W j
theorem fi_0 (W : Nat → Int32) (v : Int32) : fiF W v 0 = W := by
  funext j; unfold fiF; rw [if_neg (by omega)]
theorem fi_s (W : Nat → Int32) (v : Int32) (k : Nat) : upd (fiF W v k) k v = fiF W v (k + 1) := by
  funext j
  unfold upd fiF
  by_cases h : j = k
  · rw [if_pos h, if_pos (by omega)]
  · rw [if_neg h]
    by_cases h2 : j < k
    · rw [if_pos h2, if_pos (by omega)]
    · rw [if_neg h2, if_neg (by omega)]
set_option maxHeartbeats 4000000 in
set_option maxRecDepth 100000 in
theorem m_Ar_fillgw (l : Launch) (D : va_G) (ct : Nat → ClassId) (b : Nat) (RO : State → Prop) (r : Nat) (n x : Nat) (kA aA : Nat → Nat) (g : fh_H) (cnt : Int32) (F W0 H0 D0 : Nat → Int32) (rows cols : Int32) (nc lc : Int32) (tx : Value) (len at_ : Int32) (C : Nat → Nat → Int32) (R : Nat → Nat → Option Nat) (CL : Nat → Nat → Int32) (RL : Nat → Nat → Option Nat) (vv : Int32) : fh_C l D fh_cl (fh_tys ct) b RO y_Ar_fill (Cond.code y_Ar_fill c_Ar_fill 4 (Option.none : Option FieldType) :: fh_T) (fh_rm r 0 0) [.ref (x + 230), .int vv] (mkR x kA aA (mkG ct x g cnt F W0 H0 D0 rows cols) nc lc tx len at_ C R CL RL) n (fun v h' n' => v = none ∧ h' = mkR x kA aA (mkG ct x g cnt F (fiF W0 vv 8) H0 D0 rows cols) nc lc tx len at_ C R CL RL ∧ n' = n) 0 0 := by
  refine fh_enter (by decide) (Nat.le_of_ble_eq_true rfl) [(0, .ref (x + 230)), (1, .int vv)] rfl ?_
  intro p e s m args below meth c H ls X hP hS hl
  have hx := X.1
  have hb := X.2.1
  have hml := X.2.2.1
  have hown : s.vm.findClass "java/util/Arrays" = some m.cls := X.2.2.2.1
  have hT := X.2.2.2.2.1
  have hK := X.2.2.2.2.2.1
  have hRO := X.2.2.2.2.2.2.1
  have hnm : meth.name = "fill" := X.2.2.2.2.2.2.2.2.2.2
  have loop : ∀ (t k : Nat), 8 - k = t → k ≤ 8 → ∀ (H : Heap) (locs : List Loc) (ls : Array Slot), fh_P D fh_cl b (mkR x kA aA (mkG ct x g cnt F (fiF W0 vv k) H0 D0 rows cols) nc lc tx len at_ C R CL RL) n H → va_S (fh_A b) s.heap H locs → lv_has ls 4 [(3, .int 8), (2, .int (nI k)), (0, .ref (x + 230)), (1, .int vv)] → W p l e (fh_rm r 0 0) s m args below meth c H locs 0 0 (MQ below (fh_Post D fh_cl b (fun v h' n' => v = none ∧ h' = mkR x kA aA (mkG ct x g cnt F (fiF W0 vv 8) H0 D0 rows cols) nc lc tx len at_ C R CL RL ∧ n' = n)) args s 0 0 (fh_A b)) (F0 m 5 ls []) := by
    intro t
    induction t with
    | zero =>
      intro k hkt hk8 H locs ls hP hS hl
      refine lv_iload_n hx hb (fh_d d_Ar_fill 5 rfl) rfl (lv_at hl 1 rfl) ?_
      refine lv_iload_n hx hb (fh_d d_Ar_fill 6 rfl) rfl (lv_at hl 0 rfl) ?_
      refine lv_icmp_ge (tgt := 20) hx hb (fh_d d_Ar_fill 7 rfl) rfl (fun c1 => ?_) (fun c1 => absurd c1 (fun c9 => c1 ((nI_leI (a := 8) (b := k) (by decide) (by omega)).mpr (by omega))))
      exact fh_vret X hP hS (fh_d d_Ar_fill 14 rfl) ⟨rfl, by rw [show k = 8 by omega], rfl⟩
    | succ t ih =>
      intro k hkt hk8 H locs ls hP hS hl
      refine lv_iload_n hx hb (fh_d d_Ar_fill 5 rfl) rfl (lv_at hl 1 rfl) ?_
      refine lv_iload_n hx hb (fh_d d_Ar_fill 6 rfl) rfl (lv_at hl 0 rfl) ?_
      refine lv_icmp_ge (tgt := 20) hx hb (fh_d d_Ar_fill 7 rfl) rfl (fun c2 => absurd c2 (fun c9 => absurd ((nI_leI (a := 8) (b := k) (by decide) (by omega)).mp c9) (by omega))) (fun c2 => ?_)
      refine lv_aload_n hx hb (fh_d d_Ar_fill 8 rfl) rfl (lv_at hl 2 rfl) ?_
      refine lv_iload_n hx hb (fh_d d_Ar_fill 9 rfl) rfl (lv_at hl 1 rfl) ?_
      refine lv_iload_n hx hb (fh_d d_Ar_fill 10 rfl) rfl (lv_at hl 3 rfl) ?_
      refine fn_iast (f := fiF W0 vv k) (k := k) hx hb hK hP hS 0 ((mkR_g (by omega) (by omega) (by omega)).trans mkG_gw) rfl (rfl) (by omega) (by decide) (fh_d d_Ar_fill 11 rfl) (fun H locs hP hS => ?_)
      replace hP := fh_P.eq (h' := mkR x kA aA (mkG ct x g cnt F (upd (fiF W0 vv k) k vv) H0 D0 rows cols) nc lc tx len at_ C R CL RL) hP ((mkR_up (by omega) (by omega) (by omega)).trans (congrArg (fun z => mkR x kA aA z nc lc tx len at_ C R CL RL) mkG_ugw))
      refine lv_iinc (k := 1) (v := (nI k) + 1) (lv' := [(2, .int ((nI k) + 1)), (3, .int 8), (0, .ref (x + 230)), (1, .int vv)]) hx hb (fh_d d_Ar_fill 12 rfl) hl rfl (by rfl) (by decide) rfl (fun ls hl => ?_)
      refine lv_goto (tgt := 5) hx hb (fh_d d_Ar_fill 13 rfl) rfl ?_
      rw [fi_s] at hP
      rw [nI_1] at hl
      exact ih (k + 1) (by omega) (by omega) H _ _ hP hS (lv_sub hl [1, 0, 2, 3] rfl)
  refine lv_iconst (v := 0) hx hb (fh_d d_Ar_fill 0 rfl) (by decide) ?_
  refine lv_istore_n (lv' := [(2, .int 0), (0, .ref (x + 230)), (1, .int vv)]) hx hb (fh_d d_Ar_fill 1 rfl) rfl hl (by decide) rfl (fun ls hl => ?_)
  refine lv_aload_n hx hb (fh_d d_Ar_fill 2 rfl) rfl (lv_at hl 1 rfl) ?_
  refine fh_alen (v := 8) hx hb hK hP 0 ((mkR_g (by omega) (by omega) (by omega)).trans mkG_gw) rfl rfl (fh_d d_Ar_fill 3 rfl) ?_
  refine lv_istore_n (lv' := [(3, .int 8), (2, .int 0), (0, .ref (x + 230)), (1, .int vv)]) hx hb (fh_d d_Ar_fill 4 rfl) rfl hl (by decide) rfl (fun ls hl => ?_)
  exact loop _ 0 rfl (Nat.zero_le _) H _ _ (by rw [fi_0]; exact hP) hS hl

set_option maxHeartbeats 4000000 in
set_option maxRecDepth 100000 in
theorem m_Ar_fillgh (l : Launch) (D : va_G) (ct : Nat → ClassId) (b : Nat) (RO : State → Prop) (r : Nat) (n x : Nat) (kA aA : Nat → Nat) (g : fh_H) (cnt : Int32) (F W0 H0 D0 : Nat → Int32) (rows cols : Int32) (nc lc : Int32) (tx : Value) (len at_ : Int32) (C : Nat → Nat → Int32) (R : Nat → Nat → Option Nat) (CL : Nat → Nat → Int32) (RL : Nat → Nat → Option Nat) (vv : Int32) : fh_C l D fh_cl (fh_tys ct) b RO y_Ar_fill (Cond.code y_Ar_fill c_Ar_fill 4 (Option.none : Option FieldType) :: fh_T) (fh_rm r 0 0) [.ref (x + 231), .int vv] (mkR x kA aA (mkG ct x g cnt F W0 H0 D0 rows cols) nc lc tx len at_ C R CL RL) n (fun v h' n' => v = none ∧ h' = mkR x kA aA (mkG ct x g cnt F W0 (fiF H0 vv 8) D0 rows cols) nc lc tx len at_ C R CL RL ∧ n' = n) 0 0 := by
  refine fh_enter (by decide) (Nat.le_of_ble_eq_true rfl) [(0, .ref (x + 231)), (1, .int vv)] rfl ?_
  intro p e s m args below meth c H ls X hP hS hl
  have hx := X.1
  have hb := X.2.1
  have hml := X.2.2.1
  have hown : s.vm.findClass "java/util/Arrays" = some m.cls := X.2.2.2.1
  have hT := X.2.2.2.2.1
  have hK := X.2.2.2.2.2.1
  have hRO := X.2.2.2.2.2.2.1
  have hnm : meth.name = "fill" := X.2.2.2.2.2.2.2.2.2.2
  have loop : ∀ (t k : Nat), 8 - k = t → k ≤ 8 → ∀ (H : Heap) (locs : List Loc) (ls : Array Slot), fh_P D fh_cl b (mkR x kA aA (mkG ct x g cnt F W0 (fiF H0 vv k) D0 rows cols) nc lc tx len at_ C R CL RL) n H → va_S (fh_A b) s.heap H locs → lv_has ls 4 [(3, .int 8), (2, .int (nI k)), (0, .ref (x + 231)), (1, .int vv)] → W p l e (fh_rm r 0 0) s m args below meth c H locs 0 0 (MQ below (fh_Post D fh_cl b (fun v h' n' => v = none ∧ h' = mkR x kA aA (mkG ct x g cnt F W0 (fiF H0 vv 8) D0 rows cols) nc lc tx len at_ C R CL RL ∧ n' = n)) args s 0 0 (fh_A b)) (F0 m 5 ls []) := by
    intro t
    induction t with
    | zero =>
      intro k hkt hk8 H locs ls hP hS hl
      refine lv_iload_n hx hb (fh_d d_Ar_fill 5 rfl) rfl (lv_at hl 1 rfl) ?_
      refine lv_iload_n hx hb (fh_d d_Ar_fill 6 rfl) rfl (lv_at hl 0 rfl) ?_
      refine lv_icmp_ge (tgt := 20) hx hb (fh_d d_Ar_fill 7 rfl) rfl (fun c1 => ?_) (fun c1 => absurd c1 (fun c9 => c1 ((nI_leI (a := 8) (b := k) (by decide) (by omega)).mpr (by omega))))
      exact fh_vret X hP hS (fh_d d_Ar_fill 14 rfl) ⟨rfl, by rw [show k = 8 by omega], rfl⟩
    | succ t ih =>
      intro k hkt hk8 H locs ls hP hS hl
      refine lv_iload_n hx hb (fh_d d_Ar_fill 5 rfl) rfl (lv_at hl 1 rfl) ?_
      refine lv_iload_n hx hb (fh_d d_Ar_fill 6 rfl) rfl (lv_at hl 0 rfl) ?_
      refine lv_icmp_ge (tgt := 20) hx hb (fh_d d_Ar_fill 7 rfl) rfl (fun c2 => absurd c2 (fun c9 => absurd ((nI_leI (a := 8) (b := k) (by decide) (by omega)).mp c9) (by omega))) (fun c2 => ?_)
      refine lv_aload_n hx hb (fh_d d_Ar_fill 8 rfl) rfl (lv_at hl 2 rfl) ?_
      refine lv_iload_n hx hb (fh_d d_Ar_fill 9 rfl) rfl (lv_at hl 1 rfl) ?_
      refine lv_iload_n hx hb (fh_d d_Ar_fill 10 rfl) rfl (lv_at hl 3 rfl) ?_
      refine fn_iast (f := fiF H0 vv k) (k := k) hx hb hK hP hS 0 ((mkR_g (by omega) (by omega) (by omega)).trans mkG_gh) rfl (rfl) (by omega) (by decide) (fh_d d_Ar_fill 11 rfl) (fun H locs hP hS => ?_)
      replace hP := fh_P.eq (h' := mkR x kA aA (mkG ct x g cnt F W0 (upd (fiF H0 vv k) k vv) D0 rows cols) nc lc tx len at_ C R CL RL) hP ((mkR_up (by omega) (by omega) (by omega)).trans (congrArg (fun z => mkR x kA aA z nc lc tx len at_ C R CL RL) mkG_ugh))
      refine lv_iinc (k := 1) (v := (nI k) + 1) (lv' := [(2, .int ((nI k) + 1)), (3, .int 8), (0, .ref (x + 231)), (1, .int vv)]) hx hb (fh_d d_Ar_fill 12 rfl) hl rfl (by rfl) (by decide) rfl (fun ls hl => ?_)
      refine lv_goto (tgt := 5) hx hb (fh_d d_Ar_fill 13 rfl) rfl ?_
      rw [fi_s] at hP
      rw [nI_1] at hl
      exact ih (k + 1) (by omega) (by omega) H _ _ hP hS (lv_sub hl [1, 0, 2, 3] rfl)
  refine lv_iconst (v := 0) hx hb (fh_d d_Ar_fill 0 rfl) (by decide) ?_
  refine lv_istore_n (lv' := [(2, .int 0), (0, .ref (x + 231)), (1, .int vv)]) hx hb (fh_d d_Ar_fill 1 rfl) rfl hl (by decide) rfl (fun ls hl => ?_)
  refine lv_aload_n hx hb (fh_d d_Ar_fill 2 rfl) rfl (lv_at hl 1 rfl) ?_
  refine fh_alen (v := 8) hx hb hK hP 0 ((mkR_g (by omega) (by omega) (by omega)).trans mkG_gh) rfl rfl (fh_d d_Ar_fill 3 rfl) ?_
  refine lv_istore_n (lv' := [(3, .int 8), (2, .int 0), (0, .ref (x + 231)), (1, .int vv)]) hx hb (fh_d d_Ar_fill 4 rfl) rfl hl (by decide) rfl (fun ls hl => ?_)
  exact loop _ 0 rfl (Nat.zero_le _) H _ _ (by rw [fi_0]; exact hP) hS hl

set_option maxHeartbeats 4000000 in
set_option maxRecDepth 100000 in
theorem m_Ar_fillgd (l : Launch) (D : va_G) (ct : Nat → ClassId) (b : Nat) (RO : State → Prop) (r : Nat) (n x : Nat) (kA aA : Nat → Nat) (g : fh_H) (cnt : Int32) (F W0 H0 D0 : Nat → Int32) (rows cols : Int32) (nc lc : Int32) (tx : Value) (len at_ : Int32) (C : Nat → Nat → Int32) (R : Nat → Nat → Option Nat) (CL : Nat → Nat → Int32) (RL : Nat → Nat → Option Nat) (vv : Int32) : fh_C l D fh_cl (fh_tys ct) b RO y_Ar_fill (Cond.code y_Ar_fill c_Ar_fill 4 (Option.none : Option FieldType) :: fh_T) (fh_rm r 0 0) [.ref (x + 232), .int vv] (mkR x kA aA (mkG ct x g cnt F W0 H0 D0 rows cols) nc lc tx len at_ C R CL RL) n (fun v h' n' => v = none ∧ h' = mkR x kA aA (mkG ct x g cnt F W0 H0 (fiF D0 vv 8) rows cols) nc lc tx len at_ C R CL RL ∧ n' = n) 0 0 := by
  refine fh_enter (by decide) (Nat.le_of_ble_eq_true rfl) [(0, .ref (x + 232)), (1, .int vv)] rfl ?_
  intro p e s m args below meth c H ls X hP hS hl
  have hx := X.1
  have hb := X.2.1
  have hml := X.2.2.1
  have hown : s.vm.findClass "java/util/Arrays" = some m.cls := X.2.2.2.1
  have hT := X.2.2.2.2.1
  have hK := X.2.2.2.2.2.1
  have hRO := X.2.2.2.2.2.2.1
  have hnm : meth.name = "fill" := X.2.2.2.2.2.2.2.2.2.2
  have loop : ∀ (t k : Nat), 8 - k = t → k ≤ 8 → ∀ (H : Heap) (locs : List Loc) (ls : Array Slot), fh_P D fh_cl b (mkR x kA aA (mkG ct x g cnt F W0 H0 (fiF D0 vv k) rows cols) nc lc tx len at_ C R CL RL) n H → va_S (fh_A b) s.heap H locs → lv_has ls 4 [(3, .int 8), (2, .int (nI k)), (0, .ref (x + 232)), (1, .int vv)] → W p l e (fh_rm r 0 0) s m args below meth c H locs 0 0 (MQ below (fh_Post D fh_cl b (fun v h' n' => v = none ∧ h' = mkR x kA aA (mkG ct x g cnt F W0 H0 (fiF D0 vv 8) rows cols) nc lc tx len at_ C R CL RL ∧ n' = n)) args s 0 0 (fh_A b)) (F0 m 5 ls []) := by
    intro t
    induction t with
    | zero =>
      intro k hkt hk8 H locs ls hP hS hl
      refine lv_iload_n hx hb (fh_d d_Ar_fill 5 rfl) rfl (lv_at hl 1 rfl) ?_
      refine lv_iload_n hx hb (fh_d d_Ar_fill 6 rfl) rfl (lv_at hl 0 rfl) ?_
      refine lv_icmp_ge (tgt := 20) hx hb (fh_d d_Ar_fill 7 rfl) rfl (fun c1 => ?_) (fun c1 => absurd c1 (fun c9 => c1 ((nI_leI (a := 8) (b := k) (by decide) (by omega)).mpr (by omega))))
      exact fh_vret X hP hS (fh_d d_Ar_fill 14 rfl) ⟨rfl, by rw [show k = 8 by omega], rfl⟩
    | succ t ih =>
      intro k hkt hk8 H locs ls hP hS hl
      refine lv_iload_n hx hb (fh_d d_Ar_fill 5 rfl) rfl (lv_at hl 1 rfl) ?_
      refine lv_iload_n hx hb (fh_d d_Ar_fill 6 rfl) rfl (lv_at hl 0 rfl) ?_
      refine lv_icmp_ge (tgt := 20) hx hb (fh_d d_Ar_fill 7 rfl) rfl (fun c2 => absurd c2 (fun c9 => absurd ((nI_leI (a := 8) (b := k) (by decide) (by omega)).mp c9) (by omega))) (fun c2 => ?_)
      refine lv_aload_n hx hb (fh_d d_Ar_fill 8 rfl) rfl (lv_at hl 2 rfl) ?_
      refine lv_iload_n hx hb (fh_d d_Ar_fill 9 rfl) rfl (lv_at hl 1 rfl) ?_
      refine lv_iload_n hx hb (fh_d d_Ar_fill 10 rfl) rfl (lv_at hl 3 rfl) ?_
      refine fn_iast (f := fiF D0 vv k) (k := k) hx hb hK hP hS 0 ((mkR_g (by omega) (by omega) (by omega)).trans mkG_gd) rfl (rfl) (by omega) (by decide) (fh_d d_Ar_fill 11 rfl) (fun H locs hP hS => ?_)
      replace hP := fh_P.eq (h' := mkR x kA aA (mkG ct x g cnt F W0 H0 (upd (fiF D0 vv k) k vv) rows cols) nc lc tx len at_ C R CL RL) hP ((mkR_up (by omega) (by omega) (by omega)).trans (congrArg (fun z => mkR x kA aA z nc lc tx len at_ C R CL RL) mkG_ugd))
      refine lv_iinc (k := 1) (v := (nI k) + 1) (lv' := [(2, .int ((nI k) + 1)), (3, .int 8), (0, .ref (x + 232)), (1, .int vv)]) hx hb (fh_d d_Ar_fill 12 rfl) hl rfl (by rfl) (by decide) rfl (fun ls hl => ?_)
      refine lv_goto (tgt := 5) hx hb (fh_d d_Ar_fill 13 rfl) rfl ?_
      rw [fi_s] at hP
      rw [nI_1] at hl
      exact ih (k + 1) (by omega) (by omega) H _ _ hP hS (lv_sub hl [1, 0, 2, 3] rfl)
  refine lv_iconst (v := 0) hx hb (fh_d d_Ar_fill 0 rfl) (by decide) ?_
  refine lv_istore_n (lv' := [(2, .int 0), (0, .ref (x + 232)), (1, .int vv)]) hx hb (fh_d d_Ar_fill 1 rfl) rfl hl (by decide) rfl (fun ls hl => ?_)
  refine lv_aload_n hx hb (fh_d d_Ar_fill 2 rfl) rfl (lv_at hl 1 rfl) ?_
  refine fh_alen (v := 8) hx hb hK hP 0 ((mkR_g (by omega) (by omega) (by omega)).trans mkG_gd) rfl rfl (fh_d d_Ar_fill 3 rfl) ?_
  refine lv_istore_n (lv' := [(3, .int 8), (2, .int 0), (0, .ref (x + 232)), (1, .int vv)]) hx hb (fh_d d_Ar_fill 4 rfl) rfl hl (by decide) rfl (fun ls hl => ?_)
  exact loop _ 0 rfl (Nat.zero_le _) H _ _ (by rw [fi_0]; exact hP) hS hl
