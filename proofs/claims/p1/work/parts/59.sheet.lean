/-! Sheet: clear, reserve, put. Printed by wip/whole/gen/p59.py -/
set_option maxHeartbeats 4000000 in
set_option maxRecDepth 100000 in
theorem m_Sh_clear (l : Launch) (D : va_G) (ct : Nat → ClassId) (b : Nat) (RO : State → Prop) (r : Nat) (n x : Nat) (kA aA : Nat → Nat) (g : fh_H) (cnt : Int32) (F W0 H0 D0 : Nat → Int32) (rows cols : Int32) (nc lc : Int32) (tx : Value) (len at_ : Int32) (C : Nat → Nat → Int32) (R : Nat → Nat → Option Nat) (CL : Nat → Nat → Int32) (RL : Nat → Nat → Option Nat) : fh_C l D fh_cl (fh_tys ct) b RO y_Sh_clear (Cond.code y_Sh_clear c_Sh_clear 1 (Option.none : Option FieldType) :: fh_T) (fh_rm r 0 0) [.ref (x + 227)] (mkR x kA aA (mkG ct x g cnt F W0 H0 D0 rows cols) nc lc tx len at_ C R CL RL) n (fun v h' n' => v = none ∧ h' = mkR x kA aA (mkG ct x g 0 F W0 H0 D0 rows cols) nc lc tx len at_ C R CL RL ∧ n' = n) 0 0 := by
  refine fh_enter (by decide) (Nat.le_of_ble_eq_true rfl) [(0, .ref (x + 227))] rfl ?_
  intro p e s m args below meth c H ls X hP hS hl
  have hx := X.1
  have hb := X.2.1
  have hml := X.2.2.1
  have hown : s.vm.findClass "FormulaSetter$Sheet" = some m.cls := X.2.2.2.1
  have hT := X.2.2.2.2.1
  have hK := X.2.2.2.2.2.1
  have hRO := X.2.2.2.2.2.2.1
  have hnm : meth.name = "clear" := X.2.2.2.2.2.2.2.2.2.2
  refine lv_aload_n hx hb (fh_d d_Sh_clear 0 rfl) rfl (lv_at hl 0 rfl) ?_
  refine lv_iconst (v := 0) hx hb (fh_d d_Sh_clear 1 rfl) (by decide) ?_
  refine fh_put (own := "FormulaSetter$Sheet") (ref := "FormulaSetter$Sheet") (C := "FormulaSetter$Sheet") (T := T_Sh) (N := 2) (v := .int 0) (ty := .int) hx hb hT i_Sh t_Sh k_Sh n_Sh hown hK hP hS ((mkR_g (by omega) (by omega) (by omega)).trans mkG_sh) rfl 1 (by decide) (hT _ w216) (fun _ h9 => h9) rfl (by decide +kernel) rfl rfl (Nat.le_of_ble_eq_true rfl) (fh_d d_Sh_clear 2 rfl) (fun H locs hP hS => ?_)
  replace hP := fh_P.eq (h' := mkR x kA aA (mkG ct x g 0 F W0 H0 D0 rows cols) nc lc tx len at_ C R CL RL) hP ((mkR_up (by omega) (by omega) (by omega)).trans (congrArg (fun z => mkR x kA aA z nc lc tx len at_ C R CL RL) mkG_ush))
  exact fh_vret X hP hS (fh_d d_Sh_clear 3 rfl) ⟨rfl, rfl, rfl⟩

set_option maxHeartbeats 4000000 in
set_option maxRecDepth 100000 in
theorem m_Sh_reserve (l : Launch) (D : va_G) (ct : Nat → ClassId) (b : Nat) (RO : State → Prop) (r : Nat) (n x : Nat) (kA aA : Nat → Nat) (g : fh_H) (c0 : Nat) (hc0 : c0 ≤ 120) (F W0 H0 D0 : Nat → Int32) (rows cols : Int32) (nc lc : Int32) (tx : Value) (len at_ : Int32) (C : Nat → Nat → Int32) (R : Nat → Nat → Option Nat) (CL : Nat → Nat → Int32) (RL : Nat → Nat → Option Nat) : fh_C l D fh_cl (fh_tys ct) b RO y_Sh_reserve (Cond.code y_Sh_reserve c_Sh_reserve 2 (Option.some FieldType.int) :: fh_T) (fh_rm r 0 0) [.ref (x + 227)] (mkR x kA aA (mkG ct x g (nI c0) F W0 H0 D0 rows cols) nc lc tx len at_ C R CL RL) n (fun v h' n' => v = some (.int (nI c0)) ∧ h' = mkR x kA aA (mkG ct x g (nI (if c0 < 120 then c0 + 1 else c0)) F W0 H0 D0 rows cols) nc lc tx len at_ C R CL RL ∧ n' = n) 0 0 := by
  refine fh_enter (by decide) (Nat.le_of_ble_eq_true rfl) [(0, .ref (x + 227))] rfl ?_
  intro p e s m args below meth c H ls X hP hS hl
  have hx := X.1
  have hb := X.2.1
  have hml := X.2.2.1
  have hown : s.vm.findClass "FormulaSetter$Sheet" = some m.cls := X.2.2.2.1
  have hT := X.2.2.2.2.1
  have hK := X.2.2.2.2.2.1
  have hRO := X.2.2.2.2.2.2.1
  have hnm : meth.name = "reserve" := X.2.2.2.2.2.2.2.2.2.2
  refine lv_aload_n hx hb (fh_d d_Sh_reserve 0 rfl) rfl (lv_at hl 0 rfl) ?_
  refine fh_get (own := "FormulaSetter$Sheet") (ref := "FormulaSetter$Sheet") (C := "FormulaSetter$Sheet") (T := T_Sh) (N := 2) (v := .int (nI c0)) hx hb hT i_Sh hown hK hP ((mkR_g (by omega) (by omega) (by omega)).trans mkG_sh) rfl 1 (by decide) (hT _ w216) (fun _ h9 => h9) rfl (fh_d d_Sh_reserve 1 rfl) ?_
  refine lv_istore_n (lv' := [(1, .int (nI c0)), (0, .ref (x + 227))]) hx hb (fh_d d_Sh_reserve 2 rfl) rfl hl (by decide) rfl (fun ls hl => ?_)
  refine lv_aload_n hx hb (fh_d d_Sh_reserve 3 rfl) rfl (lv_at hl 1 rfl) ?_
  refine fh_get (own := "FormulaSetter$Sheet") (ref := "FormulaSetter$Sheet") (C := "FormulaSetter$Sheet") (T := T_Sh) (N := 2) (v := .int (nI c0)) hx hb hT i_Sh hown hK hP ((mkR_g (by omega) (by omega) (by omega)).trans mkG_sh) rfl 1 (by decide) (hT _ w216) (fun _ h9 => h9) rfl (fh_d d_Sh_reserve 4 rfl) ?_
  refine lv_bipush (v := 120) hx hb (fh_d d_Sh_reserve 5 rfl) (by decide) ?_
  refine lv_icmp_ge (tgt := 24) hx hb (fh_d d_Sh_reserve 6 rfl) rfl (fun c1 => ?_) (fun c1 => ?_)
  · refine lv_iload_n hx hb (fh_d d_Sh_reserve 13 rfl) rfl (lv_at hl 0 rfl) ?_
    have q : ¬ c0 < 120 := by have := (nI_leI (a := 120) (b := c0) (by decide) (by omega)).mp c1; omega
    exact fh_iret X hP hS (fh_d d_Sh_reserve 14 rfl) ⟨rfl, by rw [if_neg q], rfl⟩
  · refine lv_aload_n hx hb (fh_d d_Sh_reserve 7 rfl) rfl (lv_at hl 1 rfl) ?_
    refine lv_dup hx hb (fh_d d_Sh_reserve 8 rfl) rfl ?_
    refine fh_get (own := "FormulaSetter$Sheet") (ref := "FormulaSetter$Sheet") (C := "FormulaSetter$Sheet") (T := T_Sh) (N := 2) (v := .int (nI c0)) hx hb hT i_Sh hown hK hP ((mkR_g (by omega) (by omega) (by omega)).trans mkG_sh) rfl 1 (by decide) (hT _ w216) (fun _ h9 => h9) rfl (fh_d d_Sh_reserve 9 rfl) ?_
    refine lv_iconst (v := 1) hx hb (fh_d d_Sh_reserve 10 rfl) (by decide) ?_
    refine lv_iadd hx hb (fh_d d_Sh_reserve 11 rfl) ?_
    refine fh_put (own := "FormulaSetter$Sheet") (ref := "FormulaSetter$Sheet") (C := "FormulaSetter$Sheet") (T := T_Sh) (N := 2) (v := .int ((nI c0) + 1)) (ty := .int) hx hb hT i_Sh t_Sh k_Sh n_Sh hown hK hP hS ((mkR_g (by omega) (by omega) (by omega)).trans mkG_sh) rfl 1 (by decide) (hT _ w216) (fun _ h9 => h9) rfl (by decide +kernel) rfl rfl (Nat.le_of_ble_eq_true rfl) (fh_d d_Sh_reserve 12 rfl) (fun H locs hP hS => ?_)
    replace hP := fh_P.eq (h' := mkR x kA aA (mkG ct x g ((nI c0) + 1) F W0 H0 D0 rows cols) nc lc tx len at_ C R CL RL) hP ((mkR_up (by omega) (by omega) (by omega)).trans (congrArg (fun z => mkR x kA aA z nc lc tx len at_ C R CL RL) mkG_ush))
    refine lv_iload_n hx hb (fh_d d_Sh_reserve 13 rfl) rfl (lv_at hl 0 rfl) ?_
    have q : c0 < 120 := Nat.not_le.mp fun z => c1 ((nI_leI (a := 120) (b := c0) (by decide) (by omega)).mpr z)
    rw [nI_1] at hP
    exact fh_iret X hP hS (fh_d d_Sh_reserve 14 rfl) ⟨rfl, by rw [if_pos q], rfl⟩

/-- a piece written -/
def putF (F : Nat → Int32) (p : Nat) (k c x y s w : Int32) : Nat → Int32 := if p < 120 then upd (upd (upd (upd (upd (upd F (p * 6) k) (p * 6 + 1) c) (p * 6 + 2) x) (p * 6 + 3) y) (p * 6 + 4) s) (p * 6 + 5) w else F
set_option maxHeartbeats 4000000 in
set_option maxRecDepth 100000 in
theorem m_Sh_put (l : Launch) (D : va_G) (ct : Nat → ClassId) (b : Nat) (RO : State → Prop) (r : Nat) (n x : Nat) (kA aA : Nat → Nat) (g : fh_H) (cnt : Int32) (F W0 H0 D0 : Nat → Int32) (rows cols : Int32) (nc lc : Int32) (tx : Value) (len at_ : Int32) (C : Nat → Nat → Int32) (R : Nat → Nat → Option Nat) (CL : Nat → Nat → Int32) (RL : Nat → Nat → Option Nat) (p0 : Nat) (hp0 : p0 ≤ 120) (pk pq px py ps pw : Int32) : fh_C l D fh_cl (fh_tys ct) b RO y_Sh_put (Cond.code y_Sh_put c_Sh_put 9 (Option.none : Option FieldType) :: fh_T) (fh_rm r 0 0) [.ref (x + 227), .int (nI p0), .int pk, .int pq, .int px, .int py, .int ps, .int pw] (mkR x kA aA (mkG ct x g cnt F W0 H0 D0 rows cols) nc lc tx len at_ C R CL RL) n (fun v h' n' => v = none ∧ h' = mkR x kA aA (mkG ct x g cnt (putF F p0 pk pq px py ps pw) W0 H0 D0 rows cols) nc lc tx len at_ C R CL RL ∧ n' = n) 0 0 := by
  refine fh_enter (by decide) (Nat.le_of_ble_eq_true rfl) [(0, .ref (x + 227)), (1, .int (nI p0)), (2, .int pk), (3, .int pq), (4, .int px), (5, .int py), (6, .int ps), (7, .int pw)] rfl ?_
  intro p e s m args below meth c H ls X hP hS hl
  have hx := X.1
  have hb := X.2.1
  have hml := X.2.2.1
  have hown : s.vm.findClass "FormulaSetter$Sheet" = some m.cls := X.2.2.2.1
  have hT := X.2.2.2.2.1
  have hK := X.2.2.2.2.2.1
  have hRO := X.2.2.2.2.2.2.1
  have hnm : meth.name = "put" := X.2.2.2.2.2.2.2.2.2.2
  refine lv_iload_n hx hb (fh_d d_Sh_put 0 rfl) rfl (lv_at hl 1 rfl) ?_
  refine lv_if_lt (tgt := 10) hx hb (fh_d d_Sh_put 1 rfl) rfl (fun c1 => absurd c1 (nI_pos (by omega))) (fun c1 => ?_)
  refine lv_iload_n hx hb (fh_d d_Sh_put 2 rfl) rfl (lv_at hl 1 rfl) ?_
  refine lv_bipush (v := 120) hx hb (fh_d d_Sh_put 3 rfl) (by decide) ?_
  refine lv_icmp_lt (tgt := 11) hx hb (fh_d d_Sh_put 4 rfl) rfl (fun c2 => ?_) (fun c2 => ?_)
  · have q : p0 < 120 := (nI_ltI (a := p0) (b := 120) (by omega) (by decide)).mp c2
    refine lv_iload_n hx hb (fh_d d_Sh_put 6 rfl) rfl (lv_at hl 1 rfl) ?_
    refine lv_bipush (v := 6) hx hb (fh_d d_Sh_put 7 rfl) (by decide) ?_
    refine lv_imul hx hb (fh_d d_Sh_put 8 rfl) ?_
    refine lv_istore (lv' := [(8, .int ((nI p0) * 6)), (0, .ref (x + 227)), (1, .int (nI p0)), (2, .int pk), (3, .int pq), (4, .int px), (5, .int py), (6, .int ps), (7, .int pw)]) hx hb (fh_d d_Sh_put 9 rfl) hl (by decide) rfl (fun ls hl => ?_)
    refine lv_aload_n hx hb (fh_d d_Sh_put 10 rfl) rfl (lv_at hl 1 rfl) ?_
    refine fh_get (own := "FormulaSetter$Sheet") (ref := "FormulaSetter$Sheet") (C := "FormulaSetter$Sheet") (T := T_Sh) (N := 2) (v := .ref (x + 228)) hx hb hT i_Sh hown hK hP ((mkR_g (by omega) (by omega) (by omega)).trans mkG_sh) rfl 0 (by decide) (hT _ w214) (fun _ h9 => h9) rfl (fh_d d_Sh_put 11 rfl) ?_
    refine lv_iload hx hb (fh_d d_Sh_put 12 rfl) (lv_at hl 0 rfl) ?_
    refine lv_iload_n hx hb (fh_d d_Sh_put 13 rfl) rfl (lv_at hl 3 rfl) ?_
    refine fn_iast (f := F) (k := p0 * 6) hx hb hK hP hS 0 ((mkR_g (by omega) (by omega) (by omega)).trans mkG_fa) rfl (pk_mul p0 6) (by omega) (by decide) (fh_d d_Sh_put 14 rfl) (fun H locs hP hS => ?_)
    replace hP := fh_P.eq (h' := mkR x kA aA (mkG ct x g cnt (upd F (p0 * 6) pk) W0 H0 D0 rows cols) nc lc tx len at_ C R CL RL) hP ((mkR_up (by omega) (by omega) (by omega)).trans (congrArg (fun z => mkR x kA aA z nc lc tx len at_ C R CL RL) mkG_ufa))
    refine lv_aload_n hx hb (fh_d d_Sh_put 15 rfl) rfl (lv_at hl 1 rfl) ?_
    refine fh_get (own := "FormulaSetter$Sheet") (ref := "FormulaSetter$Sheet") (C := "FormulaSetter$Sheet") (T := T_Sh) (N := 2) (v := .ref (x + 228)) hx hb hT i_Sh hown hK hP ((mkR_g (by omega) (by omega) (by omega)).trans mkG_sh) rfl 0 (by decide) (hT _ w214) (fun _ h9 => h9) rfl (fh_d d_Sh_put 16 rfl) ?_
    refine lv_iload hx hb (fh_d d_Sh_put 17 rfl) (lv_at hl 0 rfl) ?_
    refine lv_iconst (v := 1) hx hb (fh_d d_Sh_put 18 rfl) (by decide) ?_
    refine lv_iadd hx hb (fh_d d_Sh_put 19 rfl) ?_
    refine lv_iload_n hx hb (fh_d d_Sh_put 20 rfl) rfl (lv_at hl 4 rfl) ?_
    refine fn_iast (f := upd F (p0 * 6) pk) (k := p0 * 6 + 1) hx hb hK hP hS 0 ((mkR_g (by omega) (by omega) (by omega)).trans mkG_fa) rfl (by rw [show (nI p0) * 6 = nI (p0 * 6) from pk_mul p0 6]; exact nI_add _ 1) (by omega) (by decide) (fh_d d_Sh_put 21 rfl) (fun H locs hP hS => ?_)
    replace hP := fh_P.eq (h' := mkR x kA aA (mkG ct x g cnt (upd (upd F (p0 * 6) pk) (p0 * 6 + 1) pq) W0 H0 D0 rows cols) nc lc tx len at_ C R CL RL) hP ((mkR_up (by omega) (by omega) (by omega)).trans (congrArg (fun z => mkR x kA aA z nc lc tx len at_ C R CL RL) mkG_ufa))
    refine lv_aload_n hx hb (fh_d d_Sh_put 22 rfl) rfl (lv_at hl 1 rfl) ?_
    refine fh_get (own := "FormulaSetter$Sheet") (ref := "FormulaSetter$Sheet") (C := "FormulaSetter$Sheet") (T := T_Sh) (N := 2) (v := .ref (x + 228)) hx hb hT i_Sh hown hK hP ((mkR_g (by omega) (by omega) (by omega)).trans mkG_sh) rfl 0 (by decide) (hT _ w214) (fun _ h9 => h9) rfl (fh_d d_Sh_put 23 rfl) ?_
    refine lv_iload hx hb (fh_d d_Sh_put 24 rfl) (lv_at hl 0 rfl) ?_
    refine lv_iconst (v := 2) hx hb (fh_d d_Sh_put 25 rfl) (by decide) ?_
    refine lv_iadd hx hb (fh_d d_Sh_put 26 rfl) ?_
    refine lv_iload hx hb (fh_d d_Sh_put 27 rfl) (lv_at hl 5 rfl) ?_
    refine fn_iast (f := upd (upd F (p0 * 6) pk) (p0 * 6 + 1) pq) (k := p0 * 6 + 2) hx hb hK hP hS 0 ((mkR_g (by omega) (by omega) (by omega)).trans mkG_fa) rfl (by rw [show (nI p0) * 6 = nI (p0 * 6) from pk_mul p0 6]; exact nI_add _ 2) (by omega) (by decide) (fh_d d_Sh_put 28 rfl) (fun H locs hP hS => ?_)
    replace hP := fh_P.eq (h' := mkR x kA aA (mkG ct x g cnt (upd (upd (upd F (p0 * 6) pk) (p0 * 6 + 1) pq) (p0 * 6 + 2) px) W0 H0 D0 rows cols) nc lc tx len at_ C R CL RL) hP ((mkR_up (by omega) (by omega) (by omega)).trans (congrArg (fun z => mkR x kA aA z nc lc tx len at_ C R CL RL) mkG_ufa))
    refine lv_aload_n hx hb (fh_d d_Sh_put 29 rfl) rfl (lv_at hl 1 rfl) ?_
    refine fh_get (own := "FormulaSetter$Sheet") (ref := "FormulaSetter$Sheet") (C := "FormulaSetter$Sheet") (T := T_Sh) (N := 2) (v := .ref (x + 228)) hx hb hT i_Sh hown hK hP ((mkR_g (by omega) (by omega) (by omega)).trans mkG_sh) rfl 0 (by decide) (hT _ w214) (fun _ h9 => h9) rfl (fh_d d_Sh_put 30 rfl) ?_
    refine lv_iload hx hb (fh_d d_Sh_put 31 rfl) (lv_at hl 0 rfl) ?_
    refine lv_iconst (v := 3) hx hb (fh_d d_Sh_put 32 rfl) (by decide) ?_
    refine lv_iadd hx hb (fh_d d_Sh_put 33 rfl) ?_
    refine lv_iload hx hb (fh_d d_Sh_put 34 rfl) (lv_at hl 6 rfl) ?_
    refine fn_iast (f := upd (upd (upd F (p0 * 6) pk) (p0 * 6 + 1) pq) (p0 * 6 + 2) px) (k := p0 * 6 + 3) hx hb hK hP hS 0 ((mkR_g (by omega) (by omega) (by omega)).trans mkG_fa) rfl (by rw [show (nI p0) * 6 = nI (p0 * 6) from pk_mul p0 6]; exact nI_add _ 3) (by omega) (by decide) (fh_d d_Sh_put 35 rfl) (fun H locs hP hS => ?_)
    replace hP := fh_P.eq (h' := mkR x kA aA (mkG ct x g cnt (upd (upd (upd (upd F (p0 * 6) pk) (p0 * 6 + 1) pq) (p0 * 6 + 2) px) (p0 * 6 + 3) py) W0 H0 D0 rows cols) nc lc tx len at_ C R CL RL) hP ((mkR_up (by omega) (by omega) (by omega)).trans (congrArg (fun z => mkR x kA aA z nc lc tx len at_ C R CL RL) mkG_ufa))
    refine lv_aload_n hx hb (fh_d d_Sh_put 36 rfl) rfl (lv_at hl 1 rfl) ?_
    refine fh_get (own := "FormulaSetter$Sheet") (ref := "FormulaSetter$Sheet") (C := "FormulaSetter$Sheet") (T := T_Sh) (N := 2) (v := .ref (x + 228)) hx hb hT i_Sh hown hK hP ((mkR_g (by omega) (by omega) (by omega)).trans mkG_sh) rfl 0 (by decide) (hT _ w214) (fun _ h9 => h9) rfl (fh_d d_Sh_put 37 rfl) ?_
    refine lv_iload hx hb (fh_d d_Sh_put 38 rfl) (lv_at hl 0 rfl) ?_
    refine lv_iconst (v := 4) hx hb (fh_d d_Sh_put 39 rfl) (by decide) ?_
    refine lv_iadd hx hb (fh_d d_Sh_put 40 rfl) ?_
    refine lv_iload hx hb (fh_d d_Sh_put 41 rfl) (lv_at hl 7 rfl) ?_
    refine fn_iast (f := upd (upd (upd (upd F (p0 * 6) pk) (p0 * 6 + 1) pq) (p0 * 6 + 2) px) (p0 * 6 + 3) py) (k := p0 * 6 + 4) hx hb hK hP hS 0 ((mkR_g (by omega) (by omega) (by omega)).trans mkG_fa) rfl (by rw [show (nI p0) * 6 = nI (p0 * 6) from pk_mul p0 6]; exact nI_add _ 4) (by omega) (by decide) (fh_d d_Sh_put 42 rfl) (fun H locs hP hS => ?_)
    replace hP := fh_P.eq (h' := mkR x kA aA (mkG ct x g cnt (upd (upd (upd (upd (upd F (p0 * 6) pk) (p0 * 6 + 1) pq) (p0 * 6 + 2) px) (p0 * 6 + 3) py) (p0 * 6 + 4) ps) W0 H0 D0 rows cols) nc lc tx len at_ C R CL RL) hP ((mkR_up (by omega) (by omega) (by omega)).trans (congrArg (fun z => mkR x kA aA z nc lc tx len at_ C R CL RL) mkG_ufa))
    refine lv_aload_n hx hb (fh_d d_Sh_put 43 rfl) rfl (lv_at hl 1 rfl) ?_
    refine fh_get (own := "FormulaSetter$Sheet") (ref := "FormulaSetter$Sheet") (C := "FormulaSetter$Sheet") (T := T_Sh) (N := 2) (v := .ref (x + 228)) hx hb hT i_Sh hown hK hP ((mkR_g (by omega) (by omega) (by omega)).trans mkG_sh) rfl 0 (by decide) (hT _ w214) (fun _ h9 => h9) rfl (fh_d d_Sh_put 44 rfl) ?_
    refine lv_iload hx hb (fh_d d_Sh_put 45 rfl) (lv_at hl 0 rfl) ?_
    refine lv_iconst (v := 5) hx hb (fh_d d_Sh_put 46 rfl) (by decide) ?_
    refine lv_iadd hx hb (fh_d d_Sh_put 47 rfl) ?_
    refine lv_iload hx hb (fh_d d_Sh_put 48 rfl) (lv_at hl 8 rfl) ?_
    refine fn_iast (f := upd (upd (upd (upd (upd F (p0 * 6) pk) (p0 * 6 + 1) pq) (p0 * 6 + 2) px) (p0 * 6 + 3) py) (p0 * 6 + 4) ps) (k := p0 * 6 + 5) hx hb hK hP hS 0 ((mkR_g (by omega) (by omega) (by omega)).trans mkG_fa) rfl (by rw [show (nI p0) * 6 = nI (p0 * 6) from pk_mul p0 6]; exact nI_add _ 5) (by omega) (by decide) (fh_d d_Sh_put 49 rfl) (fun H locs hP hS => ?_)
    replace hP := fh_P.eq (h' := mkR x kA aA (mkG ct x g cnt (upd (upd (upd (upd (upd (upd F (p0 * 6) pk) (p0 * 6 + 1) pq) (p0 * 6 + 2) px) (p0 * 6 + 3) py) (p0 * 6 + 4) ps) (p0 * 6 + 5) pw) W0 H0 D0 rows cols) nc lc tx len at_ C R CL RL) hP ((mkR_up (by omega) (by omega) (by omega)).trans (congrArg (fun z => mkR x kA aA z nc lc tx len at_ C R CL RL) mkG_ufa))
    exact fh_vret X hP hS (fh_d d_Sh_put 50 rfl) ⟨rfl, by unfold putF; rw [if_pos q], rfl⟩
  · have q : ¬ p0 < 120 := fun z => c2 ((nI_ltI (a := p0) (b := 120) (by omega) (by decide)).mpr z)
    exact fh_vret X hP hS (fh_d d_Sh_put 5 rfl) ⟨rfl, by unfold putF; rw [if_neg q], rfl⟩
