/-! Sheet.move on any box; signs. Printed by wip/whole/gen/p83.py -/
/-- a number of pieces -/
abbrev okv (v : Int32) : Prop := v = nI (ixI v) ∧ ixI v ≤ 120
theorem mv_n (F : Nat → Int32) (a e : Nat) (r u : Int32) (h : e < a) : mvF F a e r u = F := by
  funext q
  unfold mvF
  rw [if_neg (by omega)]
set_option maxHeartbeats 4000000 in
set_option maxRecDepth 100000 in
theorem m_Sh_mvNu (l : Launch) (D : va_G) (ct : Nat → ClassId) (b : Nat) (RO : State → Prop) (r : Nat) (hr : 1 ≤ r) (n x : Nat) (kA aA : Nat → Nat) (g : fh_H) (cnt : Int32) (F W0 H0 D0 : Nat → Int32) (rows cols : Int32) (nc lc : Int32) (tx : Value) (len at_ : Int32) (C : Nat → Nat → Int32) (R : Nat → Nat → Option Nat) (CL : Nat → Nat → Int32) (RL : Nat → Nat → Option Nat) (i : Nat) (hi : i < 60) (hok3 : okv (C i 3)) (hok4 : okv (C i 4)) (rt up : Int32) : fh_C l D fh_cl (fh_tys ct) b RO y_Sh_move (Cond.code y_Sh_move c_Sh_move 5 (Option.none : Option FieldType) :: fh_T) (fh_rm r 0 0) [.ref (x + 227), .ref (x + 4 + i), .int rt, .int up] (mkR x kA aA (mkG ct x g cnt F W0 H0 D0 rows cols) nc lc tx len at_ C R CL RL) n (fun v h' n' => v = none ∧ h' = mkR x kA aA (mkG ct x g cnt (mvF F (ixI (C i 3)) (ixI (C i 4)) rt up) W0 H0 D0 rows cols) nc lc tx len at_ C R CL RL ∧ n' = n) 0 0 := by
  by_cases hae : ixI (C i 3) ≤ ixI (C i 4)
  · exact m_Sh_moveNu l D ct b RO r hr n x kA aA g cnt F W0 H0 D0 rows cols nc lc tx len at_ C R CL RL i hi _ _ hae hok4.2 hok3.1 hok4.1 rt up
  obtain ⟨hfr, ha0⟩ := hok3
  obtain ⟨hen, he0⟩ := hok4
  rw [mv_n _ _ _ _ _ (Nat.not_le.mp hae)]
  obtain ⟨a0, ea0⟩ : ∃ a0, a0 = ixI (C i 3) := ⟨_, rfl⟩
  obtain ⟨e0, ee0⟩ : ∃ e0, e0 = ixI (C i 4) := ⟨_, rfl⟩
  rw [← ea0] at hfr hae ha0
  rw [← ee0] at hen hae he0
  refine fh_enter (by decide) (Nat.le_of_ble_eq_true rfl) [(0, .ref (x + 227)), (1, .ref (x + 4 + i)), (2, .int rt), (3, .int up)] rfl ?_
  intro p e s m args below meth c H ls X hP hS hl
  have hx := X.1
  have hb := X.2.1
  have hml := X.2.2.1
  have hown : s.vm.findClass "FormulaSetter$Sheet" = some m.cls := X.2.2.2.1
  have hT := X.2.2.2.2.1
  have hK := X.2.2.2.2.2.1
  have hRO := X.2.2.2.2.2.2.1
  have hnm : meth.name = "move" := X.2.2.2.2.2.2.2.2.2.2
  refine lv_aload_n hx hb (fh_d d_Sh_move 0 rfl) rfl (lv_at hl 1 rfl) ?_
  refine fh_get (own := "FormulaSetter$Sheet") (ref := "FormulaSetter$Box") (C := "FormulaSetter$Nucleus") (T := T_Nu) (N := 15) (v := .int (nI a0)) hx hb hT i_Nu hown hK hP (mkR_nu (hi)) rfl 3 (by decide) (hT _ w106) (fun _ h9 => h9) (by show some (Value.int (C i 3)) = _; rw [hfr]) (fh_d d_Sh_move 1 rfl) ?_
  refine lv_iconst (v := 0) hx hb (fh_d d_Sh_move 2 rfl) (by decide) ?_
  refine va_mmax hx hb (hml.trans hl.1.symm) hown (hT _ w724) (hT _ w431) (hT _ w14) (hT _ w432) (by show 1 ≤ r; omega) (by show _ ≤ 60 * r; simp [Value.category]; omega) (Nat.le_refl _) (Nat.le_refl _) (fh_d d_Sh_move 3 rfl) ?_
  rw [if_neg (nI_pos (n := a0) (by omega))]
  refine lv_istore (lv' := [(4, .int (nI a0)), (0, .ref (x + 227)), (1, .ref (x + 4 + i)), (2, .int rt), (3, .int up)]) hx hb (fh_d d_Sh_move 4 rfl) hl (by decide) rfl (fun ls hl => ?_)
  refine lv_iload hx hb (fh_d d_Sh_move 5 rfl) (lv_at hl 0 rfl) ?_
  refine lv_aload_n hx hb (fh_d d_Sh_move 6 rfl) rfl (lv_at hl 2 rfl) ?_
  refine fh_get (own := "FormulaSetter$Sheet") (ref := "FormulaSetter$Box") (C := "FormulaSetter$Nucleus") (T := T_Nu) (N := 15) (v := .int (nI e0)) hx hb hT i_Nu hown hK hP (mkR_nu (hi)) rfl 4 (by decide) (hT _ w113) (fun _ h9 => h9) (by show some (Value.int (C i 4)) = _; rw [hen]) (fh_d d_Sh_move 7 rfl) ?_
  refine lv_icmp_ge (tgt := 64) hx hb (fh_d d_Sh_move 8 rfl) rfl (fun c1 => ?_) (fun c1 => absurd c1 (fun c9 => c1 ((nI_leI (a := e0) (b := a0) (by omega) (by omega)).mpr (by omega))))
  exact fh_vret X hP hS (fh_d d_Sh_move 38 rfl) ⟨rfl, rfl, rfl⟩

set_option maxHeartbeats 4000000 in
set_option maxRecDepth 100000 in
theorem m_Sh_mvLi (l : Launch) (D : va_G) (ct : Nat → ClassId) (b : Nat) (RO : State → Prop) (r : Nat) (hr : 1 ≤ r) (n x : Nat) (kA aA : Nat → Nat) (g : fh_H) (cnt : Int32) (F W0 H0 D0 : Nat → Int32) (rows cols : Int32) (nc lc : Int32) (tx : Value) (len at_ : Int32) (C : Nat → Nat → Int32) (R : Nat → Nat → Option Nat) (CL : Nat → Nat → Int32) (RL : Nat → Nat → Option Nat) (i : Nat) (hi : i < 161) (hok3 : okv (CL i 3)) (hok4 : okv (CL i 4)) (rt up : Int32) : fh_C l D fh_cl (fh_tys ct) b RO y_Sh_move (Cond.code y_Sh_move c_Sh_move 5 (Option.none : Option FieldType) :: fh_T) (fh_rm r 0 0) [.ref (x + 227), .ref (x + 65 + i), .int rt, .int up] (mkR x kA aA (mkG ct x g cnt F W0 H0 D0 rows cols) nc lc tx len at_ C R CL RL) n (fun v h' n' => v = none ∧ h' = mkR x kA aA (mkG ct x g cnt (mvF F (ixI (CL i 3)) (ixI (CL i 4)) rt up) W0 H0 D0 rows cols) nc lc tx len at_ C R CL RL ∧ n' = n) 0 0 := by
  by_cases hae : ixI (CL i 3) ≤ ixI (CL i 4)
  · exact m_Sh_moveLi l D ct b RO r hr n x kA aA g cnt F W0 H0 D0 rows cols nc lc tx len at_ C R CL RL i hi _ _ hae hok4.2 hok3.1 hok4.1 rt up
  obtain ⟨hfr, ha0⟩ := hok3
  obtain ⟨hen, he0⟩ := hok4
  rw [mv_n _ _ _ _ _ (Nat.not_le.mp hae)]
  obtain ⟨a0, ea0⟩ : ∃ a0, a0 = ixI (CL i 3) := ⟨_, rfl⟩
  obtain ⟨e0, ee0⟩ : ∃ e0, e0 = ixI (CL i 4) := ⟨_, rfl⟩
  rw [← ea0] at hfr hae ha0
  rw [← ee0] at hen hae he0
  refine fh_enter (by decide) (Nat.le_of_ble_eq_true rfl) [(0, .ref (x + 227)), (1, .ref (x + 65 + i)), (2, .int rt), (3, .int up)] rfl ?_
  intro p e s m args below meth c H ls X hP hS hl
  have hx := X.1
  have hb := X.2.1
  have hml := X.2.2.1
  have hown : s.vm.findClass "FormulaSetter$Sheet" = some m.cls := X.2.2.2.1
  have hT := X.2.2.2.2.1
  have hK := X.2.2.2.2.2.1
  have hRO := X.2.2.2.2.2.2.1
  have hnm : meth.name = "move" := X.2.2.2.2.2.2.2.2.2.2
  refine lv_aload_n hx hb (fh_d d_Sh_move 0 rfl) rfl (lv_at hl 1 rfl) ?_
  refine fh_get (own := "FormulaSetter$Sheet") (ref := "FormulaSetter$Box") (C := "FormulaSetter$Line") (T := T_Li) (N := 9) (v := .int (nI a0)) hx hb hT i_Li hown hK hP (mkR_li (hi)) rfl 3 (by decide) (hT _ w106) (fun _ h9 => h9) (by show some (Value.int (CL i 3)) = _; rw [hfr]) (fh_d d_Sh_move 1 rfl) ?_
  refine lv_iconst (v := 0) hx hb (fh_d d_Sh_move 2 rfl) (by decide) ?_
  refine va_mmax hx hb (hml.trans hl.1.symm) hown (hT _ w724) (hT _ w431) (hT _ w14) (hT _ w432) (by show 1 ≤ r; omega) (by show _ ≤ 60 * r; simp [Value.category]; omega) (Nat.le_refl _) (Nat.le_refl _) (fh_d d_Sh_move 3 rfl) ?_
  rw [if_neg (nI_pos (n := a0) (by omega))]
  refine lv_istore (lv' := [(4, .int (nI a0)), (0, .ref (x + 227)), (1, .ref (x + 65 + i)), (2, .int rt), (3, .int up)]) hx hb (fh_d d_Sh_move 4 rfl) hl (by decide) rfl (fun ls hl => ?_)
  refine lv_iload hx hb (fh_d d_Sh_move 5 rfl) (lv_at hl 0 rfl) ?_
  refine lv_aload_n hx hb (fh_d d_Sh_move 6 rfl) rfl (lv_at hl 2 rfl) ?_
  refine fh_get (own := "FormulaSetter$Sheet") (ref := "FormulaSetter$Box") (C := "FormulaSetter$Line") (T := T_Li) (N := 9) (v := .int (nI e0)) hx hb hT i_Li hown hK hP (mkR_li (hi)) rfl 4 (by decide) (hT _ w113) (fun _ h9 => h9) (by show some (Value.int (CL i 4)) = _; rw [hen]) (fh_d d_Sh_move 7 rfl) ?_
  refine lv_icmp_ge (tgt := 64) hx hb (fh_d d_Sh_move 8 rfl) rfl (fun c1 => ?_) (fun c1 => absurd c1 (fun c9 => c1 ((nI_leI (a := e0) (b := a0) (by omega) (by omega)).mpr (by omega))))
  exact fh_vret X hP hS (fh_d d_Sh_move 38 rfl) ⟨rfl, rfl, rfl⟩

set_option maxHeartbeats 4000000 in
set_option maxRecDepth 100000 in
theorem m_Sh_putN (l : Launch) (D : va_G) (ct : Nat → ClassId) (b : Nat) (RO : State → Prop) (r : Nat) (n x : Nat) (kA aA : Nat → Nat) (g : fh_H) (cnt : Int32) (F W0 H0 D0 : Nat → Int32) (rows cols : Int32) (nc lc : Int32) (tx : Value) (len at_ : Int32) (C : Nat → Nat → Int32) (R : Nat → Nat → Option Nat) (CL : Nat → Nat → Int32) (RL : Nat → Nat → Option Nat) (pk pq px py ps pw : Int32) : fh_C l D fh_cl (fh_tys ct) b RO y_Sh_put (Cond.code y_Sh_put c_Sh_put 9 (Option.none : Option FieldType) :: fh_T) (fh_rm r 0 0) [.ref (x + 227), .int (-1000000), .int pk, .int pq, .int px, .int py, .int ps, .int pw] (mkR x kA aA (mkG ct x g cnt F W0 H0 D0 rows cols) nc lc tx len at_ C R CL RL) n (fun v h' n' => v = none ∧ h' = mkR x kA aA (mkG ct x g cnt F W0 H0 D0 rows cols) nc lc tx len at_ C R CL RL ∧ n' = n) 0 0 := by
  refine fh_enter (by decide) (Nat.le_of_ble_eq_true rfl) [(0, .ref (x + 227)), (1, .int (-1000000)), (2, .int pk), (3, .int pq), (4, .int px), (5, .int py), (6, .int ps), (7, .int pw)] rfl ?_
  intro p e s m args below meth c H ls X hP hS hl
  have hx := X.1
  have hb := X.2.1
  have hml := X.2.2.1
  have hown : s.vm.findClass "FormulaSetter$Sheet" = some m.cls := X.2.2.2.1
  have hT := X.2.2.2.2.1
  have hK := X.2.2.2.2.2.1
  have hRO := X.2.2.2.2.2.2.1
  have hnm : meth.name = "put" := X.2.2.2.2.2.2.2.2.2.2
  refine lv_iload_n hx hb (fh_d d_Sh_put 0 rfl) rfl (lv_at hl 1 rfl) ?_
  refine lv_if_lt (tgt := 10) hx hb (fh_d d_Sh_put 1 rfl) rfl (fun c1 => ?_) (fun c1 => absurd c1 (fun z => z (by decide)))
  exact fh_vret X hP hS (fh_d d_Sh_put 5 rfl) ⟨rfl, rfl, rfl⟩

def sgW (c s : Int32) : Int32 := s * (4 + (c - c / 5 * 5))
def sgH (c s : Int32) : Int32 := s * (5 + (c - c / 3 * 3))
def sgD (c s : Int32) : Int32 := if c - c / 4 * 4 = 1 then 2 * s else 0
set_option maxHeartbeats 4000000 in
set_option maxRecDepth 100000 in
theorem m_Ty_signWidth (l : Launch) (D : va_G) (ct : Nat → ClassId) (b : Nat) (RO : State → Prop) (r n : Nat) (cd sz : Int32) (h : fh_H) : fh_C l D fh_cl (fh_tys ct) b RO y_Ty_signWidth (Cond.code y_Ty_signWidth c_Ty_signWidth 2 (Option.some FieldType.int) :: fh_T) (fh_rm r 0 0) [.int cd, .int sz] h n (fun v h' n' => v = some (.int (sgW cd sz)) ∧ h' = h ∧ n' = n) 0 0 := by
  refine fh_enter (by decide) (Nat.le_of_ble_eq_true rfl) [(0, .int cd), (1, .int sz)] rfl ?_
  intro p e s m args below meth c H ls X hP hS hl
  have hx := X.1
  have hb := X.2.1
  have hml := X.2.2.1
  have hown : s.vm.findClass "FormulaSetter$Typesetter" = some m.cls := X.2.2.2.1
  have hT := X.2.2.2.2.1
  have hK := X.2.2.2.2.2.1
  have hRO := X.2.2.2.2.2.2.1
  have hnm : meth.name = "signWidth" := X.2.2.2.2.2.2.2.2.2.2
  refine lv_iload_n hx hb (fh_d d_Ty_signWidth 0 rfl) rfl (lv_at hl 1 rfl) ?_
  refine lv_iconst (v := 4) hx hb (fh_d d_Ty_signWidth 1 rfl) (by decide) ?_
  refine lv_iload_n hx hb (fh_d d_Ty_signWidth 2 rfl) rfl (lv_at hl 0 rfl) ?_
  refine lv_iconst (v := 5) hx hb (fh_d d_Ty_signWidth 3 rfl) (by decide) ?_
  refine lv_irem hx hb (fh_d d_Ty_signWidth 4 rfl) (by decide) ?_
  refine lv_iadd hx hb (fh_d d_Ty_signWidth 5 rfl) ?_
  refine lv_imul hx hb (fh_d d_Ty_signWidth 6 rfl) ?_
  exact fh_iret X hP hS (fh_d d_Ty_signWidth 7 rfl) ⟨rfl, rfl, rfl⟩

set_option maxHeartbeats 4000000 in
set_option maxRecDepth 100000 in
theorem m_Ty_signHeight (l : Launch) (D : va_G) (ct : Nat → ClassId) (b : Nat) (RO : State → Prop) (r n : Nat) (cd sz : Int32) (h : fh_H) : fh_C l D fh_cl (fh_tys ct) b RO y_Ty_signHeight (Cond.code y_Ty_signHeight c_Ty_signHeight 2 (Option.some FieldType.int) :: fh_T) (fh_rm r 0 0) [.int cd, .int sz] h n (fun v h' n' => v = some (.int (sgH cd sz)) ∧ h' = h ∧ n' = n) 0 0 := by
  refine fh_enter (by decide) (Nat.le_of_ble_eq_true rfl) [(0, .int cd), (1, .int sz)] rfl ?_
  intro p e s m args below meth c H ls X hP hS hl
  have hx := X.1
  have hb := X.2.1
  have hml := X.2.2.1
  have hown : s.vm.findClass "FormulaSetter$Typesetter" = some m.cls := X.2.2.2.1
  have hT := X.2.2.2.2.1
  have hK := X.2.2.2.2.2.1
  have hRO := X.2.2.2.2.2.2.1
  have hnm : meth.name = "signHeight" := X.2.2.2.2.2.2.2.2.2.2
  refine lv_iload_n hx hb (fh_d d_Ty_signHeight 0 rfl) rfl (lv_at hl 1 rfl) ?_
  refine lv_iconst (v := 5) hx hb (fh_d d_Ty_signHeight 1 rfl) (by decide) ?_
  refine lv_iload_n hx hb (fh_d d_Ty_signHeight 2 rfl) rfl (lv_at hl 0 rfl) ?_
  refine lv_iconst (v := 3) hx hb (fh_d d_Ty_signHeight 3 rfl) (by decide) ?_
  refine lv_irem hx hb (fh_d d_Ty_signHeight 4 rfl) (by decide) ?_
  refine lv_iadd hx hb (fh_d d_Ty_signHeight 5 rfl) ?_
  refine lv_imul hx hb (fh_d d_Ty_signHeight 6 rfl) ?_
  exact fh_iret X hP hS (fh_d d_Ty_signHeight 7 rfl) ⟨rfl, rfl, rfl⟩

set_option maxHeartbeats 4000000 in
set_option maxRecDepth 100000 in
theorem m_Ty_signDepth (l : Launch) (D : va_G) (ct : Nat → ClassId) (b : Nat) (RO : State → Prop) (r n : Nat) (cd sz : Int32) (h : fh_H) : fh_C l D fh_cl (fh_tys ct) b RO y_Ty_signDepth (Cond.code y_Ty_signDepth c_Ty_signDepth 2 (Option.some FieldType.int) :: fh_T) (fh_rm r 0 0) [.int cd, .int sz] h n (fun v h' n' => v = some (.int (sgD cd sz)) ∧ h' = h ∧ n' = n) 0 0 := by
  refine fh_enter (by decide) (Nat.le_of_ble_eq_true rfl) [(0, .int cd), (1, .int sz)] rfl ?_
  intro p e s m args below meth c H ls X hP hS hl
  have hx := X.1
  have hb := X.2.1
  have hml := X.2.2.1
  have hown : s.vm.findClass "FormulaSetter$Typesetter" = some m.cls := X.2.2.2.1
  have hT := X.2.2.2.2.1
  have hK := X.2.2.2.2.2.1
  have hRO := X.2.2.2.2.2.2.1
  have hnm : meth.name = "signDepth" := X.2.2.2.2.2.2.2.2.2.2
  refine lv_iload_n hx hb (fh_d d_Ty_signDepth 0 rfl) rfl (lv_at hl 0 rfl) ?_
  refine lv_iconst (v := 4) hx hb (fh_d d_Ty_signDepth 1 rfl) (by decide) ?_
  refine lv_irem hx hb (fh_d d_Ty_signDepth 2 rfl) (by decide) ?_
  refine lv_iconst (v := 1) hx hb (fh_d d_Ty_signDepth 3 rfl) (by decide) ?_
  refine lv_icmp_ne (tgt := 13) hx hb (fh_d d_Ty_signDepth 4 rfl) rfl (fun c1 => ?_) (fun c1 => ?_)
  · refine lv_iconst (v := 0) hx hb (fh_d d_Ty_signDepth 9 rfl) (by decide) ?_
    exact fh_iret X hP hS (fh_d d_Ty_signDepth 10 rfl) ⟨by unfold sgD; rw [if_neg c1], rfl, rfl⟩
  · refine lv_iconst (v := 2) hx hb (fh_d d_Ty_signDepth 5 rfl) (by decide) ?_
    refine lv_iload_n hx hb (fh_d d_Ty_signDepth 6 rfl) rfl (lv_at hl 1 rfl) ?_
    refine lv_imul hx hb (fh_d d_Ty_signDepth 7 rfl) ?_
    refine lv_goto (tgt := 14) hx hb (fh_d d_Ty_signDepth 8 rfl) rfl ?_
    exact fh_iret X hP hS (fh_d d_Ty_signDepth 10 rfl) ⟨by unfold sgD; rw [if_pos (c1)], rfl, rfl⟩
