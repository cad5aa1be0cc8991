/-! Sheet.move on nuclei and lines. Printed by wip/whole/gen/p61.py -/
/-- pieces a to before e moved -/
def mvF (F : Nat → Int32) (a e : Nat) (r u : Int32) : Nat → Int32 := fun q => if a ≤ q / 6 ∧ q / 6 < e then (if q % 6 = 2 then F q + r else if q % 6 = 3 then F q + u else F q) else F q
theorem mv_0 (F : Nat → Int32) (a : Nat) (r u : Int32) : mvF F a a r u = F := by
  funext q
  unfold mvF
  rw [if_neg (by omega)]
theorem mv_s (F : Nat → Int32) (a k : Nat) (r u : Int32) (h : a ≤ k) : upd (upd (mvF F a k r u) (k * 6 + 2) (mvF F a k r u (k * 6 + 2) + r)) (k * 6 + 3) (upd (mvF F a k r u) (k * 6 + 2) (mvF F a k r u (k * 6 + 2) + r) (k * 6 + 3) + u) = mvF F a (k + 1) r u := by
  funext q
  by_cases h3 : q = k * 6 + 3
  · subst h3
    unfold upd mvF
    rw [if_pos rfl, if_neg (by omega), if_neg (by omega), if_pos (by omega), if_neg (by omega), if_pos (by omega)]
  · by_cases h2 : q = k * 6 + 2
    · subst h2
      unfold upd mvF
      rw [if_neg (by omega), if_pos rfl, if_neg (by omega), if_pos (by omega), if_pos (by omega)]
    · have e1 : upd (upd (mvF F a k r u) (k * 6 + 2) (mvF F a k r u (k * 6 + 2) + r)) (k * 6 + 3) (upd (mvF F a k r u) (k * 6 + 2) (mvF F a k r u (k * 6 + 2) + r) (k * 6 + 3) + u) q = mvF F a k r u q := by
        unfold upd
        rw [if_neg h3, if_neg h2]
      rw [e1]
      unfold mvF
      by_cases g : a ≤ q / 6 ∧ q / 6 < k
      · rw [if_pos g, if_pos (show a ≤ q / 6 ∧ q / 6 < k + 1 by omega)]
      · rw [if_neg g]
        by_cases g2 : a ≤ q / 6 ∧ q / 6 < k + 1
        · rw [if_pos g2, if_neg (by omega), if_neg (by omega)]
        · rw [if_neg g2]
set_option maxHeartbeats 4000000 in
set_option maxRecDepth 100000 in
theorem m_Sh_moveNu (l : Launch) (D : va_G) (ct : Nat → ClassId) (b : Nat) (RO : State → Prop) (r : Nat) (hr : 1 ≤ r) (n x : Nat) (kA aA : Nat → Nat) (g : fh_H) (cnt : Int32) (F W0 H0 D0 : Nat → Int32) (rows cols : Int32) (nc lc : Int32) (tx : Value) (len at_ : Int32) (C : Nat → Nat → Int32) (R : Nat → Nat → Option Nat) (CL : Nat → Nat → Int32) (RL : Nat → Nat → Option Nat) (i : Nat) (hi : i < 60) (a0 e0 : Nat) (hae : a0 ≤ e0) (he0 : e0 ≤ 120) (hfr : C i 3 = nI a0) (hen : C i 4 = nI e0) (rt up : Int32) : fh_C l D fh_cl (fh_tys ct) b RO y_Sh_move (Cond.code y_Sh_move c_Sh_move 5 (Option.none : Option FieldType) :: fh_T) (fh_rm r 0 0) [.ref (x + 227), .ref (x + 4 + i), .int rt, .int up] (mkR x kA aA (mkG ct x g cnt F W0 H0 D0 rows cols) nc lc tx len at_ C R CL RL) n (fun v h' n' => v = none ∧ h' = mkR x kA aA (mkG ct x g cnt (mvF F a0 e0 rt up) W0 H0 D0 rows cols) nc lc tx len at_ C R CL RL ∧ n' = n) 0 0 := by
  refine fh_enter (by decide) (Nat.le_of_ble_eq_true rfl) [(0, .ref (x + 227)), (1, .ref (x + 4 + i)), (2, .int rt), (3, .int up)] rfl ?_
  intro p e s m args below meth c H ls X hP hS hl
  have hx := X.1
  have hb := X.2.1
  have hml := X.2.2.1
  have hown : s.vm.findClass "FormulaSetter$Sheet" = some m.cls := X.2.2.2.1
  have hT := X.2.2.2.2.1
  have hK := X.2.2.2.2.2.1
  have hRO := X.2.2.2.2.2.2.1
  have hnm : meth.name = "move" := X.2.2.2.2.2.2.2.2.2.2
  have loop : ∀ (t k : Nat), e0 - k = t → a0 ≤ k → k ≤ e0 → ∀ (H : Heap) (locs : List Loc) (ls : Array Slot), fh_P D fh_cl b (mkR x kA aA (mkG ct x g cnt (mvF F a0 k rt up) W0 H0 D0 rows cols) nc lc tx len at_ C R CL RL) n H → va_S (fh_A b) s.heap H locs → lv_has ls 5 [(4, .int (nI k)), (0, .ref (x + 227)), (1, .ref (x + 4 + i)), (2, .int rt), (3, .int up)] → W p l e (fh_rm r 0 0) s m args below meth c H locs 0 0 (MQ below (fh_Post D fh_cl b (fun v h' n' => v = none ∧ h' = mkR x kA aA (mkG ct x g cnt (mvF F a0 e0 rt up) W0 H0 D0 rows cols) nc lc tx len at_ C R CL RL ∧ n' = n)) args s 0 0 (fh_A b)) (F0 m 10 ls []) := by
    intro t
    induction t with
    | zero =>
      intro k hkt hak hke H locs ls hP hS hl
      refine lv_iload hx hb (fh_d d_Sh_move 5 rfl) (lv_at hl 0 rfl) ?_
      refine lv_aload_n hx hb (fh_d d_Sh_move 6 rfl) rfl (lv_at hl 2 rfl) ?_
      refine fh_get (own := "FormulaSetter$Sheet") (ref := "FormulaSetter$Box") (C := "FormulaSetter$Nucleus") (T := T_Nu) (N := 15) (v := .int (nI e0)) hx hb hT i_Nu hown hK hP (mkR_nu (hi)) rfl 4 (by decide) (hT _ w113) (fun _ h9 => h9) (by show some (Value.int (C i 4)) = _; rw [hen]) (fh_d d_Sh_move 7 rfl) ?_
      refine lv_icmp_ge (tgt := 64) hx hb (fh_d d_Sh_move 8 rfl) rfl (fun c1 => ?_) (fun c1 => absurd c1 (fun c9 => c1 ((nI_leI (a := e0) (b := k) (by omega) (by omega)).mpr (by omega))))
      exact fh_vret X hP hS (fh_d d_Sh_move 38 rfl) ⟨rfl, by rw [show k = e0 by omega], rfl⟩
    | succ t ih =>
      intro k hkt hak hke H locs ls hP hS hl
      refine lv_iload hx hb (fh_d d_Sh_move 5 rfl) (lv_at hl 0 rfl) ?_
      refine lv_aload_n hx hb (fh_d d_Sh_move 6 rfl) rfl (lv_at hl 2 rfl) ?_
      refine fh_get (own := "FormulaSetter$Sheet") (ref := "FormulaSetter$Box") (C := "FormulaSetter$Nucleus") (T := T_Nu) (N := 15) (v := .int (nI e0)) hx hb hT i_Nu hown hK hP (mkR_nu (hi)) rfl 4 (by decide) (hT _ w113) (fun _ h9 => h9) (by show some (Value.int (C i 4)) = _; rw [hen]) (fh_d d_Sh_move 7 rfl) ?_
      refine lv_icmp_ge (tgt := 64) hx hb (fh_d d_Sh_move 8 rfl) rfl (fun c2 => absurd c2 (fun c9 => absurd ((nI_leI (a := e0) (b := k) (by omega) (by omega)).mp c9) (by omega))) (fun c2 => ?_)
      refine lv_iload hx hb (fh_d d_Sh_move 9 rfl) (lv_at hl 0 rfl) ?_
      refine lv_bipush (v := 120) hx hb (fh_d d_Sh_move 10 rfl) (by decide) ?_
      refine lv_icmp_ge (tgt := 64) hx hb (fh_d d_Sh_move 11 rfl) rfl (fun c3 => absurd c3 (fun c9 => absurd ((nI_leI (a := 120) (b := k) (by decide) (by omega)).mp c9) (by omega))) (fun c3 => ?_)
      refine lv_aload_n hx hb (fh_d d_Sh_move 12 rfl) rfl (lv_at hl 1 rfl) ?_
      refine fh_get (own := "FormulaSetter$Sheet") (ref := "FormulaSetter$Sheet") (C := "FormulaSetter$Sheet") (T := T_Sh) (N := 2) (v := .ref (x + 228)) hx hb hT i_Sh hown hK hP ((mkR_g (by omega) (by omega) (by omega)).trans mkG_sh) rfl 0 (by decide) (hT _ w214) (fun _ h9 => h9) rfl (fh_d d_Sh_move 13 rfl) ?_
      refine lv_iload hx hb (fh_d d_Sh_move 14 rfl) (lv_at hl 0 rfl) ?_
      refine lv_bipush (v := 6) hx hb (fh_d d_Sh_move 15 rfl) (by decide) ?_
      refine lv_imul hx hb (fh_d d_Sh_move 16 rfl) ?_
      refine lv_iconst (v := 2) hx hb (fh_d d_Sh_move 17 rfl) (by decide) ?_
      refine lv_iadd hx hb (fh_d d_Sh_move 18 rfl) ?_
      refine lv_dup2_11 hx hb (fh_d d_Sh_move 19 rfl) rfl rfl ?_
      refine fn_iald (f := mvF F a0 k rt up) (k := k * 6 + 2) hx hb hK hP 0 ((mkR_g (by omega) (by omega) (by omega)).trans mkG_fa) rfl (by rw [show (nI k) * 6 = nI (k * 6) from pk_mul k 6]; exact nI_add _ 2) (by omega) (by decide) (fh_d d_Sh_move 20 rfl) ?_
      refine lv_iload_n hx hb (fh_d d_Sh_move 21 rfl) rfl (lv_at hl 3 rfl) ?_
      refine lv_iadd hx hb (fh_d d_Sh_move 22 rfl) ?_
      refine fn_iast (f := mvF F a0 k rt up) (k := k * 6 + 2) hx hb hK hP hS 0 ((mkR_g (by omega) (by omega) (by omega)).trans mkG_fa) rfl (by rw [show (nI k) * 6 = nI (k * 6) from pk_mul k 6]; exact nI_add _ 2) (by omega) (by decide) (fh_d d_Sh_move 23 rfl) (fun H locs hP hS => ?_)
      replace hP := fh_P.eq (h' := mkR x kA aA (mkG ct x g cnt (upd (mvF F a0 k rt up) (k * 6 + 2) (((mvF F a0 k rt up) (k * 6 + 2)) + rt)) W0 H0 D0 rows cols) nc lc tx len at_ C R CL RL) hP ((mkR_up (by omega) (by omega) (by omega)).trans (congrArg (fun z => mkR x kA aA z nc lc tx len at_ C R CL RL) mkG_ufa))
      refine lv_aload_n hx hb (fh_d d_Sh_move 24 rfl) rfl (lv_at hl 1 rfl) ?_
      refine fh_get (own := "FormulaSetter$Sheet") (ref := "FormulaSetter$Sheet") (C := "FormulaSetter$Sheet") (T := T_Sh) (N := 2) (v := .ref (x + 228)) hx hb hT i_Sh hown hK hP ((mkR_g (by omega) (by omega) (by omega)).trans mkG_sh) rfl 0 (by decide) (hT _ w214) (fun _ h9 => h9) rfl (fh_d d_Sh_move 25 rfl) ?_
      refine lv_iload hx hb (fh_d d_Sh_move 26 rfl) (lv_at hl 0 rfl) ?_
      refine lv_bipush (v := 6) hx hb (fh_d d_Sh_move 27 rfl) (by decide) ?_
      refine lv_imul hx hb (fh_d d_Sh_move 28 rfl) ?_
      refine lv_iconst (v := 3) hx hb (fh_d d_Sh_move 29 rfl) (by decide) ?_
      refine lv_iadd hx hb (fh_d d_Sh_move 30 rfl) ?_
      refine lv_dup2_11 hx hb (fh_d d_Sh_move 31 rfl) rfl rfl ?_
      refine fn_iald (f := upd (mvF F a0 k rt up) (k * 6 + 2) (((mvF F a0 k rt up) (k * 6 + 2)) + rt)) (k := k * 6 + 3) hx hb hK hP 0 ((mkR_g (by omega) (by omega) (by omega)).trans mkG_fa) rfl (by rw [show (nI k) * 6 = nI (k * 6) from pk_mul k 6]; exact nI_add _ 3) (by omega) (by decide) (fh_d d_Sh_move 32 rfl) ?_
      refine lv_iload_n hx hb (fh_d d_Sh_move 33 rfl) rfl (lv_at hl 4 rfl) ?_
      refine lv_iadd hx hb (fh_d d_Sh_move 34 rfl) ?_
      refine fn_iast (f := upd (mvF F a0 k rt up) (k * 6 + 2) (((mvF F a0 k rt up) (k * 6 + 2)) + rt)) (k := k * 6 + 3) hx hb hK hP hS 0 ((mkR_g (by omega) (by omega) (by omega)).trans mkG_fa) rfl (by rw [show (nI k) * 6 = nI (k * 6) from pk_mul k 6]; exact nI_add _ 3) (by omega) (by decide) (fh_d d_Sh_move 35 rfl) (fun H locs hP hS => ?_)
      replace hP := fh_P.eq (h' := mkR x kA aA (mkG ct x g cnt (upd (upd (mvF F a0 k rt up) (k * 6 + 2) (((mvF F a0 k rt up) (k * 6 + 2)) + rt)) (k * 6 + 3) (((upd (mvF F a0 k rt up) (k * 6 + 2) (((mvF F a0 k rt up) (k * 6 + 2)) + rt)) (k * 6 + 3)) + up)) W0 H0 D0 rows cols) nc lc tx len at_ C R CL RL) hP ((mkR_up (by omega) (by omega) (by omega)).trans (congrArg (fun z => mkR x kA aA z nc lc tx len at_ C R CL RL) mkG_ufa))
      refine lv_iinc (k := 0) (v := (nI k) + 1) (lv' := [(4, .int ((nI k) + 1)), (0, .ref (x + 227)), (1, .ref (x + 4 + i)), (2, .int rt), (3, .int up)]) hx hb (fh_d d_Sh_move 36 rfl) hl rfl (by rfl) (by decide) rfl (fun ls hl => ?_)
      refine lv_goto (tgt := 10) hx hb (fh_d d_Sh_move 37 rfl) rfl ?_
      rw [mv_s F a0 k rt up hak] at hP
      rw [nI_1] at hl
      exact ih (k + 1) (by omega) (by omega) (by omega) H _ _ hP hS hl
  refine lv_aload_n hx hb (fh_d d_Sh_move 0 rfl) rfl (lv_at hl 1 rfl) ?_
  refine fh_get (own := "FormulaSetter$Sheet") (ref := "FormulaSetter$Box") (C := "FormulaSetter$Nucleus") (T := T_Nu) (N := 15) (v := .int (nI a0)) hx hb hT i_Nu hown hK hP (mkR_nu (hi)) rfl 3 (by decide) (hT _ w106) (fun _ h9 => h9) (by show some (Value.int (C i 3)) = _; rw [hfr]) (fh_d d_Sh_move 1 rfl) ?_
  refine lv_iconst (v := 0) hx hb (fh_d d_Sh_move 2 rfl) (by decide) ?_
  refine va_mmax hx hb (hml.trans hl.1.symm) hown (hT _ w724) (hT _ w431) (hT _ w14) (hT _ w432) (by show 1 ≤ r; omega) (by show _ ≤ 60 * r; simp [Value.category]; omega) (Nat.le_refl _) (Nat.le_refl _) (fh_d d_Sh_move 3 rfl) ?_
  rw [if_neg (nI_pos (n := a0) (by omega))]
  refine lv_istore (lv' := [(4, .int (nI a0)), (0, .ref (x + 227)), (1, .ref (x + 4 + i)), (2, .int rt), (3, .int up)]) hx hb (fh_d d_Sh_move 4 rfl) hl (by decide) rfl (fun ls hl => ?_)
  exact loop _ a0 rfl (Nat.le_refl _) hae H _ _ (by rw [mv_0]; exact hP) hS hl

set_option maxHeartbeats 4000000 in
set_option maxRecDepth 100000 in
theorem m_Sh_moveLi (l : Launch) (D : va_G) (ct : Nat → ClassId) (b : Nat) (RO : State → Prop) (r : Nat) (hr : 1 ≤ r) (n x : Nat) (kA aA : Nat → Nat) (g : fh_H) (cnt : Int32) (F W0 H0 D0 : Nat → Int32) (rows cols : Int32) (nc lc : Int32) (tx : Value) (len at_ : Int32) (C : Nat → Nat → Int32) (R : Nat → Nat → Option Nat) (CL : Nat → Nat → Int32) (RL : Nat → Nat → Option Nat) (i : Nat) (hi : i < 161) (a0 e0 : Nat) (hae : a0 ≤ e0) (he0 : e0 ≤ 120) (hfr : CL i 3 = nI a0) (hen : CL i 4 = nI e0) (rt up : Int32) : fh_C l D fh_cl (fh_tys ct) b RO y_Sh_move (Cond.code y_Sh_move c_Sh_move 5 (Option.none : Option FieldType) :: fh_T) (fh_rm r 0 0) [.ref (x + 227), .ref (x + 65 + i), .int rt, .int up] (mkR x kA aA (mkG ct x g cnt F W0 H0 D0 rows cols) nc lc tx len at_ C R CL RL) n (fun v h' n' => v = none ∧ h' = mkR x kA aA (mkG ct x g cnt (mvF F a0 e0 rt up) W0 H0 D0 rows cols) nc lc tx len at_ C R CL RL ∧ n' = n) 0 0 := by
  refine fh_enter (by decide) (Nat.le_of_ble_eq_true rfl) [(0, .ref (x + 227)), (1, .ref (x + 65 + i)), (2, .int rt), (3, .int up)] rfl ?_
  intro p e s m args below meth c H ls X hP hS hl
  have hx := X.1
  have hb := X.2.1
  have hml := X.2.2.1
  have hown : s.vm.findClass "FormulaSetter$Sheet" = some m.cls := X.2.2.2.1
  have hT := X.2.2.2.2.1
  have hK := X.2.2.2.2.2.1
  have hRO := X.2.2.2.2.2.2.1
  have hnm : meth.name = "move" := X.2.2.2.2.2.2.2.2.2.2
  have loop : ∀ (t k : Nat), e0 - k = t → a0 ≤ k → k ≤ e0 → ∀ (H : Heap) (locs : List Loc) (ls : Array Slot), fh_P D fh_cl b (mkR x kA aA (mkG ct x g cnt (mvF F a0 k rt up) W0 H0 D0 rows cols) nc lc tx len at_ C R CL RL) n H → va_S (fh_A b) s.heap H locs → lv_has ls 5 [(4, .int (nI k)), (0, .ref (x + 227)), (1, .ref (x + 65 + i)), (2, .int rt), (3, .int up)] → W p l e (fh_rm r 0 0) s m args below meth c H locs 0 0 (MQ below (fh_Post D fh_cl b (fun v h' n' => v = none ∧ h' = mkR x kA aA (mkG ct x g cnt (mvF F a0 e0 rt up) W0 H0 D0 rows cols) nc lc tx len at_ C R CL RL ∧ n' = n)) args s 0 0 (fh_A b)) (F0 m 10 ls []) := by
    intro t
    induction t with
    | zero =>
      intro k hkt hak hke H locs ls hP hS hl
      refine lv_iload hx hb (fh_d d_Sh_move 5 rfl) (lv_at hl 0 rfl) ?_
      refine lv_aload_n hx hb (fh_d d_Sh_move 6 rfl) rfl (lv_at hl 2 rfl) ?_
      refine fh_get (own := "FormulaSetter$Sheet") (ref := "FormulaSetter$Box") (C := "FormulaSetter$Line") (T := T_Li) (N := 9) (v := .int (nI e0)) hx hb hT i_Li hown hK hP (mkR_li (hi)) rfl 4 (by decide) (hT _ w113) (fun _ h9 => h9) (by show some (Value.int (CL i 4)) = _; rw [hen]) (fh_d d_Sh_move 7 rfl) ?_
      refine lv_icmp_ge (tgt := 64) hx hb (fh_d d_Sh_move 8 rfl) rfl (fun c1 => ?_) (fun c1 => absurd c1 (fun c9 => c1 ((nI_leI (a := e0) (b := k) (by omega) (by omega)).mpr (by omega))))
      exact fh_vret X hP hS (fh_d d_Sh_move 38 rfl) ⟨rfl, by rw [show k = e0 by omega], rfl⟩
    | succ t ih =>
      intro k hkt hak hke H locs ls hP hS hl
      refine lv_iload hx hb (fh_d d_Sh_move 5 rfl) (lv_at hl 0 rfl) ?_
      refine lv_aload_n hx hb (fh_d d_Sh_move 6 rfl) rfl (lv_at hl 2 rfl) ?_
      refine fh_get (own := "FormulaSetter$Sheet") (ref := "FormulaSetter$Box") (C := "FormulaSetter$Line") (T := T_Li) (N := 9) (v := .int (nI e0)) hx hb hT i_Li hown hK hP (mkR_li (hi)) rfl 4 (by decide) (hT _ w113) (fun _ h9 => h9) (by show some (Value.int (CL i 4)) = _; rw [hen]) (fh_d d_Sh_move 7 rfl) ?_
      refine lv_icmp_ge (tgt := 64) hx hb (fh_d d_Sh_move 8 rfl) rfl (fun c2 => absurd c2 (fun c9 => absurd ((nI_leI (a := e0) (b := k) (by omega) (by omega)).mp c9) (by omega))) (fun c2 => ?_)
      refine lv_iload hx hb (fh_d d_Sh_move 9 rfl) (lv_at hl 0 rfl) ?_
      refine lv_bipush (v := 120) hx hb (fh_d d_Sh_move 10 rfl) (by decide) ?_
      refine lv_icmp_ge (tgt := 64) hx hb (fh_d d_Sh_move 11 rfl) rfl (fun c3 => absurd c3 (fun c9 => absurd ((nI_leI (a := 120) (b := k) (by decide) (by omega)).mp c9) (by omega))) (fun c3 => ?_)
      refine lv_aload_n hx hb (fh_d d_Sh_move 12 rfl) rfl (lv_at hl 1 rfl) ?_
      refine fh_get (own := "FormulaSetter$Sheet") (ref := "FormulaSetter$Sheet") (C := "FormulaSetter$Sheet") (T := T_Sh) (N := 2) (v := .ref (x + 228)) hx hb hT i_Sh hown hK hP ((mkR_g (by omega) (by omega) (by omega)).trans mkG_sh) rfl 0 (by decide) (hT _ w214) (fun _ h9 => h9) rfl (fh_d d_Sh_move 13 rfl) ?_
      refine lv_iload hx hb (fh_d d_Sh_move 14 rfl) (lv_at hl 0 rfl) ?_
      refine lv_bipush (v := 6) hx hb (fh_d d_Sh_move 15 rfl) (by decide) ?_
      refine lv_imul hx hb (fh_d d_Sh_move 16 rfl) ?_
      refine lv_iconst (v := 2) hx hb (fh_d d_Sh_move 17 rfl) (by decide) ?_
      refine lv_iadd hx hb (fh_d d_Sh_move 18 rfl) ?_
      refine lv_dup2_11 hx hb (fh_d d_Sh_move 19 rfl) rfl rfl ?_
      refine fn_iald (f := mvF F a0 k rt up) (k := k * 6 + 2) hx hb hK hP 0 ((mkR_g (by omega) (by omega) (by omega)).trans mkG_fa) rfl (by rw [show (nI k) * 6 = nI (k * 6) from pk_mul k 6]; exact nI_add _ 2) (by omega) (by decide) (fh_d d_Sh_move 20 rfl) ?_
      refine lv_iload_n hx hb (fh_d d_Sh_move 21 rfl) rfl (lv_at hl 3 rfl) ?_
      refine lv_iadd hx hb (fh_d d_Sh_move 22 rfl) ?_
      refine fn_iast (f := mvF F a0 k rt up) (k := k * 6 + 2) hx hb hK hP hS 0 ((mkR_g (by omega) (by omega) (by omega)).trans mkG_fa) rfl (by rw [show (nI k) * 6 = nI (k * 6) from pk_mul k 6]; exact nI_add _ 2) (by omega) (by decide) (fh_d d_Sh_move 23 rfl) (fun H locs hP hS => ?_)
      replace hP := fh_P.eq (h' := mkR x kA aA (mkG ct x g cnt (upd (mvF F a0 k rt up) (k * 6 + 2) (((mvF F a0 k rt up) (k * 6 + 2)) + rt)) W0 H0 D0 rows cols) nc lc tx len at_ C R CL RL) hP ((mkR_up (by omega) (by omega) (by omega)).trans (congrArg (fun z => mkR x kA aA z nc lc tx len at_ C R CL RL) mkG_ufa))
      refine lv_aload_n hx hb (fh_d d_Sh_move 24 rfl) rfl (lv_at hl 1 rfl) ?_
      refine fh_get (own := "FormulaSetter$Sheet") (ref := "FormulaSetter$Sheet") (C := "FormulaSetter$Sheet") (T := T_Sh) (N := 2) (v := .ref (x + 228)) hx hb hT i_Sh hown hK hP ((mkR_g (by omega) (by omega) (by omega)).trans mkG_sh) rfl 0 (by decide) (hT _ w214) (fun _ h9 => h9) rfl (fh_d d_Sh_move 25 rfl) ?_
      refine lv_iload hx hb (fh_d d_Sh_move 26 rfl) (lv_at hl 0 rfl) ?_
      refine lv_bipush (v := 6) hx hb (fh_d d_Sh_move 27 rfl) (by decide) ?_
      refine lv_imul hx hb (fh_d d_Sh_move 28 rfl) ?_
      refine lv_iconst (v := 3) hx hb (fh_d d_Sh_move 29 rfl) (by decide) ?_
      refine lv_iadd hx hb (fh_d d_Sh_move 30 rfl) ?_
      refine lv_dup2_11 hx hb (fh_d d_Sh_move 31 rfl) rfl rfl ?_
      refine fn_iald (f := upd (mvF F a0 k rt up) (k * 6 + 2) (((mvF F a0 k rt up) (k * 6 + 2)) + rt)) (k := k * 6 + 3) hx hb hK hP 0 ((mkR_g (by omega) (by omega) (by omega)).trans mkG_fa) rfl (by rw [show (nI k) * 6 = nI (k * 6) from pk_mul k 6]; exact nI_add _ 3) (by omega) (by decide) (fh_d d_Sh_move 32 rfl) ?_
      refine lv_iload_n hx hb (fh_d d_Sh_move 33 rfl) rfl (lv_at hl 4 rfl) ?_
      refine lv_iadd hx hb (fh_d d_Sh_move 34 rfl) ?_
      refine fn_iast (f := upd (mvF F a0 k rt up) (k * 6 + 2) (((mvF F a0 k rt up) (k * 6 + 2)) + rt)) (k := k * 6 + 3) hx hb hK hP hS 0 ((mkR_g (by omega) (by omega) (by omega)).trans mkG_fa) rfl (by rw [show (nI k) * 6 = nI (k * 6) from pk_mul k 6]; exact nI_add _ 3) (by omega) (by decide) (fh_d d_Sh_move 35 rfl) (fun H locs hP hS => ?_)
      replace hP := fh_P.eq (h' := mkR x kA aA (mkG ct x g cnt (upd (upd (mvF F a0 k rt up) (k * 6 + 2) (((mvF F a0 k rt up) (k * 6 + 2)) + rt)) (k * 6 + 3) (((upd (mvF F a0 k rt up) (k * 6 + 2) (((mvF F a0 k rt up) (k * 6 + 2)) + rt)) (k * 6 + 3)) + up)) W0 H0 D0 rows cols) nc lc tx len at_ C R CL RL) hP ((mkR_up (by omega) (by omega) (by omega)).trans (congrArg (fun z => mkR x kA aA z nc lc tx len at_ C R CL RL) mkG_ufa))
      refine lv_iinc (k := 0) (v := (nI k) + 1) (lv' := [(4, .int ((nI k) + 1)), (0, .ref (x + 227)), (1, .ref (x + 65 + i)), (2, .int rt), (3, .int up)]) hx hb (fh_d d_Sh_move 36 rfl) hl rfl (by rfl) (by decide) rfl (fun ls hl => ?_)
      refine lv_goto (tgt := 10) hx hb (fh_d d_Sh_move 37 rfl) rfl ?_
      rw [mv_s F a0 k rt up hak] at hP
      rw [nI_1] at hl
      exact ih (k + 1) (by omega) (by omega) (by omega) H _ _ hP hS hl
  refine lv_aload_n hx hb (fh_d d_Sh_move 0 rfl) rfl (lv_at hl 1 rfl) ?_
  refine fh_get (own := "FormulaSetter$Sheet") (ref := "FormulaSetter$Box") (C := "FormulaSetter$Line") (T := T_Li) (N := 9) (v := .int (nI a0)) hx hb hT i_Li hown hK hP (mkR_li (hi)) rfl 3 (by decide) (hT _ w106) (fun _ h9 => h9) (by show some (Value.int (CL i 3)) = _; rw [hfr]) (fh_d d_Sh_move 1 rfl) ?_
  refine lv_iconst (v := 0) hx hb (fh_d d_Sh_move 2 rfl) (by decide) ?_
  refine va_mmax hx hb (hml.trans hl.1.symm) hown (hT _ w724) (hT _ w431) (hT _ w14) (hT _ w432) (by show 1 ≤ r; omega) (by show _ ≤ 60 * r; simp [Value.category]; omega) (Nat.le_refl _) (Nat.le_refl _) (fh_d d_Sh_move 3 rfl) ?_
  rw [if_neg (nI_pos (n := a0) (by omega))]
  refine lv_istore (lv' := [(4, .int (nI a0)), (0, .ref (x + 227)), (1, .ref (x + 65 + i)), (2, .int rt), (3, .int up)]) hx hb (fh_d d_Sh_move 4 rfl) hl (by decide) rfl (fun ls hl => ?_)
  exact loop _ a0 rfl (Nat.le_refl _) hae H _ _ (by rw [mv_0]; exact hP) hS hl
