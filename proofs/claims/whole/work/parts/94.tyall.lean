/-! Typesetter: the tree of parts, all depths; setAll. By hand; setAll printed by wip/whole/gen/p94.py -/
def wfN (R RL : Nat → Nat → Option Nat) : Nat → Nat → Prop
  | 0, _ => False
  | d + 1, i => okU R RL (wfN R RL d) (fun j => nxC R 14 (chX R 14 61 (RL j 5)) ∧ ∀ i ∈ chX R 14 61 (RL j 5), okI R (wfN R RL d) i) i
def wfL (R RL : Nat → Nat → Option Nat) (d j : Nat) : Prop := nxC R 14 (chX R 14 61 (RL j 5)) ∧ ∀ i ∈ chX R 14 61 (RL j 5), okI R (wfN R RL d) i
theorem chX_head (T : Nat → Nat → Option Nat) (q k : Nat) (o : Option Nat) : (chX T q (k + 1) o).head? = o := by cases o <;> rfl
theorem cS_all (l : Launch) (D : va_G) (ct : Nat → ClassId) (b : Nat) (RO : State → Prop) (hR : fh_R b RO) (sA sV : Nat → Nat) (hSt : ∀ U, RO U → ro_S b sA sV U) (kA aA yA : Nat → Nat) (tK tS tM : Nat) (hEn : ∀ U, RO U → ro_E b sA kA aA yA tK tS tM U) (hAd : ad_ok kA aA yA) (n x : Nat) (g : fh_H) (nc lc : Int32) (tx : Value) (len at_ : Int32) (R RL : Nat → Nat → Option Nat) : ∀ d : Nat, (cSN l D ct b RO kA aA yA n x g nc lc tx len at_ R RL (wfN R RL d) (6 + 4 * d) (sN R RL d) ∧ bSN 60 (wfN R RL d) (sN R RL d)) ∧ cSL l D ct b RO kA aA yA n x g nc lc tx len at_ R RL (wfL R RL d) (8 + 4 * d) (sL R RL d) ∧ bSN 161 (wfL R RL d) (sL R RL d) := by
  have line : ∀ d : Nat, (cSN l D ct b RO kA aA yA n x g nc lc tx len at_ R RL (wfN R RL d) (6 + 4 * d) (sN R RL d) ∧ bSN 60 (wfN R RL d) (sN R RL d)) → cSL l D ct b RO kA aA yA n x g nc lc tx len at_ R RL (wfL R RL d) (8 + 4 * d) (sL R RL d) ∧ bSN 161 (wfL R RL d) (sL R RL d) := by
    intro d h
    refine ⟨?_, ?_⟩
    · intro r hr t ht j si cr hj hok hsi hcr
      obtain ⟨c, F, W, H, D9, ro, co, C, CL⟩ := t
      exact m_Ty_setLine l D ct b RO hR sA sV hSt kA aA yA tK tS tM hEn hAd n x g c ht.1 F W H D9 ro co nc lc tx len at_ C R CL RL ht.2 (sN R RL d) (wfN R RL d) (6 + 4 * d) h.1 h.2 r (by omega) (by omega) j si cr hj hsi hcr (chX R 14 61 (RL j 5)) (chX_head R 14 60 (RL j 5)).symm hok.1 hok.2
    · intro t j si cr ht hj hok
      exact sLi_ok h.2 ht j si cr _ (fun i hi => by obtain ⟨h1, h2, -, -, h3, h4⟩ := hok.2 i hi; exact ⟨h1, h2, h3, h4⟩)
  intro d
  induction d with
  | zero => 
    have z : cSN l D ct b RO kA aA yA n x g nc lc tx len at_ R RL (wfN R RL 0) (6 + 4 * 0) (sN R RL 0) ∧ bSN 60 (wfN R RL 0) (sN R RL 0) := ⟨fun r hr t ht j si cr hj hok => hok.elim, fun t j si cr ht hj hok => hok.elim⟩
    exact ⟨z, line 0 z⟩
  | succ d ih =>
    have z : cSN l D ct b RO kA aA yA n x g nc lc tx len at_ R RL (wfN R RL (d + 1)) (6 + 4 * (d + 1)) (sN R RL (d + 1)) ∧ bSN 60 (wfN R RL (d + 1)) (sN R RL (d + 1)) := by
      refine ⟨?_, ?_⟩
      · intro r hr t ht i si cr hi hok hsi hcr
        obtain ⟨c, F, W, H, D9, ro, co, C, CL⟩ := t
        exact m_Ty_setNucleus l D ct b RO hR sA sV hSt kA aA yA tK tS tM hEn hAd n x g c ht.1 F W H D9 ro co nc lc tx len at_ C R CL RL ht.2 (sN R RL d) (sL R RL d) (wfN R RL d) (wfL R RL d) (8 + 4 * d) (fun r hr => ih.1.1 r (by omega)) ih.1.2 ih.2.1 ih.2.2 r (by omega) (by omega) i si cr hi hsi hcr hok
      · intro t i si cr ht hi hok
        exact sNu_ok ih.1.2 ih.2.2 ht i si cr hok
    exact ⟨z, line (d + 1) z⟩
set_option maxHeartbeats 4000000 in
set_option maxRecDepth 100000 in
theorem m_Ty_setAll (l : Launch) (D : va_G) (ct : Nat → ClassId) (b : Nat) (RO : State → Prop) (hR : fh_R b RO) (sA sV : Nat → Nat) (hSt : ∀ U, RO U → ro_S b sA sV U) (kA aA yA : Nat → Nat) (tK tS tM : Nat) (hEn : ∀ U, RO U → ro_E b sA kA aA yA tK tS tM U) (hAd : ad_ok kA aA yA)  (n x : Nat) (g : fh_H) (cnt : Int32) (F W0 H0 D0 : Nat → Int32) (rows cols : Int32) (nc lc : Int32) (tx : Value) (len at_ : Int32) (C : Nat → Nat → Int32) (R : Nat → Nat → Option Nat) (CL : Nat → Nat → Int32) (RL : Nat → Nat → Option Nat) (hokB : okB C CL) (d r : Nat) (hr : 12 + 4 * d ≤ r) (j si : Nat) (hj : j < 161) (hsi : si < 4) (hoj : wfL R RL d j) : fh_C l D fh_cl (fh_tys ct) b RO y_Ty_setAll (Cond.code y_Ty_setAll c_Ty_setAll 3 (Option.none : Option FieldType) :: fh_T) (fh_rm r 0 0) [.ref (x + 226), .ref (x + 65 + j), .ref (yA si)] (mkR x kA aA (mkG ct x g cnt F W0 H0 D0 rows cols) nc lc tx len at_ C R CL RL) n (fun v h' n' => v = none ∧ h' = hz ct x kA aA g nc lc tx len at_ R RL (sL R RL d (0, F, W0, H0, D0, rows, cols, C, CL) j si 0) ∧ n' = n) 0 0 := by
  refine fh_enter (by decide) (Nat.le_of_ble_eq_true rfl) [(0, .ref (x + 226)), (1, .ref (x + 65 + j)), (2, .ref (yA si))] rfl ?_
  intro p e s m args below meth c H ls X hP hS hl
  have hx := X.1
  have hb := X.2.1
  have hml := X.2.2.1
  have hown : s.vm.findClass "FormulaSetter$Typesetter" = some m.cls := X.2.2.2.1
  have hT := X.2.2.2.2.1
  have hK := X.2.2.2.2.2.1
  have hRO := X.2.2.2.2.2.2.1
  have hnm : meth.name = "setAll" := X.2.2.2.2.2.2.2.2.2.2
  refine lv_aload_n hx hb (fh_d d_Ty_setAll 0 rfl) rfl (lv_at hl 0 rfl) ?_
  refine fh_get (own := "FormulaSetter$Typesetter") (ref := "FormulaSetter$Typesetter") (C := "FormulaSetter$Typesetter") (T := T_Ty) (N := 2) (v := .ref (x + 227)) hx hb hT i_Ty hown hK hP ((mkR_g (by omega) (by omega) (by omega)).trans mkG_ts) rfl 0 (by decide) (hT _ w247) (fun _ h9 => h9) rfl (fh_d d_Ty_setAll 1 rfl) ?_
  refine fh_callV (cc' := c_Sh_clear) (nL' := 1) (rest := []) (a := x + 227) (As := []) X hR (m_Sh_clear l D ct b RO (r - 1) n x kA aA g cnt F W0 H0 D0 rows cols nc lc tx len at_ C R CL RL) w645 w642 w643 w644 w7 ⟨by decide, by decide, by show _ = some 0; decide +kernel⟩ (by omega) (by decide) (fh_recv hK hP ((mkR_g (by omega) (by omega) (by omega)).trans mkG_sh) rfl) hP hS hl.1 rfl (by exact Nat.le_of_ble_eq_true rfl) (fh_d d_Ty_setAll 2 rfl) ⟨Nat.le_refl _, Nat.le_refl _⟩ (fun v9 h9 n9 H locs hq hP hS => ?_)
  obtain ⟨rfl, qa, qb⟩ := hq
  rw [qa, qb] at hP
  replace hP : fh_P D fh_cl b (mkR x kA aA (mkG ct x g (nI 0) F W0 H0 D0 rows cols) nc lc tx len at_ C R CL RL) n H := hP
  refine W.eq (g2 := F0 m 7 ls []) rfl ?_
  refine lv_aload_n hx hb (fh_d d_Ty_setAll 3 rfl) rfl (lv_at hl 0 rfl) ?_
  refine lv_aload_n hx hb (fh_d d_Ty_setAll 4 rfl) rfl (lv_at hl 1 rfl) ?_
  refine lv_aload_n hx hb (fh_d d_Ty_setAll 5 rfl) rfl (lv_at hl 2 rfl) ?_
  refine lv_iconst (v := 0) hx hb (fh_d d_Ty_setAll 6 rfl) (by decide) ?_
  have hC := (cS_all l D ct b RO hR sA sV hSt kA aA yA tK tS tM hEn hAd n x g nc lc tx len at_ R RL d).2
  refine W.eq (g2 := F0 m 11 ls [.int (nI 0), .ref (yA si), .ref (x + 65 + j), .ref (x + 226)]) rfl ?_
  refine fh_callV (cc' := c_Ty_setLine) (nL' := 8) (rest := []) (a := x + 226) (As := [.ref (x + 65 + j), .ref (yA si), .int (nI 0)]) X hR (hC.1 (r - 1) (by omega) (0, F, W0, H0, D0, rows, cols, C, CL) ⟨(Nat.zero_le 120), hokB⟩ j si 0 (hj) hoj hsi (by omega)) w649 w646 w648 v17 w6 ⟨by decide, by decide, by show _ = some 3; decide +kernel⟩ (by omega) (by decide) (fh_recv hK hP ((mkR_g (by omega) (by omega) (by omega)).trans mkG_ts) rfl) hP hS hl.1 rfl (by exact Nat.le_of_ble_eq_true rfl) (fh_d d_Ty_setAll 7 rfl) ⟨Nat.le_refl _, Nat.le_refl _⟩ (fun v9 h9 n9 H locs hq hP hS => ?_)
  obtain ⟨⟨c_1, F_1, W_1, H_1, D_1, ro_1, co_1, C_1, CL_1⟩, e_1⟩ : ∃ z, z = (sL R RL d) (0, F, W0, H0, D0, rows, cols, C, CL) j si 0 := ⟨_, rfl⟩
  obtain ⟨rfl, q_1a, q_1b⟩ := hq
  rw [← e_1] at q_1a
  rw [q_1a, q_1b] at hP
  have o_1 : okT (c_1, F_1, W_1, H_1, D_1, ro_1, co_1, C_1, CL_1) := by rw [e_1]; exact hC.2 _ _ _ _ ⟨(Nat.zero_le 120), hokB⟩ (hj) hoj
  have hc_1 : c_1 ≤ 120 := o_1.1
  have ob_1 : okB C_1 CL_1 := o_1.2
  replace hP : fh_P D fh_cl b (mkR x kA aA (mkG ct x g (nI c_1) F_1 W_1 H_1 D_1 ro_1 co_1) nc lc tx len at_ C_1 R CL_1 RL) n H := hP
  refine W.eq (g2 := F0 m 14 ls []) rfl ?_
  exact fh_vret X hP hS (fh_d d_Ty_setAll 8 rfl) ⟨rfl, by rw [← e_1]; rfl, rfl⟩
