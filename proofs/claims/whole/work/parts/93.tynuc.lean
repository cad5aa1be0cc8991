/-! Typesetter: setNucleus. Printed by wip/whole/gen/p93.py -/
def okU (R RL : Nat → Nat → Option Nat) (okN okL : Nat → Prop) (i : Nat) : Prop := ∃ k, k < 11 ∧ R i 5 = some k ∧ (k = 1 ∨ k = 9 → ∃ l, R i 11 = some l ∧ l < 161 ∧ okL l) ∧ (k = 5 → ∃ a b, R i 9 = some a ∧ R i 10 = some b ∧ (a < 60 ∧ okN a) ∧ b < 60 ∧ okN b) ∧ (k = 6 ∨ k = 7 ∨ k = 8 → ∃ u, R i 9 = some u ∧ u < 60 ∧ okN u) ∧ (k = 10 → ∃ l t, R i 11 = some l ∧ chX RL 8 162 (some l) = l :: t ∧ nxC RL 8 (l :: t) ∧ (∀ j ∈ l :: t, j < 161) ∧ ∀ j ∈ l :: t, okL j)
theorem sChar_ok {t : TS} (h : okT t) (i si : Nat) : okT (sChar i si t) := by
  obtain ⟨c, F, W, H, D, ro, co, C, CL⟩ := t
  exact ⟨rsv_le h.1, okB_m h.2 _ _ _ _⟩
theorem sOper_ok {t : TS} (h : okT t) (i si : Nat) : okT (sOper i si t) := by
  obtain ⟨c, F, W, H, D, ro, co, C, CL⟩ := t
  exact ⟨rsv_le h.1, okB_m h.2 _ _ _ _⟩
theorem sGrp_ok {okL : Nat → Prop} {L1 : FN} (hB : bSN 161 okL L1) {t : TS} (h : okT t) (i : Nat) {l : Nat} (si cr : Nat) (hl : l < 161) (hol : okL l) : okT (sGrp L1 i l si cr t) := by
  have o := hB t l si cr h hl hol
  unfold sGrp
  generalize L1 t l si cr = z at o
  obtain ⟨c, F, W, H, D, ro, co, C, CL⟩ := z
  exact ⟨o.1, okB_m o.2 _ _ _ _⟩
theorem okT_r {c : Nat} {F W H D : Nat → Int32} {ro co : Int32} {C CL : Nat → Nat → Int32} (h : okT (c, F, W, H, D, ro, co, C, CL)) : okT (rsv c, F, W, H, D, ro, co, C, CL) := ⟨rsv_le h.1, h.2⟩
theorem sFrac_ok {okN : Nat → Prop} {N1 : FN} (hB : bSN 60 okN N1) {t : TS} (h : okT t) (i : Nat) {a b : Nat} (si cr : Nat) (ha : a < 60) (hoa : okN a) (hb : b < 60) (hob : okN b) : okT (sFrac N1 i a b si cr t) := by
  have o := hB t a (yPa si) cr h ha hoa
  unfold sFrac
  generalize N1 t a (yPa si) cr = z at o
  obtain ⟨c, F, W, H, D, ro, co, C, CL⟩ := z
  have o2 := hB _ b (yPa si) 1 (okT_r o) hb hob
  dsimp only
  generalize N1 (rsv c, F, W, H, D, ro, co, C, CL) b (yPa si) 1 = z at o2
  obtain ⟨c2, F2, W2, H2, D2, ro2, co2, C2, CL2⟩ := z
  exact ⟨o2.1, okB_m o2.2 _ _ _ _⟩
theorem sRoot_ok {okN : Nat → Prop} {N1 : FN} (hB : bSN 60 okN N1) {t : TS} (h : okT t) (i : Nat) {u : Nat} (si : Nat) (hu : u < 60) (hou : okN u) : okT (sRoot N1 i u si t) := by
  obtain ⟨c, F, W, H, D, ro, co, C, CL⟩ := t
  have o2 := hB _ u si 1 (okT_r (okT_r h)) hu hou
  unfold sRoot
  dsimp only
  generalize N1 (rsv (rsv c), F, W, H, D, ro, co, C, CL) u si 1 = z at o2
  obtain ⟨c2, F2, W2, H2, D2, ro2, co2, C2, CL2⟩ := z
  exact ⟨o2.1, okB_m o2.2 _ _ _ _⟩
theorem sHat_ok {okN : Nat → Prop} {N1 : FN} (hB : bSN 60 okN N1) {t : TS} (h : okT t) (i : Nat) {u : Nat} (si : Nat) (hu : u < 60) (hou : okN u) : okT (sHat N1 i u si t) := by
  have o2 := hB t u si 1 h hu hou
  unfold sHat
  generalize N1 t u si 1 = z at o2
  obtain ⟨c2, F2, W2, H2, D2, ro2, co2, C2, CL2⟩ := z
  exact ⟨rsv_le o2.1, okB_m o2.2 _ _ _ _⟩
theorem sBar_ok {okN : Nat → Prop} {N1 : FN} (hB : bSN 60 okN N1) {t : TS} (h : okT t) (i : Nat) {u : Nat} (si : Nat) (hu : u < 60) (hou : okN u) : okT (sBar N1 i u si t) := by
  have o2 := hB t u si 1 h hu hou
  unfold sBar
  generalize N1 t u si 1 = z at o2
  obtain ⟨c2, F2, W2, H2, D2, ro2, co2, C2, CL2⟩ := z
  exact ⟨rsv_le o2.1, okB_m o2.2 _ _ _ _⟩
theorem sSide_ok {okL : Nat → Prop} {L1 : FN} (hB : bSN 161 okL L1) {t : TS} (h : okT t) (i : Nat) {l : Nat} (si cr : Nat) (hl : l < 161) (hol : okL l) : okT (sSide L1 i l si cr t) := by
  obtain ⟨c, F, W, H, D, ro, co, C, CL⟩ := t
  have o2 := hB (if ¬ C i 7 = 46 then rsv c else c, F, W, H, D, ro, co, C, CL) l si cr (by split; exact okT_r h; exact h) hl hol
  unfold sSide
  dsimp only
  generalize L1 (if ¬ C i 7 = 46 then rsv c else c, F, W, H, D, ro, co, C, CL) l si cr = z at o2
  obtain ⟨c2, F2, W2, H2, D2, ro2, co2, C2, CL2⟩ := z
  refine ⟨?_, ?_⟩
  · dsimp only
    split
    · exact rsv_le o2.1
    · exact o2.1
  · dsimp only
    have o3 := okB_m o2.2 i (if ¬ C i 8 = 46 then (if ¬ C i 7 = 46 then 4 * yS si else 0) + CL2 l 0 + 4 * yS si else (if ¬ C i 7 = 46 then 4 * yS si else 0) + CL2 l 0) (CL2 l 1) (CL2 l 2)
    split
    · exact okB_C (okB_C o3 i 1 _ (by omega)) i 2 _ (by omega)
    · exact o3
theorem sMat_ok {okL : Nat → Prop} {L1 : FN} (hB : bSN 161 okL L1) {t : TS} (h : okT t) (i : Nat) (cs : List Nat) (si cr : Nat) (hl : ∀ l ∈ cs, l < 161) (hol : ∀ l ∈ cs, okL l) : okT (sMat L1 i cs si cr t) := by
  have o : ∀ (cs : List Nat) (t : TS), okT t → (∀ l ∈ cs, l < 161) → (∀ l ∈ cs, okL l) → okT (cs.foldl (fun t l => L1 t l (yCe si) cr) t) := by
    intro cs
    induction cs with
    | nil => intro t h _ _; exact h
    | cons q cs ih => intro t h h1 h2; exact ih _ (hB _ _ _ _ h (h1 q List.mem_cons_self) (h2 q List.mem_cons_self)) (fun l hl => h1 l (List.mem_cons_of_mem _ hl)) (fun l hl => h2 l (List.mem_cons_of_mem _ hl))
  have o2 := o cs t h hl hol
  unfold sMat
  generalize cs.foldl (fun t l => L1 t l (yCe si) cr) t = z at o2
  obtain ⟨c2, F2, W2, H2, D2, ro2, co2, C2, CL2⟩ := z
  dsimp only
  generalize gmM CL2 W2 H2 D2 (yS si) cs = z
  obtain ⟨W3, H3, D3, ro3, co3⟩ := z
  exact ⟨o2.1, okB_m o2.2 _ _ _ _⟩
theorem okT_f {t : TS} (h : okT t) (i : Nat) : okT (t.1, t.2.1, t.2.2.1, t.2.2.2.1, t.2.2.2.2.1, t.2.2.2.2.2.1, t.2.2.2.2.2.2.1, sT t.2.2.2.2.2.2.2.1 i 3 (nI t.1), t.2.2.2.2.2.2.2.2) := ⟨h.1, okB_C h.2 i 3 _ (fun _ => okv_n h.1)⟩
theorem sNu_ok {R RL : Nat → Nat → Option Nat} {okN okL : Nat → Prop} {N1 L1 : FN} (hB : bSN 60 okN N1) (hBL : bSN 161 okL L1) {t : TS} (h : okT t) (i si cr : Nat) (hu : okU R RL okN okL i) : okT (sNu R RL (chX RL 8) N1 L1 t i si cr) := by
  obtain ⟨k, hk, h5, h1, hf, hs, hm⟩ := hu
  refine okT_e ?_ i
  have h9 := okT_f h i
  rw [h5]
  dsimp only [Option.getD]
  rcases (by omega : k = 0 ∨ k = 1 ∨ k = 2 ∨ k = 3 ∨ k = 4 ∨ k = 5 ∨ k = 6 ∨ k = 7 ∨ k = 8 ∨ k = 9 ∨ k = 10) with rfl | rfl | rfl | rfl | rfl | rfl | rfl | rfl | rfl | rfl | rfl
  · exact sChar_ok h9 i si
  · obtain ⟨l, e, g1, g2⟩ := h1 (Or.inl rfl)
    rw [e]; exact sGrp_ok hBL h9 i si cr g1 g2
  · exact sOper_ok h9 i si
  · exact sOper_ok h9 i si
  · exact sOper_ok h9 i si
  · obtain ⟨a, b, e, e2, g1, g2⟩ := hf rfl
    rw [e, e2]; exact sFrac_ok hB h9 i si cr g1.1 g1.2 g2.1 g2.2
  · obtain ⟨u, e, g1, g2⟩ := hs (Or.inl rfl)
    rw [e]; exact sRoot_ok hB h9 i si g1 g2
  · obtain ⟨u, e, g1, g2⟩ := hs (Or.inr (Or.inl rfl))
    rw [e]; exact sHat_ok hB h9 i si g1 g2
  · obtain ⟨u, e, g1, g2⟩ := hs (Or.inr (Or.inr rfl))
    rw [e]; exact sBar_ok hB h9 i si g1 g2
  · obtain ⟨l, e, g1, g2⟩ := h1 (Or.inr rfl)
    rw [e]; exact sSide_ok hBL h9 i si cr g1 g2
  · obtain ⟨l, t9, e, e2, g0, g1, g2⟩ := hm rfl
    rw [e, e2]; exact sMat_ok hBL h9 i _ si cr g1 g2
set_option maxHeartbeats 4000000 in
set_option maxRecDepth 100000 in
theorem m_Ty_setNucleus (l : Launch) (D : va_G) (ct : Nat → ClassId) (b : Nat) (RO : State → Prop) (hR : fh_R b RO) (sA sV : Nat → Nat) (hSt : ∀ U, RO U → ro_S b sA sV U) (kA aA yA : Nat → Nat) (tK tS tM : Nat) (hEn : ∀ U, RO U → ro_E b sA kA aA yA tK tS tM U) (hAd : ad_ok kA aA yA)  (n x : Nat) (g : fh_H) (c0 : Nat) (hc0 : c0 ≤ 120) (F W0 H0 D0 : Nat → Int32) (rows cols : Int32) (nc lc : Int32) (tx : Value) (len at_ : Int32) (C : Nat → Nat → Int32) (R : Nat → Nat → Option Nat) (CL : Nat → Nat → Int32) (RL : Nat → Nat → Option Nat) (hokB : okB C CL) (N1 L1 : FN) (okN okL : Nat → Prop) (r0 : Nat) (hN1 : cSN l D ct b RO kA aA yA n x g nc lc tx len at_ R RL okN r0 N1) (hB1 : bSN 60 okN N1) (hL1 : cSL l D ct b RO kA aA yA n x g nc lc tx len at_ R RL okL r0 L1) (hB2 : bSN 161 okL L1) (r : Nat) (hr : r0 + 2 ≤ r) (hr6 : 6 ≤ r) (i si cr : Nat) (hi : i < 60) (hsi : si < 4) (hcr : cr ≤ 1) (hok : okU R RL okN okL i) : fh_C l D fh_cl (fh_tys ct) b RO y_Ty_setNucleus (Cond.code y_Ty_setNucleus c_Ty_setNucleus 4 (Option.none : Option FieldType) :: fh_T) (fh_rm r 0 0) [.ref (x + 226), .ref (x + 4 + i), .ref (yA si), .int (nI cr)] (mkR x kA aA (mkG ct x g (nI c0) F W0 H0 D0 rows cols) nc lc tx len at_ C R CL RL) n (fun v h' n' => v = none ∧ h' = hz ct x kA aA g nc lc tx len at_ R RL (sNu R RL (chX RL 8) N1 L1 (c0, F, W0, H0, D0, rows, cols, C, CL) i si cr) ∧ n' = n) 0 0 := by
  refine fh_enter (by decide) (Nat.le_of_ble_eq_true rfl) [(0, .ref (x + 226)), (1, .ref (x + 4 + i)), (2, .ref (yA si)), (3, .int (nI cr))] rfl ?_
  intro p e s m args below meth c H ls X hP hS hl
  have hx := X.1
  have hb := X.2.1
  have hml := X.2.2.1
  have hown : s.vm.findClass "FormulaSetter$Typesetter" = some m.cls := X.2.2.2.1
  have hT := X.2.2.2.2.1
  have hK := X.2.2.2.2.2.1
  have hRO := X.2.2.2.2.2.2.1
  have hnm : meth.name = "setNucleus" := X.2.2.2.2.2.2.2.2.2.2
  have hnc : okU R RL okN okL i := hok
  obtain ⟨k0, hk0, h5, hk1, hk5, hk6, hkm⟩ := hok
  rcases (by omega : k0 = 0 ∨ k0 = 1 ∨ k0 = 2 ∨ k0 = 3 ∨ k0 = 4 ∨ k0 = 5 ∨ k0 = 6 ∨ k0 = 7 ∨ k0 = 8 ∨ k0 = 9 ∨ k0 = 10) with rfl | rfl | rfl | rfl | rfl | rfl | rfl | rfl | rfl | rfl | rfl
  · skip
    refine lv_aload_n hx hb (fh_d d_Ty_setNucleus 0 rfl) rfl (lv_at hl 1 rfl) ?_
    refine lv_aload_n hx hb (fh_d d_Ty_setNucleus 1 rfl) rfl (lv_at hl 0 rfl) ?_
    refine fh_get (own := "FormulaSetter$Typesetter") (ref := "FormulaSetter$Typesetter") (C := "FormulaSetter$Typesetter") (T := T_Ty) (N := 2) (v := .ref (x + 227)) hx hb hT i_Ty hown hK hP ((mkR_g (by omega) (by omega) (by omega)).trans mkG_ts) rfl 0 (by decide) (hT _ w247) (fun _ h9 => h9) rfl (fh_d d_Ty_setNucleus 2 rfl) ?_
    refine fh_get (own := "FormulaSetter$Typesetter") (ref := "FormulaSetter$Sheet") (C := "FormulaSetter$Sheet") (T := T_Sh) (N := 2) (v := .int (nI c0)) hx hb hT i_Sh hown hK hP ((mkR_g (by omega) (by omega) (by omega)).trans mkG_sh) rfl 1 (by decide) (hT _ w217) (fun _ h9 => h9) rfl (fh_d d_Ty_setNucleus 3 rfl) ?_
    refine fh_put (own := "FormulaSetter$Typesetter") (ref := "FormulaSetter$Nucleus") (C := "FormulaSetter$Nucleus") (T := T_Nu) (N := 15) (v := .int (nI c0)) (ty := .int) hx hb hT i_Nu t_Nu k_Nu n_Nu hown hK hP hS (mkR_nu (hi)) rfl 3 (by decide) (hT _ w107) (fun x9 h9 => u_same (hT _ w108) x9 h9) rfl (by decide +kernel) rfl rfl (Nat.le_of_ble_eq_true rfl) (fh_d d_Ty_setNucleus 4 rfl) (fun H locs hP hS => ?_)
    replace hP := fh_P.eq (h' := mkR x kA aA (mkG ct x g (nI c0) F W0 H0 D0 rows cols) nc lc tx len at_ (sT C i 3 (nI c0)) R CL RL) hP (mkR_nu3 (v := nI c0) (hi))
    have f1 : (sT C i 3 (nI c0)) i 3 = nI c0 := sT_same
    have y2 : okB (sT C i 3 (nI c0)) CL := okB_C hokB i 3 (nI c0) (fun _ => okv_n hc0)
    refine va_gets (own := "FormulaSetter$Typesetter") (ref := "FormulaSetter$1") hx hb (hEn _ hRO).2.2.2.2.2.2.2.1 hS hown (hT _ w664) (fun _ h9 => h9) (fh_d d_Ty_setNucleus 5 rfl) ?_
    refine lv_aload_n hx hb (fh_d d_Ty_setNucleus 6 rfl) rfl (lv_at hl 1 rfl) ?_
    refine fh_get (own := "FormulaSetter$Typesetter") (ref := "FormulaSetter$Nucleus") (C := "FormulaSetter$Nucleus") (T := T_Nu) (N := 15) (v := .ref (kA 0)) hx hb hT i_Nu hown hK hP (mkR_nu (hi)) rfl 5 (by decide) (hT _ w52) (fun _ h9 => h9) (by show some (va_rf ((R i 5).map kA)) = _; rw [h5]; rfl) (fh_d d_Ty_setNucleus 7 rfl) ?_
    refine fh_callU (cc' := c_En_ordinal) (nL' := 1) (rest := [.ref tM]) (a := kA 0) (As := []) (Ck := "FormulaSetter$Kind") (owner := "java/lang/Enum") (x' := ⟨"FormulaSetter$Kind", "ordinal", "()I"⟩) X hR (m_En_ordinal l D ct b RO sA sV hSt kA aA yA tK tS tM hEn (r - 1) n 0 (by decide) (mkR x kA aA (mkG ct x g (nI c0) F W0 H0 D0 rows cols) nc lc tx len at_ (sT C i 3 (nI c0)) R CL RL)) w515 w665 w511 rfl w514 w513 w19 ⟨by decide, by decide, by show _ = some 0; decide +kernel⟩ (by omega) (by decide) (fs_recv ((hEn _ hRO).1 0 (by decide)).2.1 hS) hP hS hl.1 rfl (by exact Nat.le_of_ble_eq_true rfl) (fh_d d_Ty_setNucleus 8 rfl) ⟨Nat.le_refl _, Nat.le_refl _⟩ (fun v9 h9 n9 H locs hq hP hS => ?_)
    obtain ⟨rfl, uo1, uo2⟩ := hq
    rw [uo1, uo2] at hP
    refine va_ti (v := .int (swM 0)) hx hb (hEn _ hRO).2.2.2.2.2.2.2.2.1 hS (i := nI 0) (vp_in_nI (by decide) (by decide)) rfl (fh_d d_Ty_setNucleus 9 rfl) ?_
    refine lv_tableIn (tgt := 80) hx hb (fh_d d_Ty_setNucleus 10 rfl) (by decide) (by decide) rfl rfl ?_
    refine lv_aload_n hx hb (fh_d d_Ty_setNucleus 11 rfl) rfl (lv_at hl 0 rfl) ?_
    refine lv_aload_n hx hb (fh_d d_Ty_setNucleus 12 rfl) rfl (lv_at hl 1 rfl) ?_
    refine lv_aload_n hx hb (fh_d d_Ty_setNucleus 13 rfl) rfl (lv_at hl 2 rfl) ?_
    refine fh_callV (cc' := c_Ty_setCharacter) (nL' := 5) (rest := []) (a := x + 226) (As := [.ref (x + 4 + i), .ref (yA si)]) X hR (m_Ty_setCharacter l D ct b RO hR sA sV hSt kA aA yA tK tS tM hEn hAd (r - 1) (by omega) i si hi hsi n x g c0 hc0 F W0 H0 D0 rows cols nc lc tx len at_ (sT C i 3 (nI c0)) R CL RL y2) w669 w666 w668 v20 w6 ⟨by decide, by decide, by show _ = some 2; decide +kernel⟩ (by omega) (by decide) (fh_recv hK hP ((mkR_g (by omega) (by omega) (by omega)).trans mkG_ts) rfl) hP hS hl.1 rfl (by exact Nat.le_of_ble_eq_true rfl) (fh_d d_Ty_setNucleus 14 rfl) ⟨Nat.le_refl _, Nat.le_refl _⟩ (fun v9 h9 n9 H locs hq hP hS => ?_)
    obtain ⟨⟨c_3, F_3, W_3, H_3, D_3, ro_3, co_3, C_3, CL_3⟩, e_3⟩ : ∃ z, z = sChar i si (c0, F, W0, H0, D0, rows, cols, sT C i 3 (nI c0), CL) := ⟨_, rfl⟩
    obtain ⟨rfl, q_3a, q_3b⟩ := hq
    rw [← e_3] at q_3a
    rw [q_3a, q_3b] at hP
    have o_3 : okT (c_3, F_3, W_3, H_3, D_3, ro_3, co_3, C_3, CL_3) := by rw [e_3]; exact sChar_ok ⟨hc0, y2⟩ i si
    have hc_3 : c_3 ≤ 120 := o_3.1
    have ob_3 : okB C_3 CL_3 := o_3.2
    replace hP : fh_P D fh_cl b (mkR x kA aA (mkG ct x g (nI c_3) F_3 W_3 H_3 D_3 ro_3 co_3) nc lc tx len at_ C_3 R CL_3 RL) n H := hP
    refine W.eq (g2 := F0 m 86 ls []) rfl ?_
    refine lv_goto (tgt := 194) hx hb (fh_d d_Ty_setNucleus 15 rfl) rfl ?_
    refine lv_aload_n hx hb (fh_d d_Ty_setNucleus 75 rfl) rfl (lv_at hl 1 rfl) ?_
    refine lv_aload_n hx hb (fh_d d_Ty_setNucleus 76 rfl) rfl (lv_at hl 0 rfl) ?_
    refine fh_get (own := "FormulaSetter$Typesetter") (ref := "FormulaSetter$Typesetter") (C := "FormulaSetter$Typesetter") (T := T_Ty) (N := 2) (v := .ref (x + 227)) hx hb hT i_Ty hown hK hP ((mkR_g (by omega) (by omega) (by omega)).trans mkG_ts) rfl 0 (by decide) (hT _ w247) (fun _ h9 => h9) rfl (fh_d d_Ty_setNucleus 77 rfl) ?_
    refine fh_get (own := "FormulaSetter$Typesetter") (ref := "FormulaSetter$Sheet") (C := "FormulaSetter$Sheet") (T := T_Sh) (N := 2) (v := .int (nI c_3)) hx hb hT i_Sh hown hK hP ((mkR_g (by omega) (by omega) (by omega)).trans mkG_sh) rfl 1 (by decide) (hT _ w217) (fun _ h9 => h9) rfl (fh_d d_Ty_setNucleus 78 rfl) ?_
    refine fh_put (own := "FormulaSetter$Typesetter") (ref := "FormulaSetter$Nucleus") (C := "FormulaSetter$Nucleus") (T := T_Nu) (N := 15) (v := .int (nI c_3)) (ty := .int) hx hb hT i_Nu t_Nu k_Nu n_Nu hown hK hP hS (mkR_nu (hi)) rfl 4 (by decide) (hT _ w111) (fun x9 h9 => u_same (hT _ w112) x9 h9) rfl (by decide +kernel) rfl rfl (Nat.le_of_ble_eq_true rfl) (fh_d d_Ty_setNucleus 79 rfl) (fun H locs hP hS => ?_)
    replace hP := fh_P.eq (h' := mkR x kA aA (mkG ct x g (nI c_3) F_3 W_3 H_3 D_3 ro_3 co_3) nc lc tx len at_ (sT C_3 i 4 (nI c_3)) R CL_3 RL) hP (mkR_nu4 (v := nI c_3) (hi))
    have f4 : (sT C_3 i 4 (nI c_3)) i 4 = nI c_3 := sT_same
    have y5 : okB (sT C_3 i 4 (nI c_3)) CL_3 := okB_C ob_3 i 4 (nI c_3) (fun _ => okv_n hc_3)
    refine fh_vret X hP hS (fh_d d_Ty_setNucleus 80 rfl) ⟨rfl, ?_, rfl⟩
    · unfold sNu; dsimp only; rw [h5]; dsimp only [Option.getD]; show _ = hz ct x kA aA g nc lc tx len at_ R RL ((fun t2 : TS => (t2.1, t2.2.1, t2.2.2.1, t2.2.2.2.1, t2.2.2.2.2.1, t2.2.2.2.2.2.1, t2.2.2.2.2.2.2.1, sT t2.2.2.2.2.2.2.2.1 i 4 (nI t2.1), t2.2.2.2.2.2.2.2.2)) (sChar i si (c0, F, W0, H0, D0, rows, cols, sT C i 3 (nI c0), CL))); rw [← e_3]; rfl
  · obtain ⟨l0, h11, hl0, hol⟩ := hk1 (Or.inl rfl)
    refine lv_aload_n hx hb (fh_d d_Ty_setNucleus 0 rfl) rfl (lv_at hl 1 rfl) ?_
    refine lv_aload_n hx hb (fh_d d_Ty_setNucleus 1 rfl) rfl (lv_at hl 0 rfl) ?_
    refine fh_get (own := "FormulaSetter$Typesetter") (ref := "FormulaSetter$Typesetter") (C := "FormulaSetter$Typesetter") (T := T_Ty) (N := 2) (v := .ref (x + 227)) hx hb hT i_Ty hown hK hP ((mkR_g (by omega) (by omega) (by omega)).trans mkG_ts) rfl 0 (by decide) (hT _ w247) (fun _ h9 => h9) rfl (fh_d d_Ty_setNucleus 2 rfl) ?_
    refine fh_get (own := "FormulaSetter$Typesetter") (ref := "FormulaSetter$Sheet") (C := "FormulaSetter$Sheet") (T := T_Sh) (N := 2) (v := .int (nI c0)) hx hb hT i_Sh hown hK hP ((mkR_g (by omega) (by omega) (by omega)).trans mkG_sh) rfl 1 (by decide) (hT _ w217) (fun _ h9 => h9) rfl (fh_d d_Ty_setNucleus 3 rfl) ?_
    refine fh_put (own := "FormulaSetter$Typesetter") (ref := "FormulaSetter$Nucleus") (C := "FormulaSetter$Nucleus") (T := T_Nu) (N := 15) (v := .int (nI c0)) (ty := .int) hx hb hT i_Nu t_Nu k_Nu n_Nu hown hK hP hS (mkR_nu (hi)) rfl 3 (by decide) (hT _ w107) (fun x9 h9 => u_same (hT _ w108) x9 h9) rfl (by decide +kernel) rfl rfl (Nat.le_of_ble_eq_true rfl) (fh_d d_Ty_setNucleus 4 rfl) (fun H locs hP hS => ?_)
    replace hP := fh_P.eq (h' := mkR x kA aA (mkG ct x g (nI c0) F W0 H0 D0 rows cols) nc lc tx len at_ (sT C i 3 (nI c0)) R CL RL) hP (mkR_nu3 (v := nI c0) (hi))
    have f6 : (sT C i 3 (nI c0)) i 3 = nI c0 := sT_same
    have y7 : okB (sT C i 3 (nI c0)) CL := okB_C hokB i 3 (nI c0) (fun _ => okv_n hc0)
    refine va_gets (own := "FormulaSetter$Typesetter") (ref := "FormulaSetter$1") hx hb (hEn _ hRO).2.2.2.2.2.2.2.1 hS hown (hT _ w664) (fun _ h9 => h9) (fh_d d_Ty_setNucleus 5 rfl) ?_
    refine lv_aload_n hx hb (fh_d d_Ty_setNucleus 6 rfl) rfl (lv_at hl 1 rfl) ?_
    refine fh_get (own := "FormulaSetter$Typesetter") (ref := "FormulaSetter$Nucleus") (C := "FormulaSetter$Nucleus") (T := T_Nu) (N := 15) (v := .ref (kA 1)) hx hb hT i_Nu hown hK hP (mkR_nu (hi)) rfl 5 (by decide) (hT _ w52) (fun _ h9 => h9) (by show some (va_rf ((R i 5).map kA)) = _; rw [h5]; rfl) (fh_d d_Ty_setNucleus 7 rfl) ?_
    refine fh_callU (cc' := c_En_ordinal) (nL' := 1) (rest := [.ref tM]) (a := kA 1) (As := []) (Ck := "FormulaSetter$Kind") (owner := "java/lang/Enum") (x' := ⟨"FormulaSetter$Kind", "ordinal", "()I"⟩) X hR (m_En_ordinal l D ct b RO sA sV hSt kA aA yA tK tS tM hEn (r - 1) n 1 (by decide) (mkR x kA aA (mkG ct x g (nI c0) F W0 H0 D0 rows cols) nc lc tx len at_ (sT C i 3 (nI c0)) R CL RL)) w515 w665 w511 rfl w514 w513 w19 ⟨by decide, by decide, by show _ = some 0; decide +kernel⟩ (by omega) (by decide) (fs_recv ((hEn _ hRO).1 1 (by decide)).2.1 hS) hP hS hl.1 rfl (by exact Nat.le_of_ble_eq_true rfl) (fh_d d_Ty_setNucleus 8 rfl) ⟨Nat.le_refl _, Nat.le_refl _⟩ (fun v9 h9 n9 H locs hq hP hS => ?_)
    obtain ⟨rfl, uo1, uo2⟩ := hq
    rw [uo1, uo2] at hP
    refine va_ti (v := .int (swM 1)) hx hb (hEn _ hRO).2.2.2.2.2.2.2.2.1 hS (i := nI 1) (vp_in_nI (by decide) (by decide)) rfl (fh_d d_Ty_setNucleus 9 rfl) ?_
    refine lv_tableIn (tgt := 89) hx hb (fh_d d_Ty_setNucleus 10 rfl) (by decide) (by decide) rfl rfl ?_
    refine lv_aload_n hx hb (fh_d d_Ty_setNucleus 16 rfl) rfl (lv_at hl 0 rfl) ?_
    refine lv_aload_n hx hb (fh_d d_Ty_setNucleus 17 rfl) rfl (lv_at hl 1 rfl) ?_
    refine lv_aload_n hx hb (fh_d d_Ty_setNucleus 18 rfl) rfl (lv_at hl 1 rfl) ?_
    refine fh_get (own := "FormulaSetter$Typesetter") (ref := "FormulaSetter$Nucleus") (C := "FormulaSetter$Nucleus") (T := T_Nu) (N := 15) (v := .ref (x + 65 + l0)) hx hb hT i_Nu hown hK hP (mkR_nu (hi)) rfl 11 (by decide) (hT _ w72) (fun _ h9 => h9) (by show some (va_rf ((R i 11).map (fun z => x + 65 + z))) = _; rw [h11]; rfl) (fh_d d_Ty_setNucleus 19 rfl) ?_
    refine lv_aload_n hx hb (fh_d d_Ty_setNucleus 20 rfl) rfl (lv_at hl 2 rfl) ?_
    refine lv_iload_n hx hb (fh_d d_Ty_setNucleus 21 rfl) rfl (lv_at hl 3 rfl) ?_
    refine fh_callV (cc' := c_Ty_setGroup) (nL' := 5) (rest := []) (a := x + 226) (As := [.ref (x + 4 + i), .ref (x + 65 + l0), .ref (yA si), .int (nI cr)]) X hR (m_Ty_setGroup l D ct b RO hR sA sV hSt kA aA yA tK tS tM hEn hAd n x g c0 hc0 F W0 H0 D0 rows cols nc lc tx len at_ (sT C i 3 (nI c0)) R CL RL y7 L1 okL r0 hL1 hB2 (r - 1) (by omega) (by omega) i si hi hsi cr l0 hcr hl0 hol) w697 w694 w696 v22 w6 ⟨by decide, by decide, by show _ = some 4; decide +kernel⟩ (by omega) (by decide) (fh_recv hK hP ((mkR_g (by omega) (by omega) (by omega)).trans mkG_ts) rfl) hP hS hl.1 rfl (by exact Nat.le_of_ble_eq_true rfl) (fh_d d_Ty_setNucleus 22 rfl) ⟨Nat.le_refl _, Nat.le_refl _⟩ (fun v9 h9 n9 H locs hq hP hS => ?_)
    obtain ⟨⟨c_8, F_8, W_8, H_8, D_8, ro_8, co_8, C_8, CL_8⟩, e_8⟩ : ∃ z, z = sGrp L1 i l0 si cr (c0, F, W0, H0, D0, rows, cols, sT C i 3 (nI c0), CL) := ⟨_, rfl⟩
    obtain ⟨rfl, q_8a, q_8b⟩ := hq
    rw [← e_8] at q_8a
    rw [q_8a, q_8b] at hP
    have o_8 : okT (c_8, F_8, W_8, H_8, D_8, ro_8, co_8, C_8, CL_8) := by rw [e_8]; exact sGrp_ok hB2 ⟨hc0, y7⟩ i si cr hl0 hol
    have hc_8 : c_8 ≤ 120 := o_8.1
    have ob_8 : okB C_8 CL_8 := o_8.2
    replace hP : fh_P D fh_cl b (mkR x kA aA (mkG ct x g (nI c_8) F_8 W_8 H_8 D_8 ro_8 co_8) nc lc tx len at_ C_8 R CL_8 RL) n H := hP
    refine W.eq (g2 := F0 m 100 ls []) rfl ?_
    refine lv_goto (tgt := 194) hx hb (fh_d d_Ty_setNucleus 23 rfl) rfl ?_
    refine lv_aload_n hx hb (fh_d d_Ty_setNucleus 75 rfl) rfl (lv_at hl 1 rfl) ?_
    refine lv_aload_n hx hb (fh_d d_Ty_setNucleus 76 rfl) rfl (lv_at hl 0 rfl) ?_
    refine fh_get (own := "FormulaSetter$Typesetter") (ref := "FormulaSetter$Typesetter") (C := "FormulaSetter$Typesetter") (T := T_Ty) (N := 2) (v := .ref (x + 227)) hx hb hT i_Ty hown hK hP ((mkR_g (by omega) (by omega) (by omega)).trans mkG_ts) rfl 0 (by decide) (hT _ w247) (fun _ h9 => h9) rfl (fh_d d_Ty_setNucleus 77 rfl) ?_
    refine fh_get (own := "FormulaSetter$Typesetter") (ref := "FormulaSetter$Sheet") (C := "FormulaSetter$Sheet") (T := T_Sh) (N := 2) (v := .int (nI c_8)) hx hb hT i_Sh hown hK hP ((mkR_g (by omega) (by omega) (by omega)).trans mkG_sh) rfl 1 (by decide) (hT _ w217) (fun _ h9 => h9) rfl (fh_d d_Ty_setNucleus 78 rfl) ?_
    refine fh_put (own := "FormulaSetter$Typesetter") (ref := "FormulaSetter$Nucleus") (C := "FormulaSetter$Nucleus") (T := T_Nu) (N := 15) (v := .int (nI c_8)) (ty := .int) hx hb hT i_Nu t_Nu k_Nu n_Nu hown hK hP hS (mkR_nu (hi)) rfl 4 (by decide) (hT _ w111) (fun x9 h9 => u_same (hT _ w112) x9 h9) rfl (by decide +kernel) rfl rfl (Nat.le_of_ble_eq_true rfl) (fh_d d_Ty_setNucleus 79 rfl) (fun H locs hP hS => ?_)
    replace hP := fh_P.eq (h' := mkR x kA aA (mkG ct x g (nI c_8) F_8 W_8 H_8 D_8 ro_8 co_8) nc lc tx len at_ (sT C_8 i 4 (nI c_8)) R CL_8 RL) hP (mkR_nu4 (v := nI c_8) (hi))
    have f9 : (sT C_8 i 4 (nI c_8)) i 4 = nI c_8 := sT_same
    have y10 : okB (sT C_8 i 4 (nI c_8)) CL_8 := okB_C ob_8 i 4 (nI c_8) (fun _ => okv_n hc_8)
    refine fh_vret X hP hS (fh_d d_Ty_setNucleus 80 rfl) ⟨rfl, ?_, rfl⟩
    · unfold sNu; dsimp only; rw [h5]; dsimp only [Option.getD]; rw [h11]; show _ = hz ct x kA aA g nc lc tx len at_ R RL ((fun t2 : TS => (t2.1, t2.2.1, t2.2.2.1, t2.2.2.2.1, t2.2.2.2.2.1, t2.2.2.2.2.2.1, t2.2.2.2.2.2.2.1, sT t2.2.2.2.2.2.2.2.1 i 4 (nI t2.1), t2.2.2.2.2.2.2.2.2)) (sGrp L1 i l0 si cr (c0, F, W0, H0, D0, rows, cols, sT C i 3 (nI c0), CL))); rw [← e_8]; rfl
  · skip
    refine lv_aload_n hx hb (fh_d d_Ty_setNucleus 0 rfl) rfl (lv_at hl 1 rfl) ?_
    refine lv_aload_n hx hb (fh_d d_Ty_setNucleus 1 rfl) rfl (lv_at hl 0 rfl) ?_
    refine fh_get (own := "FormulaSetter$Typesetter") (ref := "FormulaSetter$Typesetter") (C := "FormulaSetter$Typesetter") (T := T_Ty) (N := 2) (v := .ref (x + 227)) hx hb hT i_Ty hown hK hP ((mkR_g (by omega) (by omega) (by omega)).trans mkG_ts) rfl 0 (by decide) (hT _ w247) (fun _ h9 => h9) rfl (fh_d d_Ty_setNucleus 2 rfl) ?_
    refine fh_get (own := "FormulaSetter$Typesetter") (ref := "FormulaSetter$Sheet") (C := "FormulaSetter$Sheet") (T := T_Sh) (N := 2) (v := .int (nI c0)) hx hb hT i_Sh hown hK hP ((mkR_g (by omega) (by omega) (by omega)).trans mkG_sh) rfl 1 (by decide) (hT _ w217) (fun _ h9 => h9) rfl (fh_d d_Ty_setNucleus 3 rfl) ?_
    refine fh_put (own := "FormulaSetter$Typesetter") (ref := "FormulaSetter$Nucleus") (C := "FormulaSetter$Nucleus") (T := T_Nu) (N := 15) (v := .int (nI c0)) (ty := .int) hx hb hT i_Nu t_Nu k_Nu n_Nu hown hK hP hS (mkR_nu (hi)) rfl 3 (by decide) (hT _ w107) (fun x9 h9 => u_same (hT _ w108) x9 h9) rfl (by decide +kernel) rfl rfl (Nat.le_of_ble_eq_true rfl) (fh_d d_Ty_setNucleus 4 rfl) (fun H locs hP hS => ?_)
    replace hP := fh_P.eq (h' := mkR x kA aA (mkG ct x g (nI c0) F W0 H0 D0 rows cols) nc lc tx len at_ (sT C i 3 (nI c0)) R CL RL) hP (mkR_nu3 (v := nI c0) (hi))
    have f11 : (sT C i 3 (nI c0)) i 3 = nI c0 := sT_same
    have y12 : okB (sT C i 3 (nI c0)) CL := okB_C hokB i 3 (nI c0) (fun _ => okv_n hc0)
    refine va_gets (own := "FormulaSetter$Typesetter") (ref := "FormulaSetter$1") hx hb (hEn _ hRO).2.2.2.2.2.2.2.1 hS hown (hT _ w664) (fun _ h9 => h9) (fh_d d_Ty_setNucleus 5 rfl) ?_
    refine lv_aload_n hx hb (fh_d d_Ty_setNucleus 6 rfl) rfl (lv_at hl 1 rfl) ?_
    refine fh_get (own := "FormulaSetter$Typesetter") (ref := "FormulaSetter$Nucleus") (C := "FormulaSetter$Nucleus") (T := T_Nu) (N := 15) (v := .ref (kA 2)) hx hb hT i_Nu hown hK hP (mkR_nu (hi)) rfl 5 (by decide) (hT _ w52) (fun _ h9 => h9) (by show some (va_rf ((R i 5).map kA)) = _; rw [h5]; rfl) (fh_d d_Ty_setNucleus 7 rfl) ?_
    refine fh_callU (cc' := c_En_ordinal) (nL' := 1) (rest := [.ref tM]) (a := kA 2) (As := []) (Ck := "FormulaSetter$Kind") (owner := "java/lang/Enum") (x' := ⟨"FormulaSetter$Kind", "ordinal", "()I"⟩) X hR (m_En_ordinal l D ct b RO sA sV hSt kA aA yA tK tS tM hEn (r - 1) n 2 (by decide) (mkR x kA aA (mkG ct x g (nI c0) F W0 H0 D0 rows cols) nc lc tx len at_ (sT C i 3 (nI c0)) R CL RL)) w515 w665 w511 rfl w514 w513 w19 ⟨by decide, by decide, by show _ = some 0; decide +kernel⟩ (by omega) (by decide) (fs_recv ((hEn _ hRO).1 2 (by decide)).2.1 hS) hP hS hl.1 rfl (by exact Nat.le_of_ble_eq_true rfl) (fh_d d_Ty_setNucleus 8 rfl) ⟨Nat.le_refl _, Nat.le_refl _⟩ (fun v9 h9 n9 H locs hq hP hS => ?_)
    obtain ⟨rfl, uo1, uo2⟩ := hq
    rw [uo1, uo2] at hP
    refine va_ti (v := .int (swM 2)) hx hb (hEn _ hRO).2.2.2.2.2.2.2.2.1 hS (i := nI 2) (vp_in_nI (by decide) (by decide)) rfl (fh_d d_Ty_setNucleus 9 rfl) ?_
    refine lv_tableIn (tgt := 103) hx hb (fh_d d_Ty_setNucleus 10 rfl) (by decide) (by decide) rfl rfl ?_
    refine lv_aload_n hx hb (fh_d d_Ty_setNucleus 24 rfl) rfl (lv_at hl 0 rfl) ?_
    refine lv_aload_n hx hb (fh_d d_Ty_setNucleus 25 rfl) rfl (lv_at hl 1 rfl) ?_
    refine lv_aload_n hx hb (fh_d d_Ty_setNucleus 26 rfl) rfl (lv_at hl 2 rfl) ?_
    refine fh_callV (cc' := c_Ty_setOperator) (nL' := 8) (rest := []) (a := x + 226) (As := [.ref (x + 4 + i), .ref (yA si)]) X hR (m_Ty_setOperator l D ct b RO hR sA sV hSt kA aA yA tK tS tM hEn hAd (r - 1) (by omega) i si hi hsi n x g c0 hc0 F W0 H0 D0 rows cols nc lc tx len at_ (sT C i 3 (nI c0)) R CL RL y12) w701 w698 w700 v23 w6 ⟨by decide, by decide, by show _ = some 2; decide +kernel⟩ (by omega) (by decide) (fh_recv hK hP ((mkR_g (by omega) (by omega) (by omega)).trans mkG_ts) rfl) hP hS hl.1 rfl (by exact Nat.le_of_ble_eq_true rfl) (fh_d d_Ty_setNucleus 27 rfl) ⟨Nat.le_refl _, Nat.le_refl _⟩ (fun v9 h9 n9 H locs hq hP hS => ?_)
    obtain ⟨⟨c_13, F_13, W_13, H_13, D_13, ro_13, co_13, C_13, CL_13⟩, e_13⟩ : ∃ z, z = sOper i si (c0, F, W0, H0, D0, rows, cols, sT C i 3 (nI c0), CL) := ⟨_, rfl⟩
    obtain ⟨rfl, q_13a, q_13b⟩ := hq
    rw [← e_13] at q_13a
    rw [q_13a, q_13b] at hP
    have o_13 : okT (c_13, F_13, W_13, H_13, D_13, ro_13, co_13, C_13, CL_13) := by rw [e_13]; exact sOper_ok ⟨hc0, y12⟩ i si
    have hc_13 : c_13 ≤ 120 := o_13.1
    have ob_13 : okB C_13 CL_13 := o_13.2
    replace hP : fh_P D fh_cl b (mkR x kA aA (mkG ct x g (nI c_13) F_13 W_13 H_13 D_13 ro_13 co_13) nc lc tx len at_ C_13 R CL_13 RL) n H := hP
    refine W.eq (g2 := F0 m 109 ls []) rfl ?_
    refine lv_goto (tgt := 194) hx hb (fh_d d_Ty_setNucleus 28 rfl) rfl ?_
    refine lv_aload_n hx hb (fh_d d_Ty_setNucleus 75 rfl) rfl (lv_at hl 1 rfl) ?_
    refine lv_aload_n hx hb (fh_d d_Ty_setNucleus 76 rfl) rfl (lv_at hl 0 rfl) ?_
    refine fh_get (own := "FormulaSetter$Typesetter") (ref := "FormulaSetter$Typesetter") (C := "FormulaSetter$Typesetter") (T := T_Ty) (N := 2) (v := .ref (x + 227)) hx hb hT i_Ty hown hK hP ((mkR_g (by omega) (by omega) (by omega)).trans mkG_ts) rfl 0 (by decide) (hT _ w247) (fun _ h9 => h9) rfl (fh_d d_Ty_setNucleus 77 rfl) ?_
    refine fh_get (own := "FormulaSetter$Typesetter") (ref := "FormulaSetter$Sheet") (C := "FormulaSetter$Sheet") (T := T_Sh) (N := 2) (v := .int (nI c_13)) hx hb hT i_Sh hown hK hP ((mkR_g (by omega) (by omega) (by omega)).trans mkG_sh) rfl 1 (by decide) (hT _ w217) (fun _ h9 => h9) rfl (fh_d d_Ty_setNucleus 78 rfl) ?_
    refine fh_put (own := "FormulaSetter$Typesetter") (ref := "FormulaSetter$Nucleus") (C := "FormulaSetter$Nucleus") (T := T_Nu) (N := 15) (v := .int (nI c_13)) (ty := .int) hx hb hT i_Nu t_Nu k_Nu n_Nu hown hK hP hS (mkR_nu (hi)) rfl 4 (by decide) (hT _ w111) (fun x9 h9 => u_same (hT _ w112) x9 h9) rfl (by decide +kernel) rfl rfl (Nat.le_of_ble_eq_true rfl) (fh_d d_Ty_setNucleus 79 rfl) (fun H locs hP hS => ?_)
    replace hP := fh_P.eq (h' := mkR x kA aA (mkG ct x g (nI c_13) F_13 W_13 H_13 D_13 ro_13 co_13) nc lc tx len at_ (sT C_13 i 4 (nI c_13)) R CL_13 RL) hP (mkR_nu4 (v := nI c_13) (hi))
    have f14 : (sT C_13 i 4 (nI c_13)) i 4 = nI c_13 := sT_same
    have y15 : okB (sT C_13 i 4 (nI c_13)) CL_13 := okB_C ob_13 i 4 (nI c_13) (fun _ => okv_n hc_13)
    refine fh_vret X hP hS (fh_d d_Ty_setNucleus 80 rfl) ⟨rfl, ?_, rfl⟩
    · unfold sNu; dsimp only; rw [h5]; dsimp only [Option.getD]; show _ = hz ct x kA aA g nc lc tx len at_ R RL ((fun t2 : TS => (t2.1, t2.2.1, t2.2.2.1, t2.2.2.2.1, t2.2.2.2.2.1, t2.2.2.2.2.2.1, t2.2.2.2.2.2.2.1, sT t2.2.2.2.2.2.2.2.1 i 4 (nI t2.1), t2.2.2.2.2.2.2.2.2)) (sOper i si (c0, F, W0, H0, D0, rows, cols, sT C i 3 (nI c0), CL))); rw [← e_13]; rfl
  · skip
    refine lv_aload_n hx hb (fh_d d_Ty_setNucleus 0 rfl) rfl (lv_at hl 1 rfl) ?_
    refine lv_aload_n hx hb (fh_d d_Ty_setNucleus 1 rfl) rfl (lv_at hl 0 rfl) ?_
    refine fh_get (own := "FormulaSetter$Typesetter") (ref := "FormulaSetter$Typesetter") (C := "FormulaSetter$Typesetter") (T := T_Ty) (N := 2) (v := .ref (x + 227)) hx hb hT i_Ty hown hK hP ((mkR_g (by omega) (by omega) (by omega)).trans mkG_ts) rfl 0 (by decide) (hT _ w247) (fun _ h9 => h9) rfl (fh_d d_Ty_setNucleus 2 rfl) ?_
    refine fh_get (own := "FormulaSetter$Typesetter") (ref := "FormulaSetter$Sheet") (C := "FormulaSetter$Sheet") (T := T_Sh) (N := 2) (v := .int (nI c0)) hx hb hT i_Sh hown hK hP ((mkR_g (by omega) (by omega) (by omega)).trans mkG_sh) rfl 1 (by decide) (hT _ w217) (fun _ h9 => h9) rfl (fh_d d_Ty_setNucleus 3 rfl) ?_
    refine fh_put (own := "FormulaSetter$Typesetter") (ref := "FormulaSetter$Nucleus") (C := "FormulaSetter$Nucleus") (T := T_Nu) (N := 15) (v := .int (nI c0)) (ty := .int) hx hb hT i_Nu t_Nu k_Nu n_Nu hown hK hP hS (mkR_nu (hi)) rfl 3 (by decide) (hT _ w107) (fun x9 h9 => u_same (hT _ w108) x9 h9) rfl (by decide +kernel) rfl rfl (Nat.le_of_ble_eq_true rfl) (fh_d d_Ty_setNucleus 4 rfl) (fun H locs hP hS => ?_)
    replace hP := fh_P.eq (h' := mkR x kA aA (mkG ct x g (nI c0) F W0 H0 D0 rows cols) nc lc tx len at_ (sT C i 3 (nI c0)) R CL RL) hP (mkR_nu3 (v := nI c0) (hi))
    have f16 : (sT C i 3 (nI c0)) i 3 = nI c0 := sT_same
    have y17 : okB (sT C i 3 (nI c0)) CL := okB_C hokB i 3 (nI c0) (fun _ => okv_n hc0)
    refine va_gets (own := "FormulaSetter$Typesetter") (ref := "FormulaSetter$1") hx hb (hEn _ hRO).2.2.2.2.2.2.2.1 hS hown (hT _ w664) (fun _ h9 => h9) (fh_d d_Ty_setNucleus 5 rfl) ?_
    refine lv_aload_n hx hb (fh_d d_Ty_setNucleus 6 rfl) rfl (lv_at hl 1 rfl) ?_
    refine fh_get (own := "FormulaSetter$Typesetter") (ref := "FormulaSetter$Nucleus") (C := "FormulaSetter$Nucleus") (T := T_Nu) (N := 15) (v := .ref (kA 3)) hx hb hT i_Nu hown hK hP (mkR_nu (hi)) rfl 5 (by decide) (hT _ w52) (fun _ h9 => h9) (by show some (va_rf ((R i 5).map kA)) = _; rw [h5]; rfl) (fh_d d_Ty_setNucleus 7 rfl) ?_
    refine fh_callU (cc' := c_En_ordinal) (nL' := 1) (rest := [.ref tM]) (a := kA 3) (As := []) (Ck := "FormulaSetter$Kind") (owner := "java/lang/Enum") (x' := ⟨"FormulaSetter$Kind", "ordinal", "()I"⟩) X hR (m_En_ordinal l D ct b RO sA sV hSt kA aA yA tK tS tM hEn (r - 1) n 3 (by decide) (mkR x kA aA (mkG ct x g (nI c0) F W0 H0 D0 rows cols) nc lc tx len at_ (sT C i 3 (nI c0)) R CL RL)) w515 w665 w511 rfl w514 w513 w19 ⟨by decide, by decide, by show _ = some 0; decide +kernel⟩ (by omega) (by decide) (fs_recv ((hEn _ hRO).1 3 (by decide)).2.1 hS) hP hS hl.1 rfl (by exact Nat.le_of_ble_eq_true rfl) (fh_d d_Ty_setNucleus 8 rfl) ⟨Nat.le_refl _, Nat.le_refl _⟩ (fun v9 h9 n9 H locs hq hP hS => ?_)
    obtain ⟨rfl, uo1, uo2⟩ := hq
    rw [uo1, uo2] at hP
    refine va_ti (v := .int (swM 3)) hx hb (hEn _ hRO).2.2.2.2.2.2.2.2.1 hS (i := nI 3) (vp_in_nI (by decide) (by decide)) rfl (fh_d d_Ty_setNucleus 9 rfl) ?_
    refine lv_tableIn (tgt := 103) hx hb (fh_d d_Ty_setNucleus 10 rfl) (by decide) (by decide) rfl rfl ?_
    refine lv_aload_n hx hb (fh_d d_Ty_setNucleus 24 rfl) rfl (lv_at hl 0 rfl) ?_
    refine lv_aload_n hx hb (fh_d d_Ty_setNucleus 25 rfl) rfl (lv_at hl 1 rfl) ?_
    refine lv_aload_n hx hb (fh_d d_Ty_setNucleus 26 rfl) rfl (lv_at hl 2 rfl) ?_
    refine fh_callV (cc' := c_Ty_setOperator) (nL' := 8) (rest := []) (a := x + 226) (As := [.ref (x + 4 + i), .ref (yA si)]) X hR (m_Ty_setOperator l D ct b RO hR sA sV hSt kA aA yA tK tS tM hEn hAd (r - 1) (by omega) i si hi hsi n x g c0 hc0 F W0 H0 D0 rows cols nc lc tx len at_ (sT C i 3 (nI c0)) R CL RL y17) w701 w698 w700 v23 w6 ⟨by decide, by decide, by show _ = some 2; decide +kernel⟩ (by omega) (by decide) (fh_recv hK hP ((mkR_g (by omega) (by omega) (by omega)).trans mkG_ts) rfl) hP hS hl.1 rfl (by exact Nat.le_of_ble_eq_true rfl) (fh_d d_Ty_setNucleus 27 rfl) ⟨Nat.le_refl _, Nat.le_refl _⟩ (fun v9 h9 n9 H locs hq hP hS => ?_)
    obtain ⟨⟨c_18, F_18, W_18, H_18, D_18, ro_18, co_18, C_18, CL_18⟩, e_18⟩ : ∃ z, z = sOper i si (c0, F, W0, H0, D0, rows, cols, sT C i 3 (nI c0), CL) := ⟨_, rfl⟩
    obtain ⟨rfl, q_18a, q_18b⟩ := hq
    rw [← e_18] at q_18a
    rw [q_18a, q_18b] at hP
    have o_18 : okT (c_18, F_18, W_18, H_18, D_18, ro_18, co_18, C_18, CL_18) := by rw [e_18]; exact sOper_ok ⟨hc0, y17⟩ i si
    have hc_18 : c_18 ≤ 120 := o_18.1
    have ob_18 : okB C_18 CL_18 := o_18.2
    replace hP : fh_P D fh_cl b (mkR x kA aA (mkG ct x g (nI c_18) F_18 W_18 H_18 D_18 ro_18 co_18) nc lc tx len at_ C_18 R CL_18 RL) n H := hP
    refine W.eq (g2 := F0 m 109 ls []) rfl ?_
    refine lv_goto (tgt := 194) hx hb (fh_d d_Ty_setNucleus 28 rfl) rfl ?_
    refine lv_aload_n hx hb (fh_d d_Ty_setNucleus 75 rfl) rfl (lv_at hl 1 rfl) ?_
    refine lv_aload_n hx hb (fh_d d_Ty_setNucleus 76 rfl) rfl (lv_at hl 0 rfl) ?_
    refine fh_get (own := "FormulaSetter$Typesetter") (ref := "FormulaSetter$Typesetter") (C := "FormulaSetter$Typesetter") (T := T_Ty) (N := 2) (v := .ref (x + 227)) hx hb hT i_Ty hown hK hP ((mkR_g (by omega) (by omega) (by omega)).trans mkG_ts) rfl 0 (by decide) (hT _ w247) (fun _ h9 => h9) rfl (fh_d d_Ty_setNucleus 77 rfl) ?_
    refine fh_get (own := "FormulaSetter$Typesetter") (ref := "FormulaSetter$Sheet") (C := "FormulaSetter$Sheet") (T := T_Sh) (N := 2) (v := .int (nI c_18)) hx hb hT i_Sh hown hK hP ((mkR_g (by omega) (by omega) (by omega)).trans mkG_sh) rfl 1 (by decide) (hT _ w217) (fun _ h9 => h9) rfl (fh_d d_Ty_setNucleus 78 rfl) ?_
    refine fh_put (own := "FormulaSetter$Typesetter") (ref := "FormulaSetter$Nucleus") (C := "FormulaSetter$Nucleus") (T := T_Nu) (N := 15) (v := .int (nI c_18)) (ty := .int) hx hb hT i_Nu t_Nu k_Nu n_Nu hown hK hP hS (mkR_nu (hi)) rfl 4 (by decide) (hT _ w111) (fun x9 h9 => u_same (hT _ w112) x9 h9) rfl (by decide +kernel) rfl rfl (Nat.le_of_ble_eq_true rfl) (fh_d d_Ty_setNucleus 79 rfl) (fun H locs hP hS => ?_)
    replace hP := fh_P.eq (h' := mkR x kA aA (mkG ct x g (nI c_18) F_18 W_18 H_18 D_18 ro_18 co_18) nc lc tx len at_ (sT C_18 i 4 (nI c_18)) R CL_18 RL) hP (mkR_nu4 (v := nI c_18) (hi))
    have f19 : (sT C_18 i 4 (nI c_18)) i 4 = nI c_18 := sT_same
    have y20 : okB (sT C_18 i 4 (nI c_18)) CL_18 := okB_C ob_18 i 4 (nI c_18) (fun _ => okv_n hc_18)
    refine fh_vret X hP hS (fh_d d_Ty_setNucleus 80 rfl) ⟨rfl, ?_, rfl⟩
    · unfold sNu; dsimp only; rw [h5]; dsimp only [Option.getD]; show _ = hz ct x kA aA g nc lc tx len at_ R RL ((fun t2 : TS => (t2.1, t2.2.1, t2.2.2.1, t2.2.2.2.1, t2.2.2.2.2.1, t2.2.2.2.2.2.1, t2.2.2.2.2.2.2.1, sT t2.2.2.2.2.2.2.2.1 i 4 (nI t2.1), t2.2.2.2.2.2.2.2.2)) (sOper i si (c0, F, W0, H0, D0, rows, cols, sT C i 3 (nI c0), CL))); rw [← e_18]; rfl
  · skip
    refine lv_aload_n hx hb (fh_d d_Ty_setNucleus 0 rfl) rfl (lv_at hl 1 rfl) ?_
    refine lv_aload_n hx hb (fh_d d_Ty_setNucleus 1 rfl) rfl (lv_at hl 0 rfl) ?_
    refine fh_get (own := "FormulaSetter$Typesetter") (ref := "FormulaSetter$Typesetter") (C := "FormulaSetter$Typesetter") (T := T_Ty) (N := 2) (v := .ref (x + 227)) hx hb hT i_Ty hown hK hP ((mkR_g (by omega) (by omega) (by omega)).trans mkG_ts) rfl 0 (by decide) (hT _ w247) (fun _ h9 => h9) rfl (fh_d d_Ty_setNucleus 2 rfl) ?_
    refine fh_get (own := "FormulaSetter$Typesetter") (ref := "FormulaSetter$Sheet") (C := "FormulaSetter$Sheet") (T := T_Sh) (N := 2) (v := .int (nI c0)) hx hb hT i_Sh hown hK hP ((mkR_g (by omega) (by omega) (by omega)).trans mkG_sh) rfl 1 (by decide) (hT _ w217) (fun _ h9 => h9) rfl (fh_d d_Ty_setNucleus 3 rfl) ?_
    refine fh_put (own := "FormulaSetter$Typesetter") (ref := "FormulaSetter$Nucleus") (C := "FormulaSetter$Nucleus") (T := T_Nu) (N := 15) (v := .int (nI c0)) (ty := .int) hx hb hT i_Nu t_Nu k_Nu n_Nu hown hK hP hS (mkR_nu (hi)) rfl 3 (by decide) (hT _ w107) (fun x9 h9 => u_same (hT _ w108) x9 h9) rfl (by decide +kernel) rfl rfl (Nat.le_of_ble_eq_true rfl) (fh_d d_Ty_setNucleus 4 rfl) (fun H locs hP hS => ?_)
    replace hP := fh_P.eq (h' := mkR x kA aA (mkG ct x g (nI c0) F W0 H0 D0 rows cols) nc lc tx len at_ (sT C i 3 (nI c0)) R CL RL) hP (mkR_nu3 (v := nI c0) (hi))
    have f21 : (sT C i 3 (nI c0)) i 3 = nI c0 := sT_same
    have y22 : okB (sT C i 3 (nI c0)) CL := okB_C hokB i 3 (nI c0) (fun _ => okv_n hc0)
    refine va_gets (own := "FormulaSetter$Typesetter") (ref := "FormulaSetter$1") hx hb (hEn _ hRO).2.2.2.2.2.2.2.1 hS hown (hT _ w664) (fun _ h9 => h9) (fh_d d_Ty_setNucleus 5 rfl) ?_
    refine lv_aload_n hx hb (fh_d d_Ty_setNucleus 6 rfl) rfl (lv_at hl 1 rfl) ?_
    refine fh_get (own := "FormulaSetter$Typesetter") (ref := "FormulaSetter$Nucleus") (C := "FormulaSetter$Nucleus") (T := T_Nu) (N := 15) (v := .ref (kA 4)) hx hb hT i_Nu hown hK hP (mkR_nu (hi)) rfl 5 (by decide) (hT _ w52) (fun _ h9 => h9) (by show some (va_rf ((R i 5).map kA)) = _; rw [h5]; rfl) (fh_d d_Ty_setNucleus 7 rfl) ?_
    refine fh_callU (cc' := c_En_ordinal) (nL' := 1) (rest := [.ref tM]) (a := kA 4) (As := []) (Ck := "FormulaSetter$Kind") (owner := "java/lang/Enum") (x' := ⟨"FormulaSetter$Kind", "ordinal", "()I"⟩) X hR (m_En_ordinal l D ct b RO sA sV hSt kA aA yA tK tS tM hEn (r - 1) n 4 (by decide) (mkR x kA aA (mkG ct x g (nI c0) F W0 H0 D0 rows cols) nc lc tx len at_ (sT C i 3 (nI c0)) R CL RL)) w515 w665 w511 rfl w514 w513 w19 ⟨by decide, by decide, by show _ = some 0; decide +kernel⟩ (by omega) (by decide) (fs_recv ((hEn _ hRO).1 4 (by decide)).2.1 hS) hP hS hl.1 rfl (by exact Nat.le_of_ble_eq_true rfl) (fh_d d_Ty_setNucleus 8 rfl) ⟨Nat.le_refl _, Nat.le_refl _⟩ (fun v9 h9 n9 H locs hq hP hS => ?_)
    obtain ⟨rfl, uo1, uo2⟩ := hq
    rw [uo1, uo2] at hP
    refine va_ti (v := .int (swM 4)) hx hb (hEn _ hRO).2.2.2.2.2.2.2.2.1 hS (i := nI 4) (vp_in_nI (by decide) (by decide)) rfl (fh_d d_Ty_setNucleus 9 rfl) ?_
    refine lv_tableIn (tgt := 103) hx hb (fh_d d_Ty_setNucleus 10 rfl) (by decide) (by decide) rfl rfl ?_
    refine lv_aload_n hx hb (fh_d d_Ty_setNucleus 24 rfl) rfl (lv_at hl 0 rfl) ?_
    refine lv_aload_n hx hb (fh_d d_Ty_setNucleus 25 rfl) rfl (lv_at hl 1 rfl) ?_
    refine lv_aload_n hx hb (fh_d d_Ty_setNucleus 26 rfl) rfl (lv_at hl 2 rfl) ?_
    refine fh_callV (cc' := c_Ty_setOperator) (nL' := 8) (rest := []) (a := x + 226) (As := [.ref (x + 4 + i), .ref (yA si)]) X hR (m_Ty_setOperator l D ct b RO hR sA sV hSt kA aA yA tK tS tM hEn hAd (r - 1) (by omega) i si hi hsi n x g c0 hc0 F W0 H0 D0 rows cols nc lc tx len at_ (sT C i 3 (nI c0)) R CL RL y22) w701 w698 w700 v23 w6 ⟨by decide, by decide, by show _ = some 2; decide +kernel⟩ (by omega) (by decide) (fh_recv hK hP ((mkR_g (by omega) (by omega) (by omega)).trans mkG_ts) rfl) hP hS hl.1 rfl (by exact Nat.le_of_ble_eq_true rfl) (fh_d d_Ty_setNucleus 27 rfl) ⟨Nat.le_refl _, Nat.le_refl _⟩ (fun v9 h9 n9 H locs hq hP hS => ?_)
    obtain ⟨⟨c_23, F_23, W_23, H_23, D_23, ro_23, co_23, C_23, CL_23⟩, e_23⟩ : ∃ z, z = sOper i si (c0, F, W0, H0, D0, rows, cols, sT C i 3 (nI c0), CL) := ⟨_, rfl⟩
    obtain ⟨rfl, q_23a, q_23b⟩ := hq
    rw [← e_23] at q_23a
    rw [q_23a, q_23b] at hP
    have o_23 : okT (c_23, F_23, W_23, H_23, D_23, ro_23, co_23, C_23, CL_23) := by rw [e_23]; exact sOper_ok ⟨hc0, y22⟩ i si
    have hc_23 : c_23 ≤ 120 := o_23.1
    have ob_23 : okB C_23 CL_23 := o_23.2
    replace hP : fh_P D fh_cl b (mkR x kA aA (mkG ct x g (nI c_23) F_23 W_23 H_23 D_23 ro_23 co_23) nc lc tx len at_ C_23 R CL_23 RL) n H := hP
    refine W.eq (g2 := F0 m 109 ls []) rfl ?_
    refine lv_goto (tgt := 194) hx hb (fh_d d_Ty_setNucleus 28 rfl) rfl ?_
    refine lv_aload_n hx hb (fh_d d_Ty_setNucleus 75 rfl) rfl (lv_at hl 1 rfl) ?_
    refine lv_aload_n hx hb (fh_d d_Ty_setNucleus 76 rfl) rfl (lv_at hl 0 rfl) ?_
    refine fh_get (own := "FormulaSetter$Typesetter") (ref := "FormulaSetter$Typesetter") (C := "FormulaSetter$Typesetter") (T := T_Ty) (N := 2) (v := .ref (x + 227)) hx hb hT i_Ty hown hK hP ((mkR_g (by omega) (by omega) (by omega)).trans mkG_ts) rfl 0 (by decide) (hT _ w247) (fun _ h9 => h9) rfl (fh_d d_Ty_setNucleus 77 rfl) ?_
    refine fh_get (own := "FormulaSetter$Typesetter") (ref := "FormulaSetter$Sheet") (C := "FormulaSetter$Sheet") (T := T_Sh) (N := 2) (v := .int (nI c_23)) hx hb hT i_Sh hown hK hP ((mkR_g (by omega) (by omega) (by omega)).trans mkG_sh) rfl 1 (by decide) (hT _ w217) (fun _ h9 => h9) rfl (fh_d d_Ty_setNucleus 78 rfl) ?_
    refine fh_put (own := "FormulaSetter$Typesetter") (ref := "FormulaSetter$Nucleus") (C := "FormulaSetter$Nucleus") (T := T_Nu) (N := 15) (v := .int (nI c_23)) (ty := .int) hx hb hT i_Nu t_Nu k_Nu n_Nu hown hK hP hS (mkR_nu (hi)) rfl 4 (by decide) (hT _ w111) (fun x9 h9 => u_same (hT _ w112) x9 h9) rfl (by decide +kernel) rfl rfl (Nat.le_of_ble_eq_true rfl) (fh_d d_Ty_setNucleus 79 rfl) (fun H locs hP hS => ?_)
    replace hP := fh_P.eq (h' := mkR x kA aA (mkG ct x g (nI c_23) F_23 W_23 H_23 D_23 ro_23 co_23) nc lc tx len at_ (sT C_23 i 4 (nI c_23)) R CL_23 RL) hP (mkR_nu4 (v := nI c_23) (hi))
    have f24 : (sT C_23 i 4 (nI c_23)) i 4 = nI c_23 := sT_same
    have y25 : okB (sT C_23 i 4 (nI c_23)) CL_23 := okB_C ob_23 i 4 (nI c_23) (fun _ => okv_n hc_23)
    refine fh_vret X hP hS (fh_d d_Ty_setNucleus 80 rfl) ⟨rfl, ?_, rfl⟩
    · unfold sNu; dsimp only; rw [h5]; dsimp only [Option.getD]; show _ = hz ct x kA aA g nc lc tx len at_ R RL ((fun t2 : TS => (t2.1, t2.2.1, t2.2.2.1, t2.2.2.2.1, t2.2.2.2.2.1, t2.2.2.2.2.2.1, t2.2.2.2.2.2.2.1, sT t2.2.2.2.2.2.2.2.1 i 4 (nI t2.1), t2.2.2.2.2.2.2.2.2)) (sOper i si (c0, F, W0, H0, D0, rows, cols, sT C i 3 (nI c0), CL))); rw [← e_23]; rfl
  · obtain ⟨a, b2, h90, h10, ⟨ha, hoa⟩, hb2, hob⟩ := hk5 rfl
    refine lv_aload_n hx hb (fh_d d_Ty_setNucleus 0 rfl) rfl (lv_at hl 1 rfl) ?_
    refine lv_aload_n hx hb (fh_d d_Ty_setNucleus 1 rfl) rfl (lv_at hl 0 rfl) ?_
    refine fh_get (own := "FormulaSetter$Typesetter") (ref := "FormulaSetter$Typesetter") (C := "FormulaSetter$Typesetter") (T := T_Ty) (N := 2) (v := .ref (x + 227)) hx hb hT i_Ty hown hK hP ((mkR_g (by omega) (by omega) (by omega)).trans mkG_ts) rfl 0 (by decide) (hT _ w247) (fun _ h9 => h9) rfl (fh_d d_Ty_setNucleus 2 rfl) ?_
    refine fh_get (own := "FormulaSetter$Typesetter") (ref := "FormulaSetter$Sheet") (C := "FormulaSetter$Sheet") (T := T_Sh) (N := 2) (v := .int (nI c0)) hx hb hT i_Sh hown hK hP ((mkR_g (by omega) (by omega) (by omega)).trans mkG_sh) rfl 1 (by decide) (hT _ w217) (fun _ h9 => h9) rfl (fh_d d_Ty_setNucleus 3 rfl) ?_
    refine fh_put (own := "FormulaSetter$Typesetter") (ref := "FormulaSetter$Nucleus") (C := "FormulaSetter$Nucleus") (T := T_Nu) (N := 15) (v := .int (nI c0)) (ty := .int) hx hb hT i_Nu t_Nu k_Nu n_Nu hown hK hP hS (mkR_nu (hi)) rfl 3 (by decide) (hT _ w107) (fun x9 h9 => u_same (hT _ w108) x9 h9) rfl (by decide +kernel) rfl rfl (Nat.le_of_ble_eq_true rfl) (fh_d d_Ty_setNucleus 4 rfl) (fun H locs hP hS => ?_)
    replace hP := fh_P.eq (h' := mkR x kA aA (mkG ct x g (nI c0) F W0 H0 D0 rows cols) nc lc tx len at_ (sT C i 3 (nI c0)) R CL RL) hP (mkR_nu3 (v := nI c0) (hi))
    have f26 : (sT C i 3 (nI c0)) i 3 = nI c0 := sT_same
    have y27 : okB (sT C i 3 (nI c0)) CL := okB_C hokB i 3 (nI c0) (fun _ => okv_n hc0)
    refine va_gets (own := "FormulaSetter$Typesetter") (ref := "FormulaSetter$1") hx hb (hEn _ hRO).2.2.2.2.2.2.2.1 hS hown (hT _ w664) (fun _ h9 => h9) (fh_d d_Ty_setNucleus 5 rfl) ?_
    refine lv_aload_n hx hb (fh_d d_Ty_setNucleus 6 rfl) rfl (lv_at hl 1 rfl) ?_
    refine fh_get (own := "FormulaSetter$Typesetter") (ref := "FormulaSetter$Nucleus") (C := "FormulaSetter$Nucleus") (T := T_Nu) (N := 15) (v := .ref (kA 5)) hx hb hT i_Nu hown hK hP (mkR_nu (hi)) rfl 5 (by decide) (hT _ w52) (fun _ h9 => h9) (by show some (va_rf ((R i 5).map kA)) = _; rw [h5]; rfl) (fh_d d_Ty_setNucleus 7 rfl) ?_
    refine fh_callU (cc' := c_En_ordinal) (nL' := 1) (rest := [.ref tM]) (a := kA 5) (As := []) (Ck := "FormulaSetter$Kind") (owner := "java/lang/Enum") (x' := ⟨"FormulaSetter$Kind", "ordinal", "()I"⟩) X hR (m_En_ordinal l D ct b RO sA sV hSt kA aA yA tK tS tM hEn (r - 1) n 5 (by decide) (mkR x kA aA (mkG ct x g (nI c0) F W0 H0 D0 rows cols) nc lc tx len at_ (sT C i 3 (nI c0)) R CL RL)) w515 w665 w511 rfl w514 w513 w19 ⟨by decide, by decide, by show _ = some 0; decide +kernel⟩ (by omega) (by decide) (fs_recv ((hEn _ hRO).1 5 (by decide)).2.1 hS) hP hS hl.1 rfl (by exact Nat.le_of_ble_eq_true rfl) (fh_d d_Ty_setNucleus 8 rfl) ⟨Nat.le_refl _, Nat.le_refl _⟩ (fun v9 h9 n9 H locs hq hP hS => ?_)
    obtain ⟨rfl, uo1, uo2⟩ := hq
    rw [uo1, uo2] at hP
    refine va_ti (v := .int (swM 5)) hx hb (hEn _ hRO).2.2.2.2.2.2.2.2.1 hS (i := nI 5) (vp_in_nI (by decide) (by decide)) rfl (fh_d d_Ty_setNucleus 9 rfl) ?_
    refine lv_tableIn (tgt := 112) hx hb (fh_d d_Ty_setNucleus 10 rfl) (by decide) (by decide) rfl rfl ?_
    refine lv_aload_n hx hb (fh_d d_Ty_setNucleus 29 rfl) rfl (lv_at hl 0 rfl) ?_
    refine lv_aload_n hx hb (fh_d d_Ty_setNucleus 30 rfl) rfl (lv_at hl 1 rfl) ?_
    refine lv_aload_n hx hb (fh_d d_Ty_setNucleus 31 rfl) rfl (lv_at hl 1 rfl) ?_
    refine fh_get (own := "FormulaSetter$Typesetter") (ref := "FormulaSetter$Nucleus") (C := "FormulaSetter$Nucleus") (T := T_Nu) (N := 15) (v := .ref (x + 4 + a)) hx hb hT i_Nu hown hK hP (mkR_nu (hi)) rfl 9 (by decide) (hT _ w66) (fun _ h9 => h9) (by show some (va_rf ((R i 9).map (fun z => x + 4 + z))) = _; rw [h90]; rfl) (fh_d d_Ty_setNucleus 32 rfl) ?_
    refine lv_aload_n hx hb (fh_d d_Ty_setNucleus 33 rfl) rfl (lv_at hl 1 rfl) ?_
    refine fh_get (own := "FormulaSetter$Typesetter") (ref := "FormulaSetter$Nucleus") (C := "FormulaSetter$Nucleus") (T := T_Nu) (N := 15) (v := .ref (x + 4 + b2)) hx hb hT i_Nu hown hK hP (mkR_nu (hi)) rfl 10 (by decide) (hT _ w69) (fun _ h9 => h9) (by show some (va_rf ((R i 10).map (fun z => x + 4 + z))) = _; rw [h10]; rfl) (fh_d d_Ty_setNucleus 34 rfl) ?_
    refine lv_aload_n hx hb (fh_d d_Ty_setNucleus 35 rfl) rfl (lv_at hl 2 rfl) ?_
    refine lv_iload_n hx hb (fh_d d_Ty_setNucleus 36 rfl) rfl (lv_at hl 3 rfl) ?_
    refine fh_callV (cc' := c_Ty_setFraction) (nL' := 15) (rest := []) (a := x + 226) (As := [.ref (x + 4 + i), .ref (x + 4 + a), .ref (x + 4 + b2), .ref (yA si), .int (nI cr)]) X hR (m_Ty_setFraction l D ct b RO hR sA sV hSt kA aA yA tK tS tM hEn hAd n x g c0 hc0 F W0 H0 D0 rows cols nc lc tx len at_ (sT C i 3 (nI c0)) R CL RL y27 N1 okN r0 hN1 hB1 (r - 1) (by omega) (by omega) i si hi hsi cr a b2 hcr ha hb2 hoa hob) w708 w705 w707 v24 w6 ⟨by decide, by decide, by show _ = some 5; decide +kernel⟩ (by omega) (by decide) (fh_recv hK hP ((mkR_g (by omega) (by omega) (by omega)).trans mkG_ts) rfl) hP hS hl.1 rfl (by exact Nat.le_of_ble_eq_true rfl) (fh_d d_Ty_setNucleus 37 rfl) ⟨Nat.le_refl _, Nat.le_refl _⟩ (fun v9 h9 n9 H locs hq hP hS => ?_)
    obtain ⟨⟨c_28, F_28, W_28, H_28, D_28, ro_28, co_28, C_28, CL_28⟩, e_28⟩ : ∃ z, z = sFrac N1 i a b2 si cr (c0, F, W0, H0, D0, rows, cols, sT C i 3 (nI c0), CL) := ⟨_, rfl⟩
    obtain ⟨rfl, q_28a, q_28b⟩ := hq
    rw [← e_28] at q_28a
    rw [q_28a, q_28b] at hP
    have o_28 : okT (c_28, F_28, W_28, H_28, D_28, ro_28, co_28, C_28, CL_28) := by rw [e_28]; exact sFrac_ok hB1 ⟨hc0, y27⟩ i si cr ha hoa hb2 hob
    have hc_28 : c_28 ≤ 120 := o_28.1
    have ob_28 : okB C_28 CL_28 := o_28.2
    replace hP : fh_P D fh_cl b (mkR x kA aA (mkG ct x g (nI c_28) F_28 W_28 H_28 D_28 ro_28 co_28) nc lc tx len at_ C_28 R CL_28 RL) n H := hP
    refine W.eq (g2 := F0 m 127 ls []) rfl ?_
    refine lv_goto (tgt := 194) hx hb (fh_d d_Ty_setNucleus 38 rfl) rfl ?_
    refine lv_aload_n hx hb (fh_d d_Ty_setNucleus 75 rfl) rfl (lv_at hl 1 rfl) ?_
    refine lv_aload_n hx hb (fh_d d_Ty_setNucleus 76 rfl) rfl (lv_at hl 0 rfl) ?_
    refine fh_get (own := "FormulaSetter$Typesetter") (ref := "FormulaSetter$Typesetter") (C := "FormulaSetter$Typesetter") (T := T_Ty) (N := 2) (v := .ref (x + 227)) hx hb hT i_Ty hown hK hP ((mkR_g (by omega) (by omega) (by omega)).trans mkG_ts) rfl 0 (by decide) (hT _ w247) (fun _ h9 => h9) rfl (fh_d d_Ty_setNucleus 77 rfl) ?_
    refine fh_get (own := "FormulaSetter$Typesetter") (ref := "FormulaSetter$Sheet") (C := "FormulaSetter$Sheet") (T := T_Sh) (N := 2) (v := .int (nI c_28)) hx hb hT i_Sh hown hK hP ((mkR_g (by omega) (by omega) (by omega)).trans mkG_sh) rfl 1 (by decide) (hT _ w217) (fun _ h9 => h9) rfl (fh_d d_Ty_setNucleus 78 rfl) ?_
    refine fh_put (own := "FormulaSetter$Typesetter") (ref := "FormulaSetter$Nucleus") (C := "FormulaSetter$Nucleus") (T := T_Nu) (N := 15) (v := .int (nI c_28)) (ty := .int) hx hb hT i_Nu t_Nu k_Nu n_Nu hown hK hP hS (mkR_nu (hi)) rfl 4 (by decide) (hT _ w111) (fun x9 h9 => u_same (hT _ w112) x9 h9) rfl (by decide +kernel) rfl rfl (Nat.le_of_ble_eq_true rfl) (fh_d d_Ty_setNucleus 79 rfl) (fun H locs hP hS => ?_)
    replace hP := fh_P.eq (h' := mkR x kA aA (mkG ct x g (nI c_28) F_28 W_28 H_28 D_28 ro_28 co_28) nc lc tx len at_ (sT C_28 i 4 (nI c_28)) R CL_28 RL) hP (mkR_nu4 (v := nI c_28) (hi))
    have f29 : (sT C_28 i 4 (nI c_28)) i 4 = nI c_28 := sT_same
    have y30 : okB (sT C_28 i 4 (nI c_28)) CL_28 := okB_C ob_28 i 4 (nI c_28) (fun _ => okv_n hc_28)
    refine fh_vret X hP hS (fh_d d_Ty_setNucleus 80 rfl) ⟨rfl, ?_, rfl⟩
    · unfold sNu; dsimp only; rw [h5]; dsimp only [Option.getD]; rw [h90, h10]; show _ = hz ct x kA aA g nc lc tx len at_ R RL ((fun t2 : TS => (t2.1, t2.2.1, t2.2.2.1, t2.2.2.2.1, t2.2.2.2.2.1, t2.2.2.2.2.2.1, t2.2.2.2.2.2.2.1, sT t2.2.2.2.2.2.2.2.1 i 4 (nI t2.1), t2.2.2.2.2.2.2.2.2)) (sFrac N1 i a b2 si cr (c0, F, W0, H0, D0, rows, cols, sT C i 3 (nI c0), CL))); rw [← e_28]; rfl
  · obtain ⟨u, h90, hu, hou⟩ := hk6 (by decide)
    refine lv_aload_n hx hb (fh_d d_Ty_setNucleus 0 rfl) rfl (lv_at hl 1 rfl) ?_
    refine lv_aload_n hx hb (fh_d d_Ty_setNucleus 1 rfl) rfl (lv_at hl 0 rfl) ?_
    refine fh_get (own := "FormulaSetter$Typesetter") (ref := "FormulaSetter$Typesetter") (C := "FormulaSetter$Typesetter") (T := T_Ty) (N := 2) (v := .ref (x + 227)) hx hb hT i_Ty hown hK hP ((mkR_g (by omega) (by omega) (by omega)).trans mkG_ts) rfl 0 (by decide) (hT _ w247) (fun _ h9 => h9) rfl (fh_d d_Ty_setNucleus 2 rfl) ?_
    refine fh_get (own := "FormulaSetter$Typesetter") (ref := "FormulaSetter$Sheet") (C := "FormulaSetter$Sheet") (T := T_Sh) (N := 2) (v := .int (nI c0)) hx hb hT i_Sh hown hK hP ((mkR_g (by omega) (by omega) (by omega)).trans mkG_sh) rfl 1 (by decide) (hT _ w217) (fun _ h9 => h9) rfl (fh_d d_Ty_setNucleus 3 rfl) ?_
    refine fh_put (own := "FormulaSetter$Typesetter") (ref := "FormulaSetter$Nucleus") (C := "FormulaSetter$Nucleus") (T := T_Nu) (N := 15) (v := .int (nI c0)) (ty := .int) hx hb hT i_Nu t_Nu k_Nu n_Nu hown hK hP hS (mkR_nu (hi)) rfl 3 (by decide) (hT _ w107) (fun x9 h9 => u_same (hT _ w108) x9 h9) rfl (by decide +kernel) rfl rfl (Nat.le_of_ble_eq_true rfl) (fh_d d_Ty_setNucleus 4 rfl) (fun H locs hP hS => ?_)
    replace hP := fh_P.eq (h' := mkR x kA aA (mkG ct x g (nI c0) F W0 H0 D0 rows cols) nc lc tx len at_ (sT C i 3 (nI c0)) R CL RL) hP (mkR_nu3 (v := nI c0) (hi))
    have f31 : (sT C i 3 (nI c0)) i 3 = nI c0 := sT_same
    have y32 : okB (sT C i 3 (nI c0)) CL := okB_C hokB i 3 (nI c0) (fun _ => okv_n hc0)
    refine va_gets (own := "FormulaSetter$Typesetter") (ref := "FormulaSetter$1") hx hb (hEn _ hRO).2.2.2.2.2.2.2.1 hS hown (hT _ w664) (fun _ h9 => h9) (fh_d d_Ty_setNucleus 5 rfl) ?_
    refine lv_aload_n hx hb (fh_d d_Ty_setNucleus 6 rfl) rfl (lv_at hl 1 rfl) ?_
    refine fh_get (own := "FormulaSetter$Typesetter") (ref := "FormulaSetter$Nucleus") (C := "FormulaSetter$Nucleus") (T := T_Nu) (N := 15) (v := .ref (kA 6)) hx hb hT i_Nu hown hK hP (mkR_nu (hi)) rfl 5 (by decide) (hT _ w52) (fun _ h9 => h9) (by show some (va_rf ((R i 5).map kA)) = _; rw [h5]; rfl) (fh_d d_Ty_setNucleus 7 rfl) ?_
    refine fh_callU (cc' := c_En_ordinal) (nL' := 1) (rest := [.ref tM]) (a := kA 6) (As := []) (Ck := "FormulaSetter$Kind") (owner := "java/lang/Enum") (x' := ⟨"FormulaSetter$Kind", "ordinal", "()I"⟩) X hR (m_En_ordinal l D ct b RO sA sV hSt kA aA yA tK tS tM hEn (r - 1) n 6 (by decide) (mkR x kA aA (mkG ct x g (nI c0) F W0 H0 D0 rows cols) nc lc tx len at_ (sT C i 3 (nI c0)) R CL RL)) w515 w665 w511 rfl w514 w513 w19 ⟨by decide, by decide, by show _ = some 0; decide +kernel⟩ (by omega) (by decide) (fs_recv ((hEn _ hRO).1 6 (by decide)).2.1 hS) hP hS hl.1 rfl (by exact Nat.le_of_ble_eq_true rfl) (fh_d d_Ty_setNucleus 8 rfl) ⟨Nat.le_refl _, Nat.le_refl _⟩ (fun v9 h9 n9 H locs hq hP hS => ?_)
    obtain ⟨rfl, uo1, uo2⟩ := hq
    rw [uo1, uo2] at hP
    refine va_ti (v := .int (swM 6)) hx hb (hEn _ hRO).2.2.2.2.2.2.2.2.1 hS (i := nI 6) (vp_in_nI (by decide) (by decide)) rfl (fh_d d_Ty_setNucleus 9 rfl) ?_
    refine lv_tableIn (tgt := 130) hx hb (fh_d d_Ty_setNucleus 10 rfl) (by decide) (by decide) rfl rfl ?_
    refine lv_aload_n hx hb (fh_d d_Ty_setNucleus 39 rfl) rfl (lv_at hl 0 rfl) ?_
    refine lv_aload_n hx hb (fh_d d_Ty_setNucleus 40 rfl) rfl (lv_at hl 1 rfl) ?_
    refine lv_aload_n hx hb (fh_d d_Ty_setNucleus 41 rfl) rfl (lv_at hl 1 rfl) ?_
    refine fh_get (own := "FormulaSetter$Typesetter") (ref := "FormulaSetter$Nucleus") (C := "FormulaSetter$Nucleus") (T := T_Nu) (N := 15) (v := .ref (x + 4 + u)) hx hb hT i_Nu hown hK hP (mkR_nu (hi)) rfl 9 (by decide) (hT _ w66) (fun _ h9 => h9) (by show some (va_rf ((R i 9).map (fun z => x + 4 + z))) = _; rw [h90]; rfl) (fh_d d_Ty_setNucleus 42 rfl) ?_
    refine lv_aload_n hx hb (fh_d d_Ty_setNucleus 43 rfl) rfl (lv_at hl 2 rfl) ?_
    refine fh_callV (cc' := c_Ty_setRoot) (nL' := 11) (rest := []) (a := x + 226) (As := [.ref (x + 4 + i), .ref (x + 4 + u), .ref (yA si)]) X hR (m_Ty_setRoot l D ct b RO hR sA sV hSt kA aA yA tK tS tM hEn hAd n x g c0 hc0 F W0 H0 D0 rows cols nc lc tx len at_ (sT C i 3 (nI c0)) R CL RL y32 N1 okN r0 hN1 hB1 (r - 1) (by omega) (by omega) i si hi hsi u hu hou) w728 w725 w727 v25 w6 ⟨by decide, by decide, by show _ = some 3; decide +kernel⟩ (by omega) (by decide) (fh_recv hK hP ((mkR_g (by omega) (by omega) (by omega)).trans mkG_ts) rfl) hP hS hl.1 rfl (by exact Nat.le_of_ble_eq_true rfl) (fh_d d_Ty_setNucleus 44 rfl) ⟨Nat.le_refl _, Nat.le_refl _⟩ (fun v9 h9 n9 H locs hq hP hS => ?_)
    obtain ⟨⟨c_33, F_33, W_33, H_33, D_33, ro_33, co_33, C_33, CL_33⟩, e_33⟩ : ∃ z, z = sRoot N1 i u si (c0, F, W0, H0, D0, rows, cols, sT C i 3 (nI c0), CL) := ⟨_, rfl⟩
    obtain ⟨rfl, q_33a, q_33b⟩ := hq
    rw [← e_33] at q_33a
    rw [q_33a, q_33b] at hP
    have o_33 : okT (c_33, F_33, W_33, H_33, D_33, ro_33, co_33, C_33, CL_33) := by rw [e_33]; exact sRoot_ok hB1 ⟨hc0, y32⟩ i si hu hou
    have hc_33 : c_33 ≤ 120 := o_33.1
    have ob_33 : okB C_33 CL_33 := o_33.2
    replace hP : fh_P D fh_cl b (mkR x kA aA (mkG ct x g (nI c_33) F_33 W_33 H_33 D_33 ro_33 co_33) nc lc tx len at_ C_33 R CL_33 RL) n H := hP
    refine W.eq (g2 := F0 m 140 ls []) rfl ?_
    refine lv_goto (tgt := 194) hx hb (fh_d d_Ty_setNucleus 45 rfl) rfl ?_
    refine lv_aload_n hx hb (fh_d d_Ty_setNucleus 75 rfl) rfl (lv_at hl 1 rfl) ?_
    refine lv_aload_n hx hb (fh_d d_Ty_setNucleus 76 rfl) rfl (lv_at hl 0 rfl) ?_
    refine fh_get (own := "FormulaSetter$Typesetter") (ref := "FormulaSetter$Typesetter") (C := "FormulaSetter$Typesetter") (T := T_Ty) (N := 2) (v := .ref (x + 227)) hx hb hT i_Ty hown hK hP ((mkR_g (by omega) (by omega) (by omega)).trans mkG_ts) rfl 0 (by decide) (hT _ w247) (fun _ h9 => h9) rfl (fh_d d_Ty_setNucleus 77 rfl) ?_
    refine fh_get (own := "FormulaSetter$Typesetter") (ref := "FormulaSetter$Sheet") (C := "FormulaSetter$Sheet") (T := T_Sh) (N := 2) (v := .int (nI c_33)) hx hb hT i_Sh hown hK hP ((mkR_g (by omega) (by omega) (by omega)).trans mkG_sh) rfl 1 (by decide) (hT _ w217) (fun _ h9 => h9) rfl (fh_d d_Ty_setNucleus 78 rfl) ?_
    refine fh_put (own := "FormulaSetter$Typesetter") (ref := "FormulaSetter$Nucleus") (C := "FormulaSetter$Nucleus") (T := T_Nu) (N := 15) (v := .int (nI c_33)) (ty := .int) hx hb hT i_Nu t_Nu k_Nu n_Nu hown hK hP hS (mkR_nu (hi)) rfl 4 (by decide) (hT _ w111) (fun x9 h9 => u_same (hT _ w112) x9 h9) rfl (by decide +kernel) rfl rfl (Nat.le_of_ble_eq_true rfl) (fh_d d_Ty_setNucleus 79 rfl) (fun H locs hP hS => ?_)
    replace hP := fh_P.eq (h' := mkR x kA aA (mkG ct x g (nI c_33) F_33 W_33 H_33 D_33 ro_33 co_33) nc lc tx len at_ (sT C_33 i 4 (nI c_33)) R CL_33 RL) hP (mkR_nu4 (v := nI c_33) (hi))
    have f34 : (sT C_33 i 4 (nI c_33)) i 4 = nI c_33 := sT_same
    have y35 : okB (sT C_33 i 4 (nI c_33)) CL_33 := okB_C ob_33 i 4 (nI c_33) (fun _ => okv_n hc_33)
    refine fh_vret X hP hS (fh_d d_Ty_setNucleus 80 rfl) ⟨rfl, ?_, rfl⟩
    · unfold sNu; dsimp only; rw [h5]; dsimp only [Option.getD]; rw [h90]; show _ = hz ct x kA aA g nc lc tx len at_ R RL ((fun t2 : TS => (t2.1, t2.2.1, t2.2.2.1, t2.2.2.2.1, t2.2.2.2.2.1, t2.2.2.2.2.2.1, t2.2.2.2.2.2.2.1, sT t2.2.2.2.2.2.2.2.1 i 4 (nI t2.1), t2.2.2.2.2.2.2.2.2)) (sRoot N1 i u si (c0, F, W0, H0, D0, rows, cols, sT C i 3 (nI c0), CL))); rw [← e_33]; rfl
  · obtain ⟨u, h90, hu, hou⟩ := hk6 (by decide)
    refine lv_aload_n hx hb (fh_d d_Ty_setNucleus 0 rfl) rfl (lv_at hl 1 rfl) ?_
    refine lv_aload_n hx hb (fh_d d_Ty_setNucleus 1 rfl) rfl (lv_at hl 0 rfl) ?_
    refine fh_get (own := "FormulaSetter$Typesetter") (ref := "FormulaSetter$Typesetter") (C := "FormulaSetter$Typesetter") (T := T_Ty) (N := 2) (v := .ref (x + 227)) hx hb hT i_Ty hown hK hP ((mkR_g (by omega) (by omega) (by omega)).trans mkG_ts) rfl 0 (by decide) (hT _ w247) (fun _ h9 => h9) rfl (fh_d d_Ty_setNucleus 2 rfl) ?_
    refine fh_get (own := "FormulaSetter$Typesetter") (ref := "FormulaSetter$Sheet") (C := "FormulaSetter$Sheet") (T := T_Sh) (N := 2) (v := .int (nI c0)) hx hb hT i_Sh hown hK hP ((mkR_g (by omega) (by omega) (by omega)).trans mkG_sh) rfl 1 (by decide) (hT _ w217) (fun _ h9 => h9) rfl (fh_d d_Ty_setNucleus 3 rfl) ?_
    refine fh_put (own := "FormulaSetter$Typesetter") (ref := "FormulaSetter$Nucleus") (C := "FormulaSetter$Nucleus") (T := T_Nu) (N := 15) (v := .int (nI c0)) (ty := .int) hx hb hT i_Nu t_Nu k_Nu n_Nu hown hK hP hS (mkR_nu (hi)) rfl 3 (by decide) (hT _ w107) (fun x9 h9 => u_same (hT _ w108) x9 h9) rfl (by decide +kernel) rfl rfl (Nat.le_of_ble_eq_true rfl) (fh_d d_Ty_setNucleus 4 rfl) (fun H locs hP hS => ?_)
    replace hP := fh_P.eq (h' := mkR x kA aA (mkG ct x g (nI c0) F W0 H0 D0 rows cols) nc lc tx len at_ (sT C i 3 (nI c0)) R CL RL) hP (mkR_nu3 (v := nI c0) (hi))
    have f36 : (sT C i 3 (nI c0)) i 3 = nI c0 := sT_same
    have y37 : okB (sT C i 3 (nI c0)) CL := okB_C hokB i 3 (nI c0) (fun _ => okv_n hc0)
    refine va_gets (own := "FormulaSetter$Typesetter") (ref := "FormulaSetter$1") hx hb (hEn _ hRO).2.2.2.2.2.2.2.1 hS hown (hT _ w664) (fun _ h9 => h9) (fh_d d_Ty_setNucleus 5 rfl) ?_
    refine lv_aload_n hx hb (fh_d d_Ty_setNucleus 6 rfl) rfl (lv_at hl 1 rfl) ?_
    refine fh_get (own := "FormulaSetter$Typesetter") (ref := "FormulaSetter$Nucleus") (C := "FormulaSetter$Nucleus") (T := T_Nu) (N := 15) (v := .ref (kA 7)) hx hb hT i_Nu hown hK hP (mkR_nu (hi)) rfl 5 (by decide) (hT _ w52) (fun _ h9 => h9) (by show some (va_rf ((R i 5).map kA)) = _; rw [h5]; rfl) (fh_d d_Ty_setNucleus 7 rfl) ?_
    refine fh_callU (cc' := c_En_ordinal) (nL' := 1) (rest := [.ref tM]) (a := kA 7) (As := []) (Ck := "FormulaSetter$Kind") (owner := "java/lang/Enum") (x' := ⟨"FormulaSetter$Kind", "ordinal", "()I"⟩) X hR (m_En_ordinal l D ct b RO sA sV hSt kA aA yA tK tS tM hEn (r - 1) n 7 (by decide) (mkR x kA aA (mkG ct x g (nI c0) F W0 H0 D0 rows cols) nc lc tx len at_ (sT C i 3 (nI c0)) R CL RL)) w515 w665 w511 rfl w514 w513 w19 ⟨by decide, by decide, by show _ = some 0; decide +kernel⟩ (by omega) (by decide) (fs_recv ((hEn _ hRO).1 7 (by decide)).2.1 hS) hP hS hl.1 rfl (by exact Nat.le_of_ble_eq_true rfl) (fh_d d_Ty_setNucleus 8 rfl) ⟨Nat.le_refl _, Nat.le_refl _⟩ (fun v9 h9 n9 H locs hq hP hS => ?_)
    obtain ⟨rfl, uo1, uo2⟩ := hq
    rw [uo1, uo2] at hP
    refine va_ti (v := .int (swM 7)) hx hb (hEn _ hRO).2.2.2.2.2.2.2.2.1 hS (i := nI 7) (vp_in_nI (by decide) (by decide)) rfl (fh_d d_Ty_setNucleus 9 rfl) ?_
    refine lv_tableIn (tgt := 143) hx hb (fh_d d_Ty_setNucleus 10 rfl) (by decide) (by decide) rfl rfl ?_
    refine lv_aload_n hx hb (fh_d d_Ty_setNucleus 46 rfl) rfl (lv_at hl 0 rfl) ?_
    refine lv_aload_n hx hb (fh_d d_Ty_setNucleus 47 rfl) rfl (lv_at hl 1 rfl) ?_
    refine lv_aload_n hx hb (fh_d d_Ty_setNucleus 48 rfl) rfl (lv_at hl 1 rfl) ?_
    refine fh_get (own := "FormulaSetter$Typesetter") (ref := "FormulaSetter$Nucleus") (C := "FormulaSetter$Nucleus") (T := T_Nu) (N := 15) (v := .ref (x + 4 + u)) hx hb hT i_Nu hown hK hP (mkR_nu (hi)) rfl 9 (by decide) (hT _ w66) (fun _ h9 => h9) (by show some (va_rf ((R i 9).map (fun z => x + 4 + z))) = _; rw [h90]; rfl) (fh_d d_Ty_setNucleus 49 rfl) ?_
    refine lv_aload_n hx hb (fh_d d_Ty_setNucleus 50 rfl) rfl (lv_at hl 2 rfl) ?_
    refine fh_callV (cc' := c_Ty_setHat) (nL' := 7) (rest := []) (a := x + 226) (As := [.ref (x + 4 + i), .ref (x + 4 + u), .ref (yA si)]) X hR (m_Ty_setHat l D ct b RO hR sA sV hSt kA aA yA tK tS tM hEn hAd n x g c0 hc0 F W0 H0 D0 rows cols nc lc tx len at_ (sT C i 3 (nI c0)) R CL RL y37 N1 okN r0 hN1 hB1 (r - 1) (by omega) (by omega) i si hi hsi u hu hou) w736 w733 w735 v26 w6 ⟨by decide, by decide, by show _ = some 3; decide +kernel⟩ (by omega) (by decide) (fh_recv hK hP ((mkR_g (by omega) (by omega) (by omega)).trans mkG_ts) rfl) hP hS hl.1 rfl (by exact Nat.le_of_ble_eq_true rfl) (fh_d d_Ty_setNucleus 51 rfl) ⟨Nat.le_refl _, Nat.le_refl _⟩ (fun v9 h9 n9 H locs hq hP hS => ?_)
    obtain ⟨⟨c_38, F_38, W_38, H_38, D_38, ro_38, co_38, C_38, CL_38⟩, e_38⟩ : ∃ z, z = sHat N1 i u si (c0, F, W0, H0, D0, rows, cols, sT C i 3 (nI c0), CL) := ⟨_, rfl⟩
    obtain ⟨rfl, q_38a, q_38b⟩ := hq
    rw [← e_38] at q_38a
    rw [q_38a, q_38b] at hP
    have o_38 : okT (c_38, F_38, W_38, H_38, D_38, ro_38, co_38, C_38, CL_38) := by rw [e_38]; exact sHat_ok hB1 ⟨hc0, y37⟩ i si hu hou
    have hc_38 : c_38 ≤ 120 := o_38.1
    have ob_38 : okB C_38 CL_38 := o_38.2
    replace hP : fh_P D fh_cl b (mkR x kA aA (mkG ct x g (nI c_38) F_38 W_38 H_38 D_38 ro_38 co_38) nc lc tx len at_ C_38 R CL_38 RL) n H := hP
    refine W.eq (g2 := F0 m 153 ls []) rfl ?_
    refine lv_goto (tgt := 194) hx hb (fh_d d_Ty_setNucleus 52 rfl) rfl ?_
    refine lv_aload_n hx hb (fh_d d_Ty_setNucleus 75 rfl) rfl (lv_at hl 1 rfl) ?_
    refine lv_aload_n hx hb (fh_d d_Ty_setNucleus 76 rfl) rfl (lv_at hl 0 rfl) ?_
    refine fh_get (own := "FormulaSetter$Typesetter") (ref := "FormulaSetter$Typesetter") (C := "FormulaSetter$Typesetter") (T := T_Ty) (N := 2) (v := .ref (x + 227)) hx hb hT i_Ty hown hK hP ((mkR_g (by omega) (by omega) (by omega)).trans mkG_ts) rfl 0 (by decide) (hT _ w247) (fun _ h9 => h9) rfl (fh_d d_Ty_setNucleus 77 rfl) ?_
    refine fh_get (own := "FormulaSetter$Typesetter") (ref := "FormulaSetter$Sheet") (C := "FormulaSetter$Sheet") (T := T_Sh) (N := 2) (v := .int (nI c_38)) hx hb hT i_Sh hown hK hP ((mkR_g (by omega) (by omega) (by omega)).trans mkG_sh) rfl 1 (by decide) (hT _ w217) (fun _ h9 => h9) rfl (fh_d d_Ty_setNucleus 78 rfl) ?_
    refine fh_put (own := "FormulaSetter$Typesetter") (ref := "FormulaSetter$Nucleus") (C := "FormulaSetter$Nucleus") (T := T_Nu) (N := 15) (v := .int (nI c_38)) (ty := .int) hx hb hT i_Nu t_Nu k_Nu n_Nu hown hK hP hS (mkR_nu (hi)) rfl 4 (by decide) (hT _ w111) (fun x9 h9 => u_same (hT _ w112) x9 h9) rfl (by decide +kernel) rfl rfl (Nat.le_of_ble_eq_true rfl) (fh_d d_Ty_setNucleus 79 rfl) (fun H locs hP hS => ?_)
    replace hP := fh_P.eq (h' := mkR x kA aA (mkG ct x g (nI c_38) F_38 W_38 H_38 D_38 ro_38 co_38) nc lc tx len at_ (sT C_38 i 4 (nI c_38)) R CL_38 RL) hP (mkR_nu4 (v := nI c_38) (hi))
    have f39 : (sT C_38 i 4 (nI c_38)) i 4 = nI c_38 := sT_same
    have y40 : okB (sT C_38 i 4 (nI c_38)) CL_38 := okB_C ob_38 i 4 (nI c_38) (fun _ => okv_n hc_38)
    refine fh_vret X hP hS (fh_d d_Ty_setNucleus 80 rfl) ⟨rfl, ?_, rfl⟩
    · unfold sNu; dsimp only; rw [h5]; dsimp only [Option.getD]; rw [h90]; show _ = hz ct x kA aA g nc lc tx len at_ R RL ((fun t2 : TS => (t2.1, t2.2.1, t2.2.2.1, t2.2.2.2.1, t2.2.2.2.2.1, t2.2.2.2.2.2.1, t2.2.2.2.2.2.2.1, sT t2.2.2.2.2.2.2.2.1 i 4 (nI t2.1), t2.2.2.2.2.2.2.2.2)) (sHat N1 i u si (c0, F, W0, H0, D0, rows, cols, sT C i 3 (nI c0), CL))); rw [← e_38]; rfl
  · obtain ⟨u, h90, hu, hou⟩ := hk6 (by decide)
    refine lv_aload_n hx hb (fh_d d_Ty_setNucleus 0 rfl) rfl (lv_at hl 1 rfl) ?_
    refine lv_aload_n hx hb (fh_d d_Ty_setNucleus 1 rfl) rfl (lv_at hl 0 rfl) ?_
    refine fh_get (own := "FormulaSetter$Typesetter") (ref := "FormulaSetter$Typesetter") (C := "FormulaSetter$Typesetter") (T := T_Ty) (N := 2) (v := .ref (x + 227)) hx hb hT i_Ty hown hK hP ((mkR_g (by omega) (by omega) (by omega)).trans mkG_ts) rfl 0 (by decide) (hT _ w247) (fun _ h9 => h9) rfl (fh_d d_Ty_setNucleus 2 rfl) ?_
    refine fh_get (own := "FormulaSetter$Typesetter") (ref := "FormulaSetter$Sheet") (C := "FormulaSetter$Sheet") (T := T_Sh) (N := 2) (v := .int (nI c0)) hx hb hT i_Sh hown hK hP ((mkR_g (by omega) (by omega) (by omega)).trans mkG_sh) rfl 1 (by decide) (hT _ w217) (fun _ h9 => h9) rfl (fh_d d_Ty_setNucleus 3 rfl) ?_
    refine fh_put (own := "FormulaSetter$Typesetter") (ref := "FormulaSetter$Nucleus") (C := "FormulaSetter$Nucleus") (T := T_Nu) (N := 15) (v := .int (nI c0)) (ty := .int) hx hb hT i_Nu t_Nu k_Nu n_Nu hown hK hP hS (mkR_nu (hi)) rfl 3 (by decide) (hT _ w107) (fun x9 h9 => u_same (hT _ w108) x9 h9) rfl (by decide +kernel) rfl rfl (Nat.le_of_ble_eq_true rfl) (fh_d d_Ty_setNucleus 4 rfl) (fun H locs hP hS => ?_)
    replace hP := fh_P.eq (h' := mkR x kA aA (mkG ct x g (nI c0) F W0 H0 D0 rows cols) nc lc tx len at_ (sT C i 3 (nI c0)) R CL RL) hP (mkR_nu3 (v := nI c0) (hi))
    have f41 : (sT C i 3 (nI c0)) i 3 = nI c0 := sT_same
    have y42 : okB (sT C i 3 (nI c0)) CL := okB_C hokB i 3 (nI c0) (fun _ => okv_n hc0)
    refine va_gets (own := "FormulaSetter$Typesetter") (ref := "FormulaSetter$1") hx hb (hEn _ hRO).2.2.2.2.2.2.2.1 hS hown (hT _ w664) (fun _ h9 => h9) (fh_d d_Ty_setNucleus 5 rfl) ?_
    refine lv_aload_n hx hb (fh_d d_Ty_setNucleus 6 rfl) rfl (lv_at hl 1 rfl) ?_
    refine fh_get (own := "FormulaSetter$Typesetter") (ref := "FormulaSetter$Nucleus") (C := "FormulaSetter$Nucleus") (T := T_Nu) (N := 15) (v := .ref (kA 8)) hx hb hT i_Nu hown hK hP (mkR_nu (hi)) rfl 5 (by decide) (hT _ w52) (fun _ h9 => h9) (by show some (va_rf ((R i 5).map kA)) = _; rw [h5]; rfl) (fh_d d_Ty_setNucleus 7 rfl) ?_
    refine fh_callU (cc' := c_En_ordinal) (nL' := 1) (rest := [.ref tM]) (a := kA 8) (As := []) (Ck := "FormulaSetter$Kind") (owner := "java/lang/Enum") (x' := ⟨"FormulaSetter$Kind", "ordinal", "()I"⟩) X hR (m_En_ordinal l D ct b RO sA sV hSt kA aA yA tK tS tM hEn (r - 1) n 8 (by decide) (mkR x kA aA (mkG ct x g (nI c0) F W0 H0 D0 rows cols) nc lc tx len at_ (sT C i 3 (nI c0)) R CL RL)) w515 w665 w511 rfl w514 w513 w19 ⟨by decide, by decide, by show _ = some 0; decide +kernel⟩ (by omega) (by decide) (fs_recv ((hEn _ hRO).1 8 (by decide)).2.1 hS) hP hS hl.1 rfl (by exact Nat.le_of_ble_eq_true rfl) (fh_d d_Ty_setNucleus 8 rfl) ⟨Nat.le_refl _, Nat.le_refl _⟩ (fun v9 h9 n9 H locs hq hP hS => ?_)
    obtain ⟨rfl, uo1, uo2⟩ := hq
    rw [uo1, uo2] at hP
    refine va_ti (v := .int (swM 8)) hx hb (hEn _ hRO).2.2.2.2.2.2.2.2.1 hS (i := nI 8) (vp_in_nI (by decide) (by decide)) rfl (fh_d d_Ty_setNucleus 9 rfl) ?_
    refine lv_tableIn (tgt := 156) hx hb (fh_d d_Ty_setNucleus 10 rfl) (by decide) (by decide) rfl rfl ?_
    refine lv_aload_n hx hb (fh_d d_Ty_setNucleus 53 rfl) rfl (lv_at hl 0 rfl) ?_
    refine lv_aload_n hx hb (fh_d d_Ty_setNucleus 54 rfl) rfl (lv_at hl 1 rfl) ?_
    refine lv_aload_n hx hb (fh_d d_Ty_setNucleus 55 rfl) rfl (lv_at hl 1 rfl) ?_
    refine fh_get (own := "FormulaSetter$Typesetter") (ref := "FormulaSetter$Nucleus") (C := "FormulaSetter$Nucleus") (T := T_Nu) (N := 15) (v := .ref (x + 4 + u)) hx hb hT i_Nu hown hK hP (mkR_nu (hi)) rfl 9 (by decide) (hT _ w66) (fun _ h9 => h9) (by show some (va_rf ((R i 9).map (fun z => x + 4 + z))) = _; rw [h90]; rfl) (fh_d d_Ty_setNucleus 56 rfl) ?_
    refine lv_aload_n hx hb (fh_d d_Ty_setNucleus 57 rfl) rfl (lv_at hl 2 rfl) ?_
    refine fh_callV (cc' := c_Ty_setBar) (nL' := 5) (rest := []) (a := x + 226) (As := [.ref (x + 4 + i), .ref (x + 4 + u), .ref (yA si)]) X hR (m_Ty_setBar l D ct b RO hR sA sV hSt kA aA yA tK tS tM hEn hAd n x g c0 hc0 F W0 H0 D0 rows cols nc lc tx len at_ (sT C i 3 (nI c0)) R CL RL y42 N1 okN r0 hN1 hB1 (r - 1) (by omega) (by omega) i si hi hsi u hu hou) w740 w737 w739 v27 w6 ⟨by decide, by decide, by show _ = some 3; decide +kernel⟩ (by omega) (by decide) (fh_recv hK hP ((mkR_g (by omega) (by omega) (by omega)).trans mkG_ts) rfl) hP hS hl.1 rfl (by exact Nat.le_of_ble_eq_true rfl) (fh_d d_Ty_setNucleus 58 rfl) ⟨Nat.le_refl _, Nat.le_refl _⟩ (fun v9 h9 n9 H locs hq hP hS => ?_)
    obtain ⟨⟨c_43, F_43, W_43, H_43, D_43, ro_43, co_43, C_43, CL_43⟩, e_43⟩ : ∃ z, z = sBar N1 i u si (c0, F, W0, H0, D0, rows, cols, sT C i 3 (nI c0), CL) := ⟨_, rfl⟩
    obtain ⟨rfl, q_43a, q_43b⟩ := hq
    rw [← e_43] at q_43a
    rw [q_43a, q_43b] at hP
    have o_43 : okT (c_43, F_43, W_43, H_43, D_43, ro_43, co_43, C_43, CL_43) := by rw [e_43]; exact sBar_ok hB1 ⟨hc0, y42⟩ i si hu hou
    have hc_43 : c_43 ≤ 120 := o_43.1
    have ob_43 : okB C_43 CL_43 := o_43.2
    replace hP : fh_P D fh_cl b (mkR x kA aA (mkG ct x g (nI c_43) F_43 W_43 H_43 D_43 ro_43 co_43) nc lc tx len at_ C_43 R CL_43 RL) n H := hP
    refine W.eq (g2 := F0 m 166 ls []) rfl ?_
    refine lv_goto (tgt := 194) hx hb (fh_d d_Ty_setNucleus 59 rfl) rfl ?_
    refine lv_aload_n hx hb (fh_d d_Ty_setNucleus 75 rfl) rfl (lv_at hl 1 rfl) ?_
    refine lv_aload_n hx hb (fh_d d_Ty_setNucleus 76 rfl) rfl (lv_at hl 0 rfl) ?_
    refine fh_get (own := "FormulaSetter$Typesetter") (ref := "FormulaSetter$Typesetter") (C := "FormulaSetter$Typesetter") (T := T_Ty) (N := 2) (v := .ref (x + 227)) hx hb hT i_Ty hown hK hP ((mkR_g (by omega) (by omega) (by omega)).trans mkG_ts) rfl 0 (by decide) (hT _ w247) (fun _ h9 => h9) rfl (fh_d d_Ty_setNucleus 77 rfl) ?_
    refine fh_get (own := "FormulaSetter$Typesetter") (ref := "FormulaSetter$Sheet") (C := "FormulaSetter$Sheet") (T := T_Sh) (N := 2) (v := .int (nI c_43)) hx hb hT i_Sh hown hK hP ((mkR_g (by omega) (by omega) (by omega)).trans mkG_sh) rfl 1 (by decide) (hT _ w217) (fun _ h9 => h9) rfl (fh_d d_Ty_setNucleus 78 rfl) ?_
    refine fh_put (own := "FormulaSetter$Typesetter") (ref := "FormulaSetter$Nucleus") (C := "FormulaSetter$Nucleus") (T := T_Nu) (N := 15) (v := .int (nI c_43)) (ty := .int) hx hb hT i_Nu t_Nu k_Nu n_Nu hown hK hP hS (mkR_nu (hi)) rfl 4 (by decide) (hT _ w111) (fun x9 h9 => u_same (hT _ w112) x9 h9) rfl (by decide +kernel) rfl rfl (Nat.le_of_ble_eq_true rfl) (fh_d d_Ty_setNucleus 79 rfl) (fun H locs hP hS => ?_)
    replace hP := fh_P.eq (h' := mkR x kA aA (mkG ct x g (nI c_43) F_43 W_43 H_43 D_43 ro_43 co_43) nc lc tx len at_ (sT C_43 i 4 (nI c_43)) R CL_43 RL) hP (mkR_nu4 (v := nI c_43) (hi))
    have f44 : (sT C_43 i 4 (nI c_43)) i 4 = nI c_43 := sT_same
    have y45 : okB (sT C_43 i 4 (nI c_43)) CL_43 := okB_C ob_43 i 4 (nI c_43) (fun _ => okv_n hc_43)
    refine fh_vret X hP hS (fh_d d_Ty_setNucleus 80 rfl) ⟨rfl, ?_, rfl⟩
    · unfold sNu; dsimp only; rw [h5]; dsimp only [Option.getD]; rw [h90]; show _ = hz ct x kA aA g nc lc tx len at_ R RL ((fun t2 : TS => (t2.1, t2.2.1, t2.2.2.1, t2.2.2.2.1, t2.2.2.2.2.1, t2.2.2.2.2.2.1, t2.2.2.2.2.2.2.1, sT t2.2.2.2.2.2.2.2.1 i 4 (nI t2.1), t2.2.2.2.2.2.2.2.2)) (sBar N1 i u si (c0, F, W0, H0, D0, rows, cols, sT C i 3 (nI c0), CL))); rw [← e_43]; rfl
  · obtain ⟨l0, h11, hl0, hol⟩ := hk1 (Or.inr rfl)
    refine lv_aload_n hx hb (fh_d d_Ty_setNucleus 0 rfl) rfl (lv_at hl 1 rfl) ?_
    refine lv_aload_n hx hb (fh_d d_Ty_setNucleus 1 rfl) rfl (lv_at hl 0 rfl) ?_
    refine fh_get (own := "FormulaSetter$Typesetter") (ref := "FormulaSetter$Typesetter") (C := "FormulaSetter$Typesetter") (T := T_Ty) (N := 2) (v := .ref (x + 227)) hx hb hT i_Ty hown hK hP ((mkR_g (by omega) (by omega) (by omega)).trans mkG_ts) rfl 0 (by decide) (hT _ w247) (fun _ h9 => h9) rfl (fh_d d_Ty_setNucleus 2 rfl) ?_
    refine fh_get (own := "FormulaSetter$Typesetter") (ref := "FormulaSetter$Sheet") (C := "FormulaSetter$Sheet") (T := T_Sh) (N := 2) (v := .int (nI c0)) hx hb hT i_Sh hown hK hP ((mkR_g (by omega) (by omega) (by omega)).trans mkG_sh) rfl 1 (by decide) (hT _ w217) (fun _ h9 => h9) rfl (fh_d d_Ty_setNucleus 3 rfl) ?_
    refine fh_put (own := "FormulaSetter$Typesetter") (ref := "FormulaSetter$Nucleus") (C := "FormulaSetter$Nucleus") (T := T_Nu) (N := 15) (v := .int (nI c0)) (ty := .int) hx hb hT i_Nu t_Nu k_Nu n_Nu hown hK hP hS (mkR_nu (hi)) rfl 3 (by decide) (hT _ w107) (fun x9 h9 => u_same (hT _ w108) x9 h9) rfl (by decide +kernel) rfl rfl (Nat.le_of_ble_eq_true rfl) (fh_d d_Ty_setNucleus 4 rfl) (fun H locs hP hS => ?_)
    replace hP := fh_P.eq (h' := mkR x kA aA (mkG ct x g (nI c0) F W0 H0 D0 rows cols) nc lc tx len at_ (sT C i 3 (nI c0)) R CL RL) hP (mkR_nu3 (v := nI c0) (hi))
    have f46 : (sT C i 3 (nI c0)) i 3 = nI c0 := sT_same
    have y47 : okB (sT C i 3 (nI c0)) CL := okB_C hokB i 3 (nI c0) (fun _ => okv_n hc0)
    refine va_gets (own := "FormulaSetter$Typesetter") (ref := "FormulaSetter$1") hx hb (hEn _ hRO).2.2.2.2.2.2.2.1 hS hown (hT _ w664) (fun _ h9 => h9) (fh_d d_Ty_setNucleus 5 rfl) ?_
    refine lv_aload_n hx hb (fh_d d_Ty_setNucleus 6 rfl) rfl (lv_at hl 1 rfl) ?_
    refine fh_get (own := "FormulaSetter$Typesetter") (ref := "FormulaSetter$Nucleus") (C := "FormulaSetter$Nucleus") (T := T_Nu) (N := 15) (v := .ref (kA 9)) hx hb hT i_Nu hown hK hP (mkR_nu (hi)) rfl 5 (by decide) (hT _ w52) (fun _ h9 => h9) (by show some (va_rf ((R i 5).map kA)) = _; rw [h5]; rfl) (fh_d d_Ty_setNucleus 7 rfl) ?_
    refine fh_callU (cc' := c_En_ordinal) (nL' := 1) (rest := [.ref tM]) (a := kA 9) (As := []) (Ck := "FormulaSetter$Kind") (owner := "java/lang/Enum") (x' := ⟨"FormulaSetter$Kind", "ordinal", "()I"⟩) X hR (m_En_ordinal l D ct b RO sA sV hSt kA aA yA tK tS tM hEn (r - 1) n 9 (by decide) (mkR x kA aA (mkG ct x g (nI c0) F W0 H0 D0 rows cols) nc lc tx len at_ (sT C i 3 (nI c0)) R CL RL)) w515 w665 w511 rfl w514 w513 w19 ⟨by decide, by decide, by show _ = some 0; decide +kernel⟩ (by omega) (by decide) (fs_recv ((hEn _ hRO).1 9 (by decide)).2.1 hS) hP hS hl.1 rfl (by exact Nat.le_of_ble_eq_true rfl) (fh_d d_Ty_setNucleus 8 rfl) ⟨Nat.le_refl _, Nat.le_refl _⟩ (fun v9 h9 n9 H locs hq hP hS => ?_)
    obtain ⟨rfl, uo1, uo2⟩ := hq
    rw [uo1, uo2] at hP
    refine va_ti (v := .int (swM 9)) hx hb (hEn _ hRO).2.2.2.2.2.2.2.2.1 hS (i := nI 9) (vp_in_nI (by decide) (by decide)) rfl (fh_d d_Ty_setNucleus 9 rfl) ?_
    refine lv_tableIn (tgt := 169) hx hb (fh_d d_Ty_setNucleus 10 rfl) (by decide) (by decide) rfl rfl ?_
    refine lv_aload_n hx hb (fh_d d_Ty_setNucleus 60 rfl) rfl (lv_at hl 0 rfl) ?_
    refine lv_aload_n hx hb (fh_d d_Ty_setNucleus 61 rfl) rfl (lv_at hl 1 rfl) ?_
    refine lv_aload_n hx hb (fh_d d_Ty_setNucleus 62 rfl) rfl (lv_at hl 1 rfl) ?_
    refine fh_get (own := "FormulaSetter$Typesetter") (ref := "FormulaSetter$Nucleus") (C := "FormulaSetter$Nucleus") (T := T_Nu) (N := 15) (v := .ref (x + 65 + l0)) hx hb hT i_Nu hown hK hP (mkR_nu (hi)) rfl 11 (by decide) (hT _ w72) (fun _ h9 => h9) (by show some (va_rf ((R i 11).map (fun z => x + 65 + z))) = _; rw [h11]; rfl) (fh_d d_Ty_setNucleus 63 rfl) ?_
    refine lv_aload_n hx hb (fh_d d_Ty_setNucleus 64 rfl) rfl (lv_at hl 2 rfl) ?_
    refine lv_iload_n hx hb (fh_d d_Ty_setNucleus 65 rfl) rfl (lv_at hl 3 rfl) ?_
    refine fh_callV (cc' := c_Ty_setSides) (nL' := 16) (rest := []) (a := x + 226) (As := [.ref (x + 4 + i), .ref (x + 65 + l0), .ref (yA si), .int (nI cr)]) X hR (m_Ty_setSides l D ct b RO hR sA sV hSt kA aA yA tK tS tM hEn hAd n x g c0 hc0 F W0 H0 D0 rows cols nc lc tx len at_ (sT C i 3 (nI c0)) R CL RL y47 L1 okL r0 hL1 hB2 (r - 1) (by omega) (by omega) i si hi hsi cr l0 hcr hl0 hol) w744 w741 w743 v28 w6 ⟨by decide, by decide, by show _ = some 4; decide +kernel⟩ (by omega) (by decide) (fh_recv hK hP ((mkR_g (by omega) (by omega) (by omega)).trans mkG_ts) rfl) hP hS hl.1 rfl (by exact Nat.le_of_ble_eq_true rfl) (fh_d d_Ty_setNucleus 66 rfl) ⟨Nat.le_refl _, Nat.le_refl _⟩ (fun v9 h9 n9 H locs hq hP hS => ?_)
    obtain ⟨⟨c_48, F_48, W_48, H_48, D_48, ro_48, co_48, C_48, CL_48⟩, e_48⟩ : ∃ z, z = sSide L1 i l0 si cr (c0, F, W0, H0, D0, rows, cols, sT C i 3 (nI c0), CL) := ⟨_, rfl⟩
    obtain ⟨rfl, q_48a, q_48b⟩ := hq
    rw [← e_48] at q_48a
    rw [q_48a, q_48b] at hP
    have o_48 : okT (c_48, F_48, W_48, H_48, D_48, ro_48, co_48, C_48, CL_48) := by rw [e_48]; exact sSide_ok hB2 ⟨hc0, y47⟩ i si cr hl0 hol
    have hc_48 : c_48 ≤ 120 := o_48.1
    have ob_48 : okB C_48 CL_48 := o_48.2
    replace hP : fh_P D fh_cl b (mkR x kA aA (mkG ct x g (nI c_48) F_48 W_48 H_48 D_48 ro_48 co_48) nc lc tx len at_ C_48 R CL_48 RL) n H := hP
    refine W.eq (g2 := F0 m 180 ls []) rfl ?_
    refine lv_goto (tgt := 194) hx hb (fh_d d_Ty_setNucleus 67 rfl) rfl ?_
    refine lv_aload_n hx hb (fh_d d_Ty_setNucleus 75 rfl) rfl (lv_at hl 1 rfl) ?_
    refine lv_aload_n hx hb (fh_d d_Ty_setNucleus 76 rfl) rfl (lv_at hl 0 rfl) ?_
    refine fh_get (own := "FormulaSetter$Typesetter") (ref := "FormulaSetter$Typesetter") (C := "FormulaSetter$Typesetter") (T := T_Ty) (N := 2) (v := .ref (x + 227)) hx hb hT i_Ty hown hK hP ((mkR_g (by omega) (by omega) (by omega)).trans mkG_ts) rfl 0 (by decide) (hT _ w247) (fun _ h9 => h9) rfl (fh_d d_Ty_setNucleus 77 rfl) ?_
    refine fh_get (own := "FormulaSetter$Typesetter") (ref := "FormulaSetter$Sheet") (C := "FormulaSetter$Sheet") (T := T_Sh) (N := 2) (v := .int (nI c_48)) hx hb hT i_Sh hown hK hP ((mkR_g (by omega) (by omega) (by omega)).trans mkG_sh) rfl 1 (by decide) (hT _ w217) (fun _ h9 => h9) rfl (fh_d d_Ty_setNucleus 78 rfl) ?_
    refine fh_put (own := "FormulaSetter$Typesetter") (ref := "FormulaSetter$Nucleus") (C := "FormulaSetter$Nucleus") (T := T_Nu) (N := 15) (v := .int (nI c_48)) (ty := .int) hx hb hT i_Nu t_Nu k_Nu n_Nu hown hK hP hS (mkR_nu (hi)) rfl 4 (by decide) (hT _ w111) (fun x9 h9 => u_same (hT _ w112) x9 h9) rfl (by decide +kernel) rfl rfl (Nat.le_of_ble_eq_true rfl) (fh_d d_Ty_setNucleus 79 rfl) (fun H locs hP hS => ?_)
    replace hP := fh_P.eq (h' := mkR x kA aA (mkG ct x g (nI c_48) F_48 W_48 H_48 D_48 ro_48 co_48) nc lc tx len at_ (sT C_48 i 4 (nI c_48)) R CL_48 RL) hP (mkR_nu4 (v := nI c_48) (hi))
    have f49 : (sT C_48 i 4 (nI c_48)) i 4 = nI c_48 := sT_same
    have y50 : okB (sT C_48 i 4 (nI c_48)) CL_48 := okB_C ob_48 i 4 (nI c_48) (fun _ => okv_n hc_48)
    refine fh_vret X hP hS (fh_d d_Ty_setNucleus 80 rfl) ⟨rfl, ?_, rfl⟩
    · unfold sNu; dsimp only; rw [h5]; dsimp only [Option.getD]; rw [h11]; show _ = hz ct x kA aA g nc lc tx len at_ R RL ((fun t2 : TS => (t2.1, t2.2.1, t2.2.2.1, t2.2.2.2.1, t2.2.2.2.2.1, t2.2.2.2.2.2.1, t2.2.2.2.2.2.2.1, sT t2.2.2.2.2.2.2.2.1 i 4 (nI t2.1), t2.2.2.2.2.2.2.2.2)) (sSide L1 i l0 si cr (c0, F, W0, H0, D0, rows, cols, sT C i 3 (nI c0), CL))); rw [← e_48]; rfl
  · obtain ⟨l0, t9, h11, hch, hnx, hlt, hol⟩ := hkm rfl
    have hl0 := hlt l0 List.mem_cons_self
    refine lv_aload_n hx hb (fh_d d_Ty_setNucleus 0 rfl) rfl (lv_at hl 1 rfl) ?_
    refine lv_aload_n hx hb (fh_d d_Ty_setNucleus 1 rfl) rfl (lv_at hl 0 rfl) ?_
    refine fh_get (own := "FormulaSetter$Typesetter") (ref := "FormulaSetter$Typesetter") (C := "FormulaSetter$Typesetter") (T := T_Ty) (N := 2) (v := .ref (x + 227)) hx hb hT i_Ty hown hK hP ((mkR_g (by omega) (by omega) (by omega)).trans mkG_ts) rfl 0 (by decide) (hT _ w247) (fun _ h9 => h9) rfl (fh_d d_Ty_setNucleus 2 rfl) ?_
    refine fh_get (own := "FormulaSetter$Typesetter") (ref := "FormulaSetter$Sheet") (C := "FormulaSetter$Sheet") (T := T_Sh) (N := 2) (v := .int (nI c0)) hx hb hT i_Sh hown hK hP ((mkR_g (by omega) (by omega) (by omega)).trans mkG_sh) rfl 1 (by decide) (hT _ w217) (fun _ h9 => h9) rfl (fh_d d_Ty_setNucleus 3 rfl) ?_
    refine fh_put (own := "FormulaSetter$Typesetter") (ref := "FormulaSetter$Nucleus") (C := "FormulaSetter$Nucleus") (T := T_Nu) (N := 15) (v := .int (nI c0)) (ty := .int) hx hb hT i_Nu t_Nu k_Nu n_Nu hown hK hP hS (mkR_nu (hi)) rfl 3 (by decide) (hT _ w107) (fun x9 h9 => u_same (hT _ w108) x9 h9) rfl (by decide +kernel) rfl rfl (Nat.le_of_ble_eq_true rfl) (fh_d d_Ty_setNucleus 4 rfl) (fun H locs hP hS => ?_)
    replace hP := fh_P.eq (h' := mkR x kA aA (mkG ct x g (nI c0) F W0 H0 D0 rows cols) nc lc tx len at_ (sT C i 3 (nI c0)) R CL RL) hP (mkR_nu3 (v := nI c0) (hi))
    have f51 : (sT C i 3 (nI c0)) i 3 = nI c0 := sT_same
    have y52 : okB (sT C i 3 (nI c0)) CL := okB_C hokB i 3 (nI c0) (fun _ => okv_n hc0)
    refine va_gets (own := "FormulaSetter$Typesetter") (ref := "FormulaSetter$1") hx hb (hEn _ hRO).2.2.2.2.2.2.2.1 hS hown (hT _ w664) (fun _ h9 => h9) (fh_d d_Ty_setNucleus 5 rfl) ?_
    refine lv_aload_n hx hb (fh_d d_Ty_setNucleus 6 rfl) rfl (lv_at hl 1 rfl) ?_
    refine fh_get (own := "FormulaSetter$Typesetter") (ref := "FormulaSetter$Nucleus") (C := "FormulaSetter$Nucleus") (T := T_Nu) (N := 15) (v := .ref (kA 10)) hx hb hT i_Nu hown hK hP (mkR_nu (hi)) rfl 5 (by decide) (hT _ w52) (fun _ h9 => h9) (by show some (va_rf ((R i 5).map kA)) = _; rw [h5]; rfl) (fh_d d_Ty_setNucleus 7 rfl) ?_
    refine fh_callU (cc' := c_En_ordinal) (nL' := 1) (rest := [.ref tM]) (a := kA 10) (As := []) (Ck := "FormulaSetter$Kind") (owner := "java/lang/Enum") (x' := ⟨"FormulaSetter$Kind", "ordinal", "()I"⟩) X hR (m_En_ordinal l D ct b RO sA sV hSt kA aA yA tK tS tM hEn (r - 1) n 10 (by decide) (mkR x kA aA (mkG ct x g (nI c0) F W0 H0 D0 rows cols) nc lc tx len at_ (sT C i 3 (nI c0)) R CL RL)) w515 w665 w511 rfl w514 w513 w19 ⟨by decide, by decide, by show _ = some 0; decide +kernel⟩ (by omega) (by decide) (fs_recv ((hEn _ hRO).1 10 (by decide)).2.1 hS) hP hS hl.1 rfl (by exact Nat.le_of_ble_eq_true rfl) (fh_d d_Ty_setNucleus 8 rfl) ⟨Nat.le_refl _, Nat.le_refl _⟩ (fun v9 h9 n9 H locs hq hP hS => ?_)
    obtain ⟨rfl, uo1, uo2⟩ := hq
    rw [uo1, uo2] at hP
    refine va_ti (v := .int (swM 10)) hx hb (hEn _ hRO).2.2.2.2.2.2.2.2.1 hS (i := nI 10) (vp_in_nI (by decide) (by decide)) rfl (fh_d d_Ty_setNucleus 9 rfl) ?_
    refine lv_tableIn (tgt := 183) hx hb (fh_d d_Ty_setNucleus 10 rfl) (by decide) (by decide) rfl rfl ?_
    refine lv_aload_n hx hb (fh_d d_Ty_setNucleus 68 rfl) rfl (lv_at hl 0 rfl) ?_
    refine lv_aload_n hx hb (fh_d d_Ty_setNucleus 69 rfl) rfl (lv_at hl 1 rfl) ?_
    refine lv_aload_n hx hb (fh_d d_Ty_setNucleus 70 rfl) rfl (lv_at hl 1 rfl) ?_
    refine fh_get (own := "FormulaSetter$Typesetter") (ref := "FormulaSetter$Nucleus") (C := "FormulaSetter$Nucleus") (T := T_Nu) (N := 15) (v := .ref (x + 65 + l0)) hx hb hT i_Nu hown hK hP (mkR_nu (hi)) rfl 11 (by decide) (hT _ w72) (fun _ h9 => h9) (by show some (va_rf ((R i 11).map (fun z => x + 65 + z))) = _; rw [h11]; rfl) (fh_d d_Ty_setNucleus 71 rfl) ?_
    refine lv_aload_n hx hb (fh_d d_Ty_setNucleus 72 rfl) rfl (lv_at hl 2 rfl) ?_
    refine lv_iload_n hx hb (fh_d d_Ty_setNucleus 73 rfl) rfl (lv_at hl 3 rfl) ?_
    refine fh_callV (cc' := c_Ty_setMatrix) (nL' := 9) (rest := []) (a := x + 226) (As := [.ref (x + 4 + i), .ref (x + 65 + l0), .ref (yA si), .int (nI cr)]) X hR (m_Ty_setMatrix l D ct b RO hR sA sV hSt kA aA yA tK tS tM hEn hAd n x g c0 hc0 F W0 H0 D0 rows cols nc lc tx len at_ (sT C i 3 (nI c0)) R CL RL y52 L1 okL r0 hL1 hB2 (r - 1) (by omega) (by omega) i si hi hsi cr l0 hcr t9 (l0 :: t9) rfl hnx hlt hol) w749 w746 w748 v29 w6 ⟨by decide, by decide, by show _ = some 4; decide +kernel⟩ (by omega) (by decide) (fh_recv hK hP ((mkR_g (by omega) (by omega) (by omega)).trans mkG_ts) rfl) hP hS hl.1 rfl (by exact Nat.le_of_ble_eq_true rfl) (fh_d d_Ty_setNucleus 74 rfl) ⟨Nat.le_refl _, Nat.le_refl _⟩ (fun v9 h9 n9 H locs hq hP hS => ?_)
    obtain ⟨⟨c_53, F_53, W_53, H_53, D_53, ro_53, co_53, C_53, CL_53⟩, e_53⟩ : ∃ z, z = sMat L1 i (l0 :: t9) si cr (c0, F, W0, H0, D0, rows, cols, sT C i 3 (nI c0), CL) := ⟨_, rfl⟩
    obtain ⟨rfl, q_53a, q_53b⟩ := hq
    rw [← e_53] at q_53a
    rw [q_53a, q_53b] at hP
    have o_53 : okT (c_53, F_53, W_53, H_53, D_53, ro_53, co_53, C_53, CL_53) := by rw [e_53]; exact sMat_ok hB2 ⟨hc0, y52⟩ i (l0 :: t9) si cr hlt hol
    have hc_53 : c_53 ≤ 120 := o_53.1
    have ob_53 : okB C_53 CL_53 := o_53.2
    replace hP : fh_P D fh_cl b (mkR x kA aA (mkG ct x g (nI c_53) F_53 W_53 H_53 D_53 ro_53 co_53) nc lc tx len at_ C_53 R CL_53 RL) n H := hP
    refine W.eq (g2 := F0 m 194 ls []) rfl ?_
    refine lv_aload_n hx hb (fh_d d_Ty_setNucleus 75 rfl) rfl (lv_at hl 1 rfl) ?_
    refine lv_aload_n hx hb (fh_d d_Ty_setNucleus 76 rfl) rfl (lv_at hl 0 rfl) ?_
    refine fh_get (own := "FormulaSetter$Typesetter") (ref := "FormulaSetter$Typesetter") (C := "FormulaSetter$Typesetter") (T := T_Ty) (N := 2) (v := .ref (x + 227)) hx hb hT i_Ty hown hK hP ((mkR_g (by omega) (by omega) (by omega)).trans mkG_ts) rfl 0 (by decide) (hT _ w247) (fun _ h9 => h9) rfl (fh_d d_Ty_setNucleus 77 rfl) ?_
    refine fh_get (own := "FormulaSetter$Typesetter") (ref := "FormulaSetter$Sheet") (C := "FormulaSetter$Sheet") (T := T_Sh) (N := 2) (v := .int (nI c_53)) hx hb hT i_Sh hown hK hP ((mkR_g (by omega) (by omega) (by omega)).trans mkG_sh) rfl 1 (by decide) (hT _ w217) (fun _ h9 => h9) rfl (fh_d d_Ty_setNucleus 78 rfl) ?_
    refine fh_put (own := "FormulaSetter$Typesetter") (ref := "FormulaSetter$Nucleus") (C := "FormulaSetter$Nucleus") (T := T_Nu) (N := 15) (v := .int (nI c_53)) (ty := .int) hx hb hT i_Nu t_Nu k_Nu n_Nu hown hK hP hS (mkR_nu (hi)) rfl 4 (by decide) (hT _ w111) (fun x9 h9 => u_same (hT _ w112) x9 h9) rfl (by decide +kernel) rfl rfl (Nat.le_of_ble_eq_true rfl) (fh_d d_Ty_setNucleus 79 rfl) (fun H locs hP hS => ?_)
    replace hP := fh_P.eq (h' := mkR x kA aA (mkG ct x g (nI c_53) F_53 W_53 H_53 D_53 ro_53 co_53) nc lc tx len at_ (sT C_53 i 4 (nI c_53)) R CL_53 RL) hP (mkR_nu4 (v := nI c_53) (hi))
    have f54 : (sT C_53 i 4 (nI c_53)) i 4 = nI c_53 := sT_same
    have y55 : okB (sT C_53 i 4 (nI c_53)) CL_53 := okB_C ob_53 i 4 (nI c_53) (fun _ => okv_n hc_53)
    refine fh_vret X hP hS (fh_d d_Ty_setNucleus 80 rfl) ⟨rfl, ?_, rfl⟩
    · unfold sNu; dsimp only; rw [h5]; dsimp only [Option.getD]; rw [h11, hch]; show _ = hz ct x kA aA g nc lc tx len at_ R RL ((fun t2 : TS => (t2.1, t2.2.1, t2.2.2.1, t2.2.2.2.1, t2.2.2.2.2.1, t2.2.2.2.2.2.1, t2.2.2.2.2.2.2.1, sT t2.2.2.2.2.2.2.2.1 i 4 (nI t2.1), t2.2.2.2.2.2.2.2.2)) (sMat L1 i (l0 :: t9) si cr (c0, F, W0, H0, D0, rows, cols, sT C i 3 (nI c0), CL))); rw [← e_53]; rfl
