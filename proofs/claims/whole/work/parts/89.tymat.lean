/-! Typesetter: setMatrix. Printed by wip/whole/gen/p89.py -/
theorem okc_of {C CL : Nat → Nat → Int32} (h : okB C CL) {l : Nat} (hl : l < 161) : okc CL l := ⟨hl, (h.2 l hl).2.2⟩
theorem gm_le (CL : Nat → Nat → Int32) : ∀ (cs : List Nat) (z : GS), (∀ l ∈ cs, okc CL l) → z.2.2.2.1 ≤ 8 → z.2.2.2.2 ≤ 8 → (cs.foldl (gmS CL) z).2.2.2.1 ≤ 8 ∧ (cs.foldl (gmS CL) z).2.2.2.2 ≤ 8 := by
  intro cs
  induction cs with
  | nil => intro z _ h1 h2; exact ⟨h1, h2⟩
  | cons c cs ih =>
    rintro ⟨W, H, D, ro, co⟩ hok h1 h2
    have hc := hok c List.mem_cons_self
    exact ih _ (fun l hl => hok l (List.mem_cons_of_mem _ hl)) (Nat.max_le.mpr ⟨h1, by omega⟩) (Nat.max_le.mpr ⟨h2, by omega⟩)
set_option maxHeartbeats 4000000 in
set_option maxRecDepth 100000 in
theorem m_Ty_setMatrix (l : Launch) (D : va_G) (ct : Nat → ClassId) (b : Nat) (RO : State → Prop) (hR : fh_R b RO) (sA sV : Nat → Nat) (hSt : ∀ U, RO U → ro_S b sA sV U) (kA aA yA : Nat → Nat) (tK tS tM : Nat) (hEn : ∀ U, RO U → ro_E b sA kA aA yA tK tS tM U) (hAd : ad_ok kA aA yA)  (n x : Nat) (g : fh_H) (c0 : Nat) (hc0 : c0 ≤ 120) (F W0 H0 D0 : Nat → Int32) (rows cols : Int32) (nc lc : Int32) (tx : Value) (len at_ : Int32) (C : Nat → Nat → Int32) (R : Nat → Nat → Option Nat) (CL : Nat → Nat → Int32) (RL : Nat → Nat → Option Nat) (hokB : okB C CL) (L1 : FN) (okL : Nat → Prop) (r0 : Nat) (hL1 : cSL l D ct b RO kA aA yA n x g nc lc tx len at_ R RL okL r0 L1) (hB1 : bSN 161 okL L1) (r : Nat) (hr : r0 + 1 ≤ r) (hr4 : 4 ≤ r) (i si : Nat) (hi : i < 60) (hsi : si < 4) (cr l0 : Nat) (hcr : cr ≤ 1) (t0 cs : List Nat) (hcs : cs = l0 :: t0) (hnx : nxC RL 8 cs) (hlt : ∀ l ∈ cs, l < 161) (hol : ∀ l ∈ cs, okL l) : fh_C l D fh_cl (fh_tys ct) b RO y_Ty_setMatrix (Cond.code y_Ty_setMatrix c_Ty_setMatrix 9 (Option.none : Option FieldType) :: fh_T) (fh_rm r 0 0) [.ref (x + 226), .ref (x + 4 + i), .ref (x + 65 + l0), .ref (yA si), .int (nI cr)] (mkR x kA aA (mkG ct x g (nI c0) F W0 H0 D0 rows cols) nc lc tx len at_ C R CL RL) n (fun v h' n' => v = none ∧ h' = hz ct x kA aA g nc lc tx len at_ R RL (sMat L1 i cs si cr (c0, F, W0, H0, D0, rows, cols, C, CL)) ∧ n' = n) 0 0 := by
  refine fh_enter (by decide) (Nat.le_of_ble_eq_true rfl) [(0, .ref (x + 226)), (1, .ref (x + 4 + i)), (2, .ref (x + 65 + l0)), (3, .ref (yA si)), (4, .int (nI cr))] rfl ?_
  intro p e s m args below meth c H ls X hP hS hl
  have hx := X.1
  have hb := X.2.1
  have hml := X.2.2.1
  have hown : s.vm.findClass "FormulaSetter$Typesetter" = some m.cls := X.2.2.2.1
  have hT := X.2.2.2.2.1
  have hK := X.2.2.2.2.2.1
  have hRO := X.2.2.2.2.2.2.1
  have hnm : meth.name = "setMatrix" := X.2.2.2.2.2.2.2.2.2.2
  have tail : ∀ (c9 : Nat) (F9 W9 H9 D9 : Nat → Int32) (ro9 co9 : Int32) (C9 CL9 : Nat → Nat → Int32), okT (c9, F9, W9, H9, D9, ro9, co9, C9, CL9) → cs.foldl (fun t l => L1 t l (yCe si) cr) (c0, F, W0, H0, D0, rows, cols, C, CL) = (c9, F9, W9, H9, D9, ro9, co9, C9, CL9) → ∀ (H : Heap) (locs : List Loc) (ls : Array Slot), fh_P D fh_cl b (mkR x kA aA (mkG ct x g (nI c9) F9 W9 H9 D9 ro9 co9) nc lc tx len at_ C9 R CL9 RL) n H → va_S (fh_A b) s.heap H locs → lv_has ls 9 [(0, .ref (x + 226)), (1, .ref (x + 4 + i)), (2, .ref (x + 65 + l0)), (3, .ref (yA si)), (4, .int (nI cr))] → W p l e (fh_rm r 0 0) s m args below meth c H locs 0 0 (MQ below (fh_Post D fh_cl b (fun v h' n' => v = none ∧ h' = hz ct x kA aA g nc lc tx len at_ R RL (sMat L1 i cs si cr (c0, F, W0, H0, D0, rows, cols, C, CL)) ∧ n' = n)) args s 0 0 (fh_A b)) (F0 m 30 ls []) := by
    intro c9 F9 W9 H9 D9 ro9 co9 C9 CL9 o9 hfo H locs ls hP hS hl
    have hoc9 : ∀ l ∈ cs, okc CL9 l := fun l h9 => okc_of o9.2 (hlt l h9)
    obtain ⟨⟨V2, K2, D2, ro2, co2⟩, e2⟩ : ∃ z, z = gmM CL9 W9 H9 D9 (yS si) cs := ⟨_, rfl⟩
    have hg := gm_le CL9 cs (fiF W9 0 8, fiF H9 (5 * yS si) 8, fiF D9 (2 * yS si) 8, 0, 0) hoc9 (Nat.zero_le _) (Nat.zero_le _)
    have hg2 : (gmM CL9 W9 H9 D9 (yS si) cs).2.2.2.1 ≤ 8 ∧ (gmM CL9 W9 H9 D9 (yS si) cs).2.2.2.2 ≤ 8 := hg
    rw [← e2] at hg2
    have hro2 : ro2 ≤ 8 := hg2.1
    have hco2 : co2 ≤ 8 := hg2.2
    refine lv_aload_n hx hb (fh_d d_Ty_setMatrix 14 rfl) rfl (lv_at hl 3 rfl) ?_
    refine vk_getf (own := "FormulaSetter$Typesetter") (ref := "FormulaSetter$Style") hx hb (((hEn _ hRO).2.2.1 si hsi).2.2.2.1) hS hown (hT _ w1249) (fun _ h9 => h9) (fh_d d_Ty_setMatrix 15 rfl) ?_
    refine lv_istore (lv' := [(5, .int (yS si)), (0, .ref (x + 226)), (1, .ref (x + 4 + i)), (2, .ref (x + 65 + l0)), (3, .ref (yA si)), (4, .int (nI cr))]) hx hb (fh_d d_Ty_setMatrix 16 rfl) hl (by decide) rfl (fun ls hl => ?_)
    refine lv_aload_n hx hb (fh_d d_Ty_setMatrix 17 rfl) rfl (lv_at hl 1 rfl) ?_
    refine fh_get (own := "FormulaSetter$Typesetter") (ref := "FormulaSetter$Typesetter") (C := "FormulaSetter$Typesetter") (T := T_Ty) (N := 2) (v := .ref (x + 229)) hx hb hT i_Ty hown hK hP ((mkR_g (by omega) (by omega) (by omega)).trans mkG_ts) rfl 1 (by decide) (hT _ w249) (fun _ h9 => h9) rfl (fh_d d_Ty_setMatrix 18 rfl) ?_
    refine lv_aload_n hx hb (fh_d d_Ty_setMatrix 19 rfl) rfl (lv_at hl 3 rfl) ?_
    refine lv_iload hx hb (fh_d d_Ty_setMatrix 20 rfl) (lv_at hl 0 rfl) ?_
    refine fh_callV (cc' := c_Gr_measure) (nL' := 6) (rest := []) (a := x + 229) (As := [.ref (x + 65 + l0), .int (yS si)]) X hR (m_Gr_measure l D ct b RO hR (r - 1) (by omega) n x kA aA g (nI c9) F9 W9 H9 D9 ro9 co9 nc lc tx len at_ C9 R CL9 RL l0 t0 cs hcs hnx hoc9 (yS si)) w757 w754 w755 w756 w8 ⟨by decide, by decide, by show _ = some 2; decide +kernel⟩ (by omega) (by decide) (fh_recv hK hP ((mkR_g (by omega) (by omega) (by omega)).trans mkG_gr) rfl) hP hS hl.1 rfl (by exact Nat.le_of_ble_eq_true rfl) (fh_d d_Ty_setMatrix 21 rfl) ⟨Nat.le_refl _, Nat.le_refl _⟩ (fun v9 h9 n9 H locs hq hP hS => ?_)
    rw [← e2] at hq
    obtain ⟨rfl, q1a, q1b⟩ := hq
    rw [q1a, q1b] at hP
    replace hP : fh_P D fh_cl b (mkR x kA aA (mkG ct x g (nI c9) F9 V2 K2 D2 (nI ro2) (nI co2)) nc lc tx len at_ C9 R CL9 RL) n H := hP
    refine W.eq (g2 := F0 m 46 ls []) rfl ?_
    refine lv_aload_n hx hb (fh_d d_Ty_setMatrix 22 rfl) rfl (lv_at hl 1 rfl) ?_
    refine fh_get (own := "FormulaSetter$Typesetter") (ref := "FormulaSetter$Typesetter") (C := "FormulaSetter$Typesetter") (T := T_Ty) (N := 2) (v := .ref (x + 229)) hx hb hT i_Ty hown hK hP ((mkR_g (by omega) (by omega) (by omega)).trans mkG_ts) rfl 1 (by decide) (hT _ w249) (fun _ h9 => h9) rfl (fh_d d_Ty_setMatrix 23 rfl) ?_
    refine lv_iload hx hb (fh_d d_Ty_setMatrix 24 rfl) (lv_at hl 0 rfl) ?_
    refine fh_callV (cc' := c_Gr_wholeHeight) (nL' := 2) (rest := []) (a := x + 229) (As := [.int (yS si)]) X hR (m_Gr_wholeHeight l D ct b RO hR (r - 1) (by omega) n x kA aA g (nI c9) F9 V2 K2 D2 (nI co2) ro2 hro2 nc lc tx len at_ C9 R CL9 RL (yS si)) w772 w769 w770 w771 w8 ⟨by decide, by decide, by show _ = some 1; decide +kernel⟩ (by omega) (by decide) (fh_recv hK hP ((mkR_g (by omega) (by omega) (by omega)).trans mkG_gr) rfl) hP hS hl.1 rfl (by exact Nat.le_of_ble_eq_true rfl) (fh_d d_Ty_setMatrix 25 rfl) ⟨Nat.le_refl _, Nat.le_refl _⟩ (fun v9 h9 n9 H locs hq hP hS => ?_)
    obtain ⟨rfl, q2a, q2b⟩ := hq
    rw [q2a, q2b] at hP
    refine W.eq (g2 := F0 m 55 ls [.int ((tpO K2 D2 (yS si) ro2) - (yS si))]) rfl ?_
    refine lv_istore (lv' := [(6, .int ((tpO K2 D2 (yS si) ro2) - (yS si))), (5, .int (yS si)), (0, .ref (x + 226)), (1, .ref (x + 4 + i)), (2, .ref (x + 65 + l0)), (3, .ref (yA si)), (4, .int (nI cr))]) hx hb (fh_d d_Ty_setMatrix 26 rfl) hl (by decide) rfl (fun ls hl => ?_)
    refine lv_aload_n hx hb (fh_d d_Ty_setMatrix 27 rfl) rfl (lv_at hl 5 rfl) ?_
    refine vk_getf (own := "FormulaSetter$Typesetter") (ref := "FormulaSetter$Style") hx hb (((hEn _ hRO).2.2.1 si hsi).2.2.2.2.2) hS hown (hT _ w1250) (fun _ h9 => h9) (fh_d d_Ty_setMatrix 28 rfl) ?_
    refine lv_iload hx hb (fh_d d_Ty_setMatrix 29 rfl) (lv_at hl 0 rfl) ?_
    refine lv_iconst (v := 2) hx hb (fh_d d_Ty_setMatrix 30 rfl) (by decide) ?_
    refine lv_idiv hx hb (fh_d d_Ty_setMatrix 31 rfl) (by decide) ?_
    refine lv_iadd hx hb (fh_d d_Ty_setMatrix 32 rfl) ?_
    refine lv_istore (lv' := [(7, .int ((yX si) + (((tpO K2 D2 (yS si) ro2) - (yS si)) / 2))), (6, .int ((tpO K2 D2 (yS si) ro2) - (yS si))), (5, .int (yS si)), (0, .ref (x + 226)), (1, .ref (x + 4 + i)), (2, .ref (x + 65 + l0)), (3, .ref (yA si)), (4, .int (nI cr))]) hx hb (fh_d d_Ty_setMatrix 33 rfl) hl (by decide) rfl (fun ls hl => ?_)
    refine lv_aload_n hx hb (fh_d d_Ty_setMatrix 34 rfl) rfl (lv_at hl 5 rfl) ?_
    refine lv_astore (lv' := [(8, .ref (x + 65 + l0)), (7, .int ((yX si) + (((tpO K2 D2 (yS si) ro2) - (yS si)) / 2))), (6, .int ((tpO K2 D2 (yS si) ro2) - (yS si))), (5, .int (yS si)), (0, .ref (x + 226)), (1, .ref (x + 4 + i)), (2, .ref (x + 65 + l0)), (3, .ref (yA si)), (4, .int (nI cr))]) hx hb (fh_d d_Ty_setMatrix 35 rfl) hl (by decide) rfl (fun ls hl => ?_)
    have moves : ∀ (t : List Nat) (F8 : Nat → Int32), nxC RL 8 t → (∀ l ∈ t, okc CL9 l) → t.foldl (fun F l => mvN F CL9 l (gX V2 CL9 (yS si) l) ((yX si) + (((tpO K2 D2 (yS si) ro2) - (yS si)) / 2) - gY K2 D2 CL9 (yS si) l)) F8 = cs.foldl (fun F l => mvN F CL9 l (gX V2 CL9 (yS si) l) ((yX si) + (((tpO K2 D2 (yS si) ro2) - (yS si)) / 2) - gY K2 D2 CL9 (yS si) l)) F9 → ∀ (H : Heap) (locs : List Loc) (ls : Array Slot), fh_P D fh_cl b (mkR x kA aA (mkG ct x g (nI c9) F8 V2 K2 D2 (nI ro2) (nI co2)) nc lc tx len at_ C9 R CL9 RL) n H → va_S (fh_A b) s.heap H locs → lv_has ls 9 [(8, va_rf ((t.head?).map (fun z => x + 65 + z))), (7, .int ((yX si) + (((tpO K2 D2 (yS si) ro2) - (yS si)) / 2))), (6, .int ((tpO K2 D2 (yS si) ro2) - (yS si))), (5, .int (yS si)), (0, .ref (x + 226)), (1, .ref (x + 4 + i))] → W p l e (fh_rm r 0 0) s m args below meth c H locs 0 0 (MQ below (fh_Post D fh_cl b (fun v h' n' => v = none ∧ h' = hz ct x kA aA g nc lc tx len at_ R RL (sMat L1 i cs si cr (c0, F, W0, H0, D0, rows, cols, C, CL)) ∧ n' = n)) args s 0 0 (fh_A b)) (F0 m 71 ls []) := by
      intro t
      induction t with
      | nil =>
        intro F8 hnt hot hfm H locs ls hP hS hl
        have hl : lv_has ls 9 [(8, .null), (7, .int ((yX si) + (((tpO K2 D2 (yS si) ro2) - (yS si)) / 2))), (6, .int ((tpO K2 D2 (yS si) ro2) - (yS si))), (5, .int (yS si)), (0, .ref (x + 226)), (1, .ref (x + 4 + i))] := hl
        refine lv_aloadN hx hb (fh_d d_Ty_setMatrix 36 rfl) (lv_at hl 0 rfl) ?_
        refine lv_ifnullN (tgt := 120) hx hb (fh_d d_Ty_setMatrix 37 rfl) rfl ?_
        refine lv_aload_n hx hb (fh_d d_Ty_setMatrix 58 rfl) rfl (lv_at hl 5 rfl) ?_
        refine lv_aload_n hx hb (fh_d d_Ty_setMatrix 59 rfl) rfl (lv_at hl 4 rfl) ?_
        refine fh_get (own := "FormulaSetter$Typesetter") (ref := "FormulaSetter$Typesetter") (C := "FormulaSetter$Typesetter") (T := T_Ty) (N := 2) (v := .ref (x + 229)) hx hb hT i_Ty hown hK hP ((mkR_g (by omega) (by omega) (by omega)).trans mkG_ts) rfl 1 (by decide) (hT _ w249) (fun _ h9 => h9) rfl (fh_d d_Ty_setMatrix 60 rfl) ?_
        refine lv_iload hx hb (fh_d d_Ty_setMatrix 61 rfl) (lv_at hl 3 rfl) ?_
        refine fh_callV (cc' := c_Gr_wholeWidth) (nL' := 2) (rest := [.ref (x + 4 + i)]) (a := x + 229) (As := [.int (yS si)]) X hR (m_Gr_wholeWidth l D ct b RO hR (r - 1) (by omega) n x kA aA g (nI c9) F8 V2 K2 D2 (nI ro2) co2 hco2 nc lc tx len at_ C9 R CL9 RL (yS si)) w792 w789 w790 w791 w8 ⟨by decide, by decide, by show _ = some 1; decide +kernel⟩ (by omega) (by decide) (fh_recv hK hP ((mkR_g (by omega) (by omega) (by omega)).trans mkG_gr) rfl) hP hS hl.1 rfl (by exact Nat.le_of_ble_eq_true rfl) (fh_d d_Ty_setMatrix 62 rfl) ⟨Nat.le_refl _, Nat.le_refl _⟩ (fun v9 h9 n9 H locs hq hP hS => ?_)
        obtain ⟨rfl, q4a, q4b⟩ := hq
        rw [q4a, q4b] at hP
        refine W.eq (g2 := F0 m 130 ls [.int ((lfO V2 (yS si) co2) - (4 * (yS si))), .ref (x + 4 + i)]) rfl ?_
        refine lv_iload hx hb (fh_d d_Ty_setMatrix 63 rfl) (lv_at hl 1 rfl) ?_
        refine lv_iconst (v := 0) hx hb (fh_d d_Ty_setMatrix 64 rfl) (by decide) ?_
        refine lv_iload hx hb (fh_d d_Ty_setMatrix 65 rfl) (lv_at hl 2 rfl) ?_
        refine lv_iload hx hb (fh_d d_Ty_setMatrix 66 rfl) (lv_at hl 1 rfl) ?_
        refine lv_isub hx hb (fh_d d_Ty_setMatrix 67 rfl) ?_
        refine va_mmax hx hb (hml.trans hl.1.symm) hown (hT _ w704) (hT _ w431) (hT _ w14) (hT _ w432) (by show 1 ≤ r; omega) (by show _ ≤ 60 * r; simp [Value.category]; omega) (Nat.le_refl _) (Nat.le_refl _) (fh_d d_Ty_setMatrix 68 rfl) ?_
        refine fh_callU (cc' := c_Bo_measure) (nL' := 4) (rest := []) (a := x + 4 + i) (As := [.int ((lfO V2 (yS si) co2) - (4 * (yS si))), .int ((yX si) + (((tpO K2 D2 (yS si) ro2) - (yS si)) / 2)), .int (if (0 : Int32) < (((tpO K2 D2 (yS si) ro2) - (yS si)) - ((yX si) + (((tpO K2 D2 (yS si) ro2) - (yS si)) / 2))) then (((tpO K2 D2 (yS si) ro2) - (yS si)) - ((yX si) + (((tpO K2 D2 (yS si) ro2) - (yS si)) / 2))) else (0 : Int32))]) (Ck := "FormulaSetter$Nucleus") (owner := "FormulaSetter$Box") (x' := ⟨"FormulaSetter$Nucleus", "measure", "(III)V"⟩) X hR (m_Bo_measureNu l D ct b RO (r - 1) n x kA aA g (nI c9) F8 V2 K2 D2 (nI ro2) (nI co2) nc lc tx len at_ C9 R CL9 RL i (hi) ((lfO V2 (yS si) co2) - (4 * (yS si))) ((yX si) + (((tpO K2 D2 (yS si) ro2) - (yS si)) / 2)) (if (0 : Int32) < (((tpO K2 D2 (yS si) ro2) - (yS si)) - ((yX si) + (((tpO K2 D2 (yS si) ro2) - (yS si)) / 2))) then (((tpO K2 D2 (yS si) ro2) - (yS si)) - ((yX si) + (((tpO K2 D2 (yS si) ro2) - (yS si)) / 2))) else (0 : Int32))) w655 w691 w692 rfl w654 w693 w3 ⟨by decide, by decide, by show _ = some 3; decide +kernel⟩ (by omega) (by decide) (fh_recv hK hP (mkR_nu (hi)) rfl) hP hS hl.1 rfl (by exact Nat.le_of_ble_eq_true rfl) (fh_d d_Ty_setMatrix 69 rfl) ⟨Nat.le_refl _, Nat.le_refl _⟩ (fun v9 h9 n9 H locs hq hP hS => ?_)
        obtain ⟨rfl, q5a, q5b⟩ := hq
        rw [q5a, q5b] at hP
        refine W.eq (g2 := F0 m 144 ls []) rfl ?_
        have f6 : (sT (sT (sT C9 i 0 ((lfO V2 (yS si) co2) - (4 * (yS si)))) i 1 ((yX si) + (((tpO K2 D2 (yS si) ro2) - (yS si)) / 2))) i 2 (if (0 : Int32) < (((tpO K2 D2 (yS si) ro2) - (yS si)) - ((yX si) + (((tpO K2 D2 (yS si) ro2) - (yS si)) / 2))) then (((tpO K2 D2 (yS si) ro2) - (yS si)) - ((yX si) + (((tpO K2 D2 (yS si) ro2) - (yS si)) / 2))) else (0 : Int32))) i 0 = (lfO V2 (yS si) co2) - (4 * (yS si)) := (sT_ne (by omega)).trans ((sT_ne (by omega)).trans sT_same)
        have f7 : (sT (sT (sT C9 i 0 ((lfO V2 (yS si) co2) - (4 * (yS si)))) i 1 ((yX si) + (((tpO K2 D2 (yS si) ro2) - (yS si)) / 2))) i 2 (if (0 : Int32) < (((tpO K2 D2 (yS si) ro2) - (yS si)) - ((yX si) + (((tpO K2 D2 (yS si) ro2) - (yS si)) / 2))) then (((tpO K2 D2 (yS si) ro2) - (yS si)) - ((yX si) + (((tpO K2 D2 (yS si) ro2) - (yS si)) / 2))) else (0 : Int32))) i 1 = (yX si) + (((tpO K2 D2 (yS si) ro2) - (yS si)) / 2) := (sT_ne (by omega)).trans sT_same
        have f8 : (sT (sT (sT C9 i 0 ((lfO V2 (yS si) co2) - (4 * (yS si)))) i 1 ((yX si) + (((tpO K2 D2 (yS si) ro2) - (yS si)) / 2))) i 2 (if (0 : Int32) < (((tpO K2 D2 (yS si) ro2) - (yS si)) - ((yX si) + (((tpO K2 D2 (yS si) ro2) - (yS si)) / 2))) then (((tpO K2 D2 (yS si) ro2) - (yS si)) - ((yX si) + (((tpO K2 D2 (yS si) ro2) - (yS si)) / 2))) else (0 : Int32))) i 2 = if (0 : Int32) < (((tpO K2 D2 (yS si) ro2) - (yS si)) - ((yX si) + (((tpO K2 D2 (yS si) ro2) - (yS si)) / 2))) then (((tpO K2 D2 (yS si) ro2) - (yS si)) - ((yX si) + (((tpO K2 D2 (yS si) ro2) - (yS si)) / 2))) else (0 : Int32) := sT_same
        have y9 : okB (sT (sT (sT C9 i 0 ((lfO V2 (yS si) co2) - (4 * (yS si)))) i 1 ((yX si) + (((tpO K2 D2 (yS si) ro2) - (yS si)) / 2))) i 2 (if (0 : Int32) < (((tpO K2 D2 (yS si) ro2) - (yS si)) - ((yX si) + (((tpO K2 D2 (yS si) ro2) - (yS si)) / 2))) then (((tpO K2 D2 (yS si) ro2) - (yS si)) - ((yX si) + (((tpO K2 D2 (yS si) ro2) - (yS si)) / 2))) else (0 : Int32))) CL9 := okB_m o9.2 i ((lfO V2 (yS si) co2) - (4 * (yS si))) ((yX si) + (((tpO K2 D2 (yS si) ro2) - (yS si)) / 2)) (if (0 : Int32) < (((tpO K2 D2 (yS si) ro2) - (yS si)) - ((yX si) + (((tpO K2 D2 (yS si) ro2) - (yS si)) / 2))) then (((tpO K2 D2 (yS si) ro2) - (yS si)) - ((yX si) + (((tpO K2 D2 (yS si) ro2) - (yS si)) / 2))) else (0 : Int32))
        refine fh_vret X hP hS (fh_d d_Ty_setMatrix 70 rfl) ⟨rfl, ?_, rfl⟩
        · unfold sMat; rw [hfo]; dsimp only; rw [← e2]; dsimp only; rw [← hfm]; rfl
      | cons l9 t ih =>
        intro F8 hnt hot hfm H locs ls hP hS hl
        obtain ⟨hl9, ⟨hr6, hr8⟩, hc7, hc8⟩ := hot l9 List.mem_cons_self
        have hl : lv_has ls 9 [(8, .ref (x + 65 + l9)), (7, .int ((yX si) + (((tpO K2 D2 (yS si) ro2) - (yS si)) / 2))), (6, .int ((tpO K2 D2 (yS si) ro2) - (yS si))), (5, .int (yS si)), (0, .ref (x + 226)), (1, .ref (x + 4 + i))] := hl
        obtain ⟨rw0, erw⟩ : ∃ z, z = ixI (CL9 l9 6) := ⟨_, rfl⟩
        obtain ⟨cw0, ecw⟩ : ∃ z, z = ixI (CL9 l9 7) := ⟨_, rfl⟩
        rw [← erw] at hr6 hr8
        rw [← ecw] at hc7 hc8
        refine lv_aload hx hb (fh_d d_Ty_setMatrix 36 rfl) (lv_at hl 0 rfl) ?_
        refine lv_ifnull hx hb (fh_d d_Ty_setMatrix 37 rfl) ?_
        refine lv_aload_n hx hb (fh_d d_Ty_setMatrix 38 rfl) rfl (lv_at hl 4 rfl) ?_
        refine fh_get (own := "FormulaSetter$Typesetter") (ref := "FormulaSetter$Typesetter") (C := "FormulaSetter$Typesetter") (T := T_Ty) (N := 2) (v := .ref (x + 227)) hx hb hT i_Ty hown hK hP ((mkR_g (by omega) (by omega) (by omega)).trans mkG_ts) rfl 0 (by decide) (hT _ w247) (fun _ h9 => h9) rfl (fh_d d_Ty_setMatrix 39 rfl) ?_
        refine lv_aload hx hb (fh_d d_Ty_setMatrix 40 rfl) (lv_at hl 0 rfl) ?_
        refine lv_aload_n hx hb (fh_d d_Ty_setMatrix 41 rfl) rfl (lv_at hl 4 rfl) ?_
        refine fh_get (own := "FormulaSetter$Typesetter") (ref := "FormulaSetter$Typesetter") (C := "FormulaSetter$Typesetter") (T := T_Ty) (N := 2) (v := .ref (x + 229)) hx hb hT i_Ty hown hK hP ((mkR_g (by omega) (by omega) (by omega)).trans mkG_ts) rfl 1 (by decide) (hT _ w249) (fun _ h9 => h9) rfl (fh_d d_Ty_setMatrix 42 rfl) ?_
        refine lv_aload hx hb (fh_d d_Ty_setMatrix 43 rfl) (lv_at hl 0 rfl) ?_
        refine lv_iload hx hb (fh_d d_Ty_setMatrix 44 rfl) (lv_at hl 3 rfl) ?_
        refine fh_callV (cc' := c_Gr_xOf) (nL' := 4) (rest := [.ref (x + 65 + l9), .ref (x + 227)]) (a := x + 229) (As := [.ref (x + 65 + l9), .int (yS si)]) X hR (m_Gr_xOf l D ct b RO hR (r - 1) (by omega) n x kA aA g (nI c9) F8 V2 K2 D2 (nI ro2) (nI co2) nc lc tx len at_ C9 R CL9 RL l9 hl9 cw0 hc8 hc7 (yS si)) w780 w777 w778 w779 w8 ⟨by decide, by decide, by show _ = some 2; decide +kernel⟩ (by omega) (by decide) (fh_recv hK hP ((mkR_g (by omega) (by omega) (by omega)).trans mkG_gr) rfl) hP hS hl.1 rfl (by exact Nat.le_of_ble_eq_true rfl) (fh_d d_Ty_setMatrix 45 rfl) ⟨Nat.le_refl _, Nat.le_refl _⟩ (fun v9 h9 n9 H locs hq hP hS => ?_)
        obtain ⟨rfl, q11a, q11b⟩ := hq
        rw [q11a, q11b] at hP
        refine W.eq (g2 := F0 m 93 ls [.int (gX V2 CL9 (yS si) l9), .ref (x + 65 + l9), .ref (x + 227)]) (by unfold gX; rw [← ecw]; rfl) ?_
        refine lv_iload hx hb (fh_d d_Ty_setMatrix 46 rfl) (lv_at hl 1 rfl) ?_
        refine lv_aload_n hx hb (fh_d d_Ty_setMatrix 47 rfl) rfl (lv_at hl 4 rfl) ?_
        refine fh_get (own := "FormulaSetter$Typesetter") (ref := "FormulaSetter$Typesetter") (C := "FormulaSetter$Typesetter") (T := T_Ty) (N := 2) (v := .ref (x + 229)) hx hb hT i_Ty hown hK hP ((mkR_g (by omega) (by omega) (by omega)).trans mkG_ts) rfl 1 (by decide) (hT _ w249) (fun _ h9 => h9) rfl (fh_d d_Ty_setMatrix 48 rfl) ?_
        refine lv_aload hx hb (fh_d d_Ty_setMatrix 49 rfl) (lv_at hl 0 rfl) ?_
        refine lv_iload hx hb (fh_d d_Ty_setMatrix 50 rfl) (lv_at hl 3 rfl) ?_
        refine fh_callV (cc' := c_Gr_baseOf) (nL' := 4) (rest := [.int ((yX si) + (((tpO K2 D2 (yS si) ro2) - (yS si)) / 2)), .int (gX V2 CL9 (yS si) l9), .ref (x + 65 + l9), .ref (x + 227)]) (a := x + 229) (As := [.ref (x + 65 + l9), .int (yS si)]) X hR (m_Gr_baseOf l D ct b RO hR (r - 1) (by omega) n x kA aA g (nI c9) F8 V2 K2 D2 (nI ro2) (nI co2) nc lc tx len at_ C9 R CL9 RL l9 hl9 rw0 hr8 hr6 (yS si)) w788 w785 w786 w787 w8 ⟨by decide, by decide, by show _ = some 2; decide +kernel⟩ (by omega) (by decide) (fh_recv hK hP ((mkR_g (by omega) (by omega) (by omega)).trans mkG_gr) rfl) hP hS hl.1 rfl (by exact Nat.le_of_ble_eq_true rfl) (fh_d d_Ty_setMatrix 51 rfl) ⟨Nat.le_refl _, Nat.le_refl _⟩ (fun v9 h9 n9 H locs hq hP hS => ?_)
        obtain ⟨rfl, q12a, q12b⟩ := hq
        rw [q12a, q12b] at hP
        refine W.eq (g2 := F0 m 106 ls [.int (gY K2 D2 CL9 (yS si) l9), .int ((yX si) + (((tpO K2 D2 (yS si) ro2) - (yS si)) / 2)), .int (gX V2 CL9 (yS si) l9), .ref (x + 65 + l9), .ref (x + 227)]) (by unfold gY; rw [← erw]; rfl) ?_
        refine lv_isub hx hb (fh_d d_Ty_setMatrix 52 rfl) ?_
        refine fh_callV (cc' := c_Sh_move) (nL' := 5) (rest := []) (a := x + 227) (As := [.ref (x + 65 + l9), .int (gX V2 CL9 (yS si) l9), .int (((yX si) + (((tpO K2 D2 (yS si) ro2) - (yS si)) / 2)) - (gY K2 D2 CL9 (yS si) l9))]) X hR (m_Sh_mvLi l D ct b RO (r - 1) (by omega) n x kA aA g (nI c9) F8 V2 K2 D2 (nI ro2) (nI co2) nc lc tx len at_ C9 R CL9 RL l9 (hl9) (o9.2.2 l9 (hl9)).1 (o9.2.2 l9 (hl9)).2.1 (gX V2 CL9 (yS si) l9) (((yX si) + (((tpO K2 D2 (yS si) ro2) - (yS si)) / 2)) - (gY K2 D2 CL9 (yS si) l9))) w723 w720 w721 w722 w7 ⟨by decide, by decide, by show _ = some 3; decide +kernel⟩ (by omega) (by decide) (fh_recv hK hP ((mkR_g (by omega) (by omega) (by omega)).trans mkG_sh) rfl) hP hS hl.1 rfl (by exact Nat.le_of_ble_eq_true rfl) (fh_d d_Ty_setMatrix 53 rfl) ⟨Nat.le_refl _, Nat.le_refl _⟩ (fun v9 h9 n9 H locs hq hP hS => ?_)
        obtain ⟨rfl, q13a, q13b⟩ := hq
        rw [q13a, q13b] at hP
        refine W.eq (g2 := F0 m 110 ls []) rfl ?_
        refine lv_aload hx hb (fh_d d_Ty_setMatrix 54 rfl) (lv_at hl 0 rfl) ?_
        refine fh_get (own := "FormulaSetter$Typesetter") (ref := "FormulaSetter$Line") (C := "FormulaSetter$Line") (T := T_Li) (N := 9) (v := va_rf ((t.head?).map (fun z => x + 65 + z))) hx hb hT i_Li hown hK hP (mkR_li (hl9)) rfl 8 (by decide) (hT _ w165) (fun _ h9 => h9) (by show some (va_rf ((RL l9 8).map (fun z => x + 65 + z))) = _; rw [hnt.1]) (fh_d d_Ty_setMatrix 55 rfl) ?_
        refine fq_astore (lv' := [(8, va_rf ((t.head?).map (fun z => x + 65 + z))), (7, .int ((yX si) + (((tpO K2 D2 (yS si) ro2) - (yS si)) / 2))), (6, .int ((tpO K2 D2 (yS si) ro2) - (yS si))), (5, .int (yS si)), (0, .ref (x + 226)), (1, .ref (x + 4 + i))]) hx hb (fh_d d_Ty_setMatrix 56 rfl) hl (by decide) rfl (fun ls hl => ?_)
        refine lv_goto (tgt := 71) hx hb (fh_d d_Ty_setMatrix 57 rfl) rfl ?_
        exact ih _ hnt.2 (fun l h9 => hot l (List.mem_cons_of_mem _ h9)) (by rw [← hfm]; rfl) H locs ls hP hS (lv_sub hl [0, 1, 2, 3, 4, 5] rfl)
    exact moves cs F9 hnx hoc9 rfl H locs ls hP hS (by rw [hcs]; exact lv_sub hl [0, 1, 2, 3, 4, 5] rfl)
  have cells : ∀ (t : List Nat) (c9 : Nat) (F9 W9 H9 D9 : Nat → Int32) (ro9 co9 : Int32) (C9 CL9 : Nat → Nat → Int32), okT (c9, F9, W9, H9, D9, ro9, co9, C9, CL9) → nxC RL 8 t → (∀ l ∈ t, l ∈ cs) → t.foldl (fun t l => L1 t l (yCe si) cr) (c9, F9, W9, H9, D9, ro9, co9, C9, CL9) = cs.foldl (fun t l => L1 t l (yCe si) cr) (c0, F, W0, H0, D0, rows, cols, C, CL) → ∀ (H : Heap) (locs : List Loc) (ls : Array Slot), fh_P D fh_cl b (mkR x kA aA (mkG ct x g (nI c9) F9 W9 H9 D9 ro9 co9) nc lc tx len at_ C9 R CL9 RL) n H → va_S (fh_A b) s.heap H locs → lv_has ls 9 [(5, va_rf ((t.head?).map (fun z => x + 65 + z))), (0, .ref (x + 226)), (1, .ref (x + 4 + i)), (2, .ref (x + 65 + l0)), (3, .ref (yA si)), (4, .int (nI cr))] → W p l e (fh_rm r 0 0) s m args below meth c H locs 0 0 (MQ below (fh_Post D fh_cl b (fun v h' n' => v = none ∧ h' = hz ct x kA aA g nc lc tx len at_ R RL (sMat L1 i cs si cr (c0, F, W0, H0, D0, rows, cols, C, CL)) ∧ n' = n)) args s 0 0 (fh_A b)) (F0 m 3 ls []) := by
    intro t
    induction t with
    | nil =>
      intro c9 F9 W9 H9 D9 ro9 co9 C9 CL9 o9 hnt hmem hfo H locs ls hP hS hl
      have hl : lv_has ls 9 [(5, .null), (0, .ref (x + 226)), (1, .ref (x + 4 + i)), (2, .ref (x + 65 + l0)), (3, .ref (yA si)), (4, .int (nI cr))] := hl
      refine lv_aloadN hx hb (fh_d d_Ty_setMatrix 2 rfl) (lv_at hl 0 rfl) ?_
      refine lv_ifnullN (tgt := 30) hx hb (fh_d d_Ty_setMatrix 3 rfl) rfl ?_
      exact tail _ _ _ _ _ _ _ _ _ o9 hfo.symm H locs ls hP hS (lv_sub hl [1, 2, 3, 4, 5] rfl)
    | cons l9 t ih =>
      intro c9 F9 W9 H9 D9 ro9 co9 C9 CL9 o9 hnt hmem hfo H locs ls hP hS hl
      have hm9 := hmem l9 List.mem_cons_self
      have hl9 := hlt l9 hm9
      have hol9 := hol l9 hm9
      have hl : lv_has ls 9 [(5, .ref (x + 65 + l9)), (0, .ref (x + 226)), (1, .ref (x + 4 + i)), (2, .ref (x + 65 + l0)), (3, .ref (yA si)), (4, .int (nI cr))] := hl
      refine lv_aload hx hb (fh_d d_Ty_setMatrix 2 rfl) (lv_at hl 0 rfl) ?_
      refine lv_ifnull hx hb (fh_d d_Ty_setMatrix 3 rfl) ?_
      refine lv_aload_n hx hb (fh_d d_Ty_setMatrix 4 rfl) rfl (lv_at hl 1 rfl) ?_
      refine lv_aload hx hb (fh_d d_Ty_setMatrix 5 rfl) (lv_at hl 0 rfl) ?_
      refine lv_aload_n hx hb (fh_d d_Ty_setMatrix 6 rfl) rfl (lv_at hl 4 rfl) ?_
      refine fh_callV (cc' := c_Sy_forCells) (nL' := 1) (rest := [.ref (x + 65 + l9), .ref (x + 226)]) (a := yA si) (As := []) X hR (m_Sy_forCells l D ct b RO sA sV hSt kA aA yA tK tS tM hEn hAd (r - 1) n si hsi (mkR x kA aA (mkG ct x g (nI c9) F9 W9 H9 D9 ro9 co9) nc lc tx len at_ C9 R CL9 RL)) w753 w750 w751 w752 w24 ⟨by decide, by decide, by show _ = some 0; decide +kernel⟩ (by omega) (by decide) (fs_recv ((hEn _ hRO).2.2.1 si hsi).2.1 hS) hP hS hl.1 rfl (by exact Nat.le_of_ble_eq_true rfl) (fh_d d_Ty_setMatrix 7 rfl) ⟨Nat.le_refl _, Nat.le_refl _⟩ (fun v9 h9 n9 H locs hq hP hS => ?_)
      obtain ⟨rfl, q16a, q16b⟩ := hq
      rw [q16a, q16b] at hP
      refine W.eq (g2 := F0 m 15 ls [.ref (yA (yCe si)), .ref (x + 65 + l9), .ref (x + 226)]) rfl ?_
      refine lv_iload hx hb (fh_d d_Ty_setMatrix 8 rfl) (lv_at hl 5 rfl) ?_
      refine fh_callV (cc' := c_Ty_setLine) (nL' := 8) (rest := []) (a := x + 226) (As := [.ref (x + 65 + l9), .ref (yA (yCe si)), .int (nI cr)]) X hR (hL1 (r - 1) (by omega) (c9, F9, W9, H9, D9, ro9, co9, C9, CL9) ⟨o9.1, o9.2⟩ l9 (yCe si) cr (hl9) hol9 (yCe_lt hsi) hcr) w649 w646 w648 v17 w6 ⟨by decide, by decide, by show _ = some 3; decide +kernel⟩ (by omega) (by decide) (fh_recv hK hP ((mkR_g (by omega) (by omega) (by omega)).trans mkG_ts) rfl) hP hS hl.1 rfl (by exact Nat.le_of_ble_eq_true rfl) (fh_d d_Ty_setMatrix 9 rfl) ⟨Nat.le_refl _, Nat.le_refl _⟩ (fun v9 h9 n9 H locs hq hP hS => ?_)
      obtain ⟨⟨c_17, F_17, W_17, H_17, D_17, ro_17, co_17, C_17, CL_17⟩, e_17⟩ : ∃ z, z = L1 (c9, F9, W9, H9, D9, ro9, co9, C9, CL9) l9 (yCe si) cr := ⟨_, rfl⟩
      obtain ⟨rfl, q_17a, q_17b⟩ := hq
      rw [← e_17] at q_17a
      rw [q_17a, q_17b] at hP
      have o_17 : okT (c_17, F_17, W_17, H_17, D_17, ro_17, co_17, C_17, CL_17) := by rw [e_17]; exact hB1 _ _ _ _ ⟨o9.1, o9.2⟩ (hl9) hol9
      have hc_17 : c_17 ≤ 120 := o_17.1
      have ob_17 : okB C_17 CL_17 := o_17.2
      replace hP : fh_P D fh_cl b (mkR x kA aA (mkG ct x g (nI c_17) F_17 W_17 H_17 D_17 ro_17 co_17) nc lc tx len at_ C_17 R CL_17 RL) n H := hP
      refine W.eq (g2 := F0 m 20 ls []) rfl ?_
      refine lv_aload hx hb (fh_d d_Ty_setMatrix 10 rfl) (lv_at hl 0 rfl) ?_
      refine fh_get (own := "FormulaSetter$Typesetter") (ref := "FormulaSetter$Line") (C := "FormulaSetter$Line") (T := T_Li) (N := 9) (v := va_rf ((t.head?).map (fun z => x + 65 + z))) hx hb hT i_Li hown hK hP (mkR_li (hl9)) rfl 8 (by decide) (hT _ w165) (fun _ h9 => h9) (by show some (va_rf ((RL l9 8).map (fun z => x + 65 + z))) = _; rw [hnt.1]) (fh_d d_Ty_setMatrix 11 rfl) ?_
      refine fq_astore (lv' := [(5, va_rf ((t.head?).map (fun z => x + 65 + z))), (0, .ref (x + 226)), (1, .ref (x + 4 + i)), (2, .ref (x + 65 + l0)), (3, .ref (yA si)), (4, .int (nI cr))]) hx hb (fh_d d_Ty_setMatrix 12 rfl) hl (by decide) rfl (fun ls hl => ?_)
      refine lv_goto (tgt := 3) hx hb (fh_d d_Ty_setMatrix 13 rfl) rfl ?_
      exact ih _ _ _ _ _ _ _ _ _ o_17 hnt.2 (fun l h9 => hmem l (List.mem_cons_of_mem _ h9)) (by rw [e_17]; exact hfo) H locs ls hP hS (lv_sub hl [0, 1, 2, 3, 4, 5] rfl)
  refine lv_aload_n hx hb (fh_d d_Ty_setMatrix 0 rfl) rfl (lv_at hl 2 rfl) ?_
  refine lv_astore (lv' := [(5, .ref (x + 65 + l0)), (0, .ref (x + 226)), (1, .ref (x + 4 + i)), (2, .ref (x + 65 + l0)), (3, .ref (yA si)), (4, .int (nI cr))]) hx hb (fh_d d_Ty_setMatrix 1 rfl) hl (by decide) rfl (fun ls hl => ?_)
  exact cells cs _ _ _ _ _ _ _ _ _ ⟨hc0, hokB⟩ hnx (fun l h9 => h9) rfl H _ _ hP hS (by rw [hcs]; exact lv_sub hl [0, 1, 2, 3, 4, 5] rfl)
