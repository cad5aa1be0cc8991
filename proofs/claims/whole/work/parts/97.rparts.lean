/-! The reference: setFrac, setSqrt, setAccent, setLeft, setLarge. Printed by wip/whole/gen/p97.py -/
def rf_fr (A : Nat → Nat → Int32) (n0 s0 a b2 : Nat) : Nat → Nat → Int32 := if s0 = 0 then (up2 (up2 (up2 (up2 (up2 (up2 (up2 (up2 A 22 (upd (A 22) n0 ((ms ((A 25) a) ((A 25) b2)) + (2 * (yT s0))))) 29 (upd (A 29) a ((((ms ((A 25) a) ((A 25) b2)) + (2 * (yT s0))) - ((A 25) a)) / 2))) 29 (upd (upd (A 29) a ((((ms ((A 25) a) ((A 25) b2)) + (2 * (yT s0))) - ((A 25) a)) / 2)) b2 ((((ms ((A 25) a) ((A 25) b2)) + (2 * (yT s0))) - ((A 25) b2)) / 2))) 30 (upd (A 30) a (ms (7 * (yS s0)) (((((yX s0) - ((yT s0) / 2)) + (yT s0)) + (3 * (yT s0))) + ((A 27) a))))) 30 (upd (upd (A 30) a (ms (7 * (yS s0)) (((((yX s0) - ((yT s0) / 2)) + (yT s0)) + (3 * (yT s0))) + ((A 27) a)))) b2 (-(ms (7 * (yS s0)) ((((A 26) b2) + (3 * (yT s0))) - ((yX s0) - ((yT s0) / 2))))))) 35 (upd (A 35) n0 ((yX s0) - ((yT s0) / 2)))) 23 (upd (A 23) n0 (((upd (upd (A 30) a (ms (7 * (yS s0)) (((((yX s0) - ((yT s0) / 2)) + (yT s0)) + (3 * (yT s0))) + ((A 27) a)))) b2 (-(ms (7 * (yS s0)) ((((A 26) b2) + (3 * (yT s0))) - ((yX s0) - ((yT s0) / 2)))))) a) + ((A 26) a)))) 24 (upd (A 24) n0 (((A 27) b2) - (-(ms (7 * (yS s0)) ((((A 26) b2) + (3 * (yT s0))) - ((yX s0) - ((yT s0) / 2)))))))) else (up2 (up2 (up2 (up2 (up2 (up2 (up2 (up2 A 22 (upd (A 22) n0 ((ms ((A 25) a) ((A 25) b2)) + (2 * (yT s0))))) 29 (upd (A 29) a ((((ms ((A 25) a) ((A 25) b2)) + (2 * (yT s0))) - ((A 25) a)) / 2))) 29 (upd (upd (A 29) a ((((ms ((A 25) a) ((A 25) b2)) + (2 * (yT s0))) - ((A 25) a)) / 2)) b2 ((((ms ((A 25) a) ((A 25) b2)) + (2 * (yT s0))) - ((A 25) b2)) / 2))) 30 (upd (A 30) a (ms (4 * (yS s0)) (((((yX s0) - ((yT s0) / 2)) + (yT s0)) + (yT s0)) + ((A 27) a))))) 30 (upd (upd (A 30) a (ms (4 * (yS s0)) (((((yX s0) - ((yT s0) / 2)) + (yT s0)) + (yT s0)) + ((A 27) a)))) b2 (-(ms (4 * (yS s0)) ((((A 26) b2) + (yT s0)) - ((yX s0) - ((yT s0) / 2))))))) 35 (upd (A 35) n0 ((yX s0) - ((yT s0) / 2)))) 23 (upd (A 23) n0 (((upd (upd (A 30) a (ms (4 * (yS s0)) (((((yX s0) - ((yT s0) / 2)) + (yT s0)) + (yT s0)) + ((A 27) a)))) b2 (-(ms (4 * (yS s0)) ((((A 26) b2) + (yT s0)) - ((yX s0) - ((yT s0) / 2)))))) a) + ((A 26) a)))) 24 (upd (A 24) n0 (((A 27) b2) - (-(ms (4 * (yS s0)) ((((A 26) b2) + (yT s0)) - ((yX s0) - ((yT s0) / 2))))))))
set_option maxHeartbeats 4000000 in
set_option maxRecDepth 100000 in
theorem m_Mo_setFrac (l : Launch) (D : va_G) (ct : Nat → ClassId) (b : Nat) (RO : State → Prop) (hR : fh_R b RO) (r : Nat) (hr : 2 ≤ r) (n x : Nat) (g : fh_H) (A : Nat → Nat → Int32) (th co at_ wr no nu op pi wi he de : Int32) (n0 : Nat) (hn0 : n0 < 400) (s0 : Nat) (hs0 : s0 < 4) (h20 : A 20 n0 = nI s0) (a b2 : Nat) (ha : a < 400) (hb2 : b2 < 400) (h10 : A 10 n0 = nI a) (h11 : A 11 n0 = nI b2) : fh_C l D fh_cl (fh_tys ct) b RO y_Mo_setFrac (Cond.code y_Mo_setFrac c_Mo_setFrac 9 (Option.none : Option FieldType) :: fh_T) (fh_rm r 0 0) [.ref x, .int (nI n0)] (mkM ct x g A th co at_ wr no nu op pi wi he de) n (fun v h' n' => v = none ∧ h' = mkM ct x g (rf_fr A n0 s0 a b2) th co at_ wr no nu op pi wi he de ∧ n' = n) 0 0 := by
  refine fh_enter (by decide) (Nat.le_of_ble_eq_true rfl) [(0, .ref x), (1, .int (nI n0))] rfl ?_
  intro p e s m args below meth c H ls X hP hS hl
  have hx := X.1
  have hb := X.2.1
  have hml := X.2.2.1
  have hown : s.vm.findClass "FormulaSetterModel" = some m.cls := X.2.2.2.1
  have hT := X.2.2.2.2.1
  have hK := X.2.2.2.2.2.1
  have hRO := X.2.2.2.2.2.2.1
  have hnm : meth.name = "setFrac" := X.2.2.2.2.2.2.2.2.2.2
  by_cases hs : s0 = 0
  · skip
    refine lv_aload_n hx hb (fh_d d_Mo_setFrac 0 rfl) rfl (lv_at hl 0 rfl) ?_
    refine fh_get (own := "FormulaSetterModel") (ref := "FormulaSetterModel") (C := "FormulaSetterModel") (T := T_Mo) (N := 53) (v := .ref (x + 21)) hx hb hT i_Mo hown hK hP mkM_o rfl 27 (by decide) (hT _ w887) (fun _ h9 => h9) rfl (fh_d d_Mo_setFrac 1 rfl) ?_
    refine lv_iload_n hx hb (fh_d d_Mo_setFrac 2 rfl) rfl (lv_at hl 1 rfl) ?_
    refine fn_iald (f := A 20) (k := n0) hx hb hK hP 0 mkM_a20 rfl (rfl) (by omega) (by decide) (fh_d d_Mo_setFrac 3 rfl) ?_
    rw [show ((A 20) n0) = nI s0 from h20]
    refine fh_callS (cc' := c_Mo_zOf) (nL' := 1) (rest := []) (av := [.int (nI s0)]) X hR (m_Mo_zO l D ct b RO hR (r - 1) (by omega) n s0 hs0 (mkM ct x g A th co at_ wr no nu op pi wi he de)) w1139 w1137 w1138 w9 ⟨by decide, by decide, by show _ = some 1; decide +kernel⟩ (by omega) (by decide) hP hS hl.1 rfl (by exact Nat.le_of_ble_eq_true rfl) (fh_d d_Mo_setFrac 4 rfl) ⟨Nat.le_refl _, Nat.le_refl _⟩ (fun v9 h9 n9 H locs hq hP hS => ?_)
    obtain ⟨rfl, q1a, q1b⟩ := hq
    rw [q1a, q1b] at hP
    refine W.eq (g2 := F0 m 9 ls [.int (yS s0)]) rfl ?_
    refine lv_istore_n (lv' := [(2, .int (yS s0)), (0, .ref x), (1, .int (nI n0))]) hx hb (fh_d d_Mo_setFrac 5 rfl) rfl hl (by decide) rfl (fun ls hl => ?_)
    refine lv_aload_n hx hb (fh_d d_Mo_setFrac 6 rfl) rfl (lv_at hl 1 rfl) ?_
    refine fh_get (own := "FormulaSetterModel") (ref := "FormulaSetterModel") (C := "FormulaSetterModel") (T := T_Mo) (N := 53) (v := .ref (x + 21)) hx hb hT i_Mo hown hK hP mkM_o rfl 27 (by decide) (hT _ w887) (fun _ h9 => h9) rfl (fh_d d_Mo_setFrac 7 rfl) ?_
    refine lv_iload_n hx hb (fh_d d_Mo_setFrac 8 rfl) rfl (lv_at hl 2 rfl) ?_
    refine fn_iald (f := A 20) (k := n0) hx hb hK hP 0 mkM_a20 rfl (rfl) (by omega) (by decide) (fh_d d_Mo_setFrac 9 rfl) ?_
    rw [show ((A 20) n0) = nI s0 from h20]
    refine fh_callS (cc' := c_Mo_tOf) (nL' := 1) (rest := []) (av := [.int (nI s0)]) X hR (m_Mo_tO l D ct b RO hR (r - 1) (by omega) n s0 hs0 (mkM ct x g A th co at_ wr no nu op pi wi he de)) w1174 w1172 w1173 w9 ⟨by decide, by decide, by show _ = some 1; decide +kernel⟩ (by omega) (by decide) hP hS hl.1 rfl (by exact Nat.le_of_ble_eq_true rfl) (fh_d d_Mo_setFrac 10 rfl) ⟨Nat.le_refl _, Nat.le_refl _⟩ (fun v9 h9 n9 H locs hq hP hS => ?_)
    obtain ⟨rfl, q2a, q2b⟩ := hq
    rw [q2a, q2b] at hP
    refine W.eq (g2 := F0 m 19 ls [.int (yT s0)]) rfl ?_
    refine lv_istore_n (lv' := [(3, .int (yT s0)), (2, .int (yS s0)), (0, .ref x), (1, .int (nI n0))]) hx hb (fh_d d_Mo_setFrac 11 rfl) rfl hl (by decide) rfl (fun ls hl => ?_)
    refine lv_aload_n hx hb (fh_d d_Mo_setFrac 12 rfl) rfl (lv_at hl 2 rfl) ?_
    refine fh_get (own := "FormulaSetterModel") (ref := "FormulaSetterModel") (C := "FormulaSetterModel") (T := T_Mo) (N := 53) (v := .ref (x + 21)) hx hb hT i_Mo hown hK hP mkM_o rfl 27 (by decide) (hT _ w887) (fun _ h9 => h9) rfl (fh_d d_Mo_setFrac 13 rfl) ?_
    refine lv_iload_n hx hb (fh_d d_Mo_setFrac 14 rfl) rfl (lv_at hl 3 rfl) ?_
    refine fn_iald (f := A 20) (k := n0) hx hb hK hP 0 mkM_a20 rfl (rfl) (by omega) (by decide) (fh_d d_Mo_setFrac 15 rfl) ?_
    rw [show ((A 20) n0) = nI s0 from h20]
    refine fh_callS (cc' := c_Mo_axisOf) (nL' := 1) (rest := []) (av := [.int (nI s0)]) X hR (m_Mo_xO l D ct b RO hR (r - 1) (by omega) n s0 hs0 (mkM ct x g A th co at_ wr no nu op pi wi he de)) w1167 w1165 w1166 w9 ⟨by decide, by decide, by show _ = some 1; decide +kernel⟩ (by omega) (by decide) hP hS hl.1 rfl (by exact Nat.le_of_ble_eq_true rfl) (fh_d d_Mo_setFrac 16 rfl) ⟨Nat.le_refl _, Nat.le_refl _⟩ (fun v9 h9 n9 H locs hq hP hS => ?_)
    obtain ⟨rfl, q3a, q3b⟩ := hq
    rw [q3a, q3b] at hP
    refine W.eq (g2 := F0 m 29 ls [.int (yX s0)]) rfl ?_
    refine lv_iload_n hx hb (fh_d d_Mo_setFrac 17 rfl) rfl (lv_at hl 0 rfl) ?_
    refine lv_iconst (v := 2) hx hb (fh_d d_Mo_setFrac 18 rfl) (by decide) ?_
    refine lv_idiv hx hb (fh_d d_Mo_setFrac 19 rfl) (by decide) ?_
    refine lv_isub hx hb (fh_d d_Mo_setFrac 20 rfl) ?_
    refine lv_istore (lv' := [(4, .int ((yX s0) - ((yT s0) / 2))), (3, .int (yT s0)), (2, .int (yS s0)), (0, .ref x), (1, .int (nI n0))]) hx hb (fh_d d_Mo_setFrac 21 rfl) hl (by decide) rfl (fun ls hl => ?_)
    refine lv_aload_n hx hb (fh_d d_Mo_setFrac 22 rfl) rfl (lv_at hl 3 rfl) ?_
    refine fh_get (own := "FormulaSetterModel") (ref := "FormulaSetterModel") (C := "FormulaSetterModel") (T := T_Mo) (N := 53) (v := .ref (x + 21)) hx hb hT i_Mo hown hK hP mkM_o rfl 27 (by decide) (hT _ w887) (fun _ h9 => h9) rfl (fh_d d_Mo_setFrac 23 rfl) ?_
    refine lv_iload_n hx hb (fh_d d_Mo_setFrac 24 rfl) rfl (lv_at hl 4 rfl) ?_
    refine fn_iald (f := A 20) (k := n0) hx hb hK hP 0 mkM_a20 rfl (rfl) (by omega) (by decide) (fh_d d_Mo_setFrac 25 rfl) ?_
    rw [show ((A 20) n0) = nI s0 from h20]
    refine lv_if_ne (tgt := 50) hx hb (fh_d d_Mo_setFrac 26 rfl) rfl (fun c4 => absurd c4 (fun z => z (by rw [hs]; rfl))) (fun c4 => ?_)
    refine lv_iconst (v := 3) hx hb (fh_d d_Mo_setFrac 27 rfl) (by decide) ?_
    refine lv_iload_n hx hb (fh_d d_Mo_setFrac 28 rfl) rfl (lv_at hl 1 rfl) ?_
    refine lv_imul hx hb (fh_d d_Mo_setFrac 29 rfl) ?_
    refine lv_goto (tgt := 51) hx hb (fh_d d_Mo_setFrac 30 rfl) rfl ?_
    refine lv_istore (lv' := [(5, .int (3 * (yT s0))), (4, .int ((yX s0) - ((yT s0) / 2))), (3, .int (yT s0)), (2, .int (yS s0)), (0, .ref x), (1, .int (nI n0))]) hx hb (fh_d d_Mo_setFrac 32 rfl) hl (by decide) rfl (fun ls hl => ?_)
    refine lv_aload_n hx hb (fh_d d_Mo_setFrac 33 rfl) rfl (lv_at hl 4 rfl) ?_
    refine fh_get (own := "FormulaSetterModel") (ref := "FormulaSetterModel") (C := "FormulaSetterModel") (T := T_Mo) (N := 53) (v := .ref (x + 21)) hx hb hT i_Mo hown hK hP mkM_o rfl 27 (by decide) (hT _ w887) (fun _ h9 => h9) rfl (fh_d d_Mo_setFrac 34 rfl) ?_
    refine lv_iload_n hx hb (fh_d d_Mo_setFrac 35 rfl) rfl (lv_at hl 5 rfl) ?_
    refine fn_iald (f := A 20) (k := n0) hx hb hK hP 0 mkM_a20 rfl (rfl) (by omega) (by decide) (fh_d d_Mo_setFrac 36 rfl) ?_
    rw [show ((A 20) n0) = nI s0 from h20]
    refine lv_if_ne (tgt := 69) hx hb (fh_d d_Mo_setFrac 37 rfl) rfl (fun c5 => absurd c5 (fun z => z (by rw [hs]; rfl))) (fun c5 => ?_)
    refine lv_bipush (v := 7) hx hb (fh_d d_Mo_setFrac 38 rfl) (by decide) ?_
    refine lv_iload_n hx hb (fh_d d_Mo_setFrac 39 rfl) rfl (lv_at hl 3 rfl) ?_
    refine lv_imul hx hb (fh_d d_Mo_setFrac 40 rfl) ?_
    refine lv_goto (tgt := 72) hx hb (fh_d d_Mo_setFrac 41 rfl) rfl ?_
    refine lv_istore (lv' := [(6, .int (7 * (yS s0))), (5, .int (3 * (yT s0))), (4, .int ((yX s0) - ((yT s0) / 2))), (3, .int (yT s0)), (2, .int (yS s0)), (0, .ref x), (1, .int (nI n0))]) hx hb (fh_d d_Mo_setFrac 45 rfl) hl (by decide) rfl (fun ls hl => ?_)
    refine lv_aload_n hx hb (fh_d d_Mo_setFrac 46 rfl) rfl (lv_at hl 5 rfl) ?_
    refine fh_get (own := "FormulaSetterModel") (ref := "FormulaSetterModel") (C := "FormulaSetterModel") (T := T_Mo) (N := 53) (v := .ref (x + 11)) hx hb hT i_Mo hown hK hP mkM_o rfl 16 (by decide) (hT _ w876) (fun _ h9 => h9) rfl (fh_d d_Mo_setFrac 47 rfl) ?_
    refine lv_iload_n hx hb (fh_d d_Mo_setFrac 48 rfl) rfl (lv_at hl 6 rfl) ?_
    refine fn_iald (f := A 10) (k := n0) hx hb hK hP 0 mkM_a10 rfl (rfl) (by omega) (by decide) (fh_d d_Mo_setFrac 49 rfl) ?_
    rw [show ((A 10) n0) = nI a from h10]
    refine lv_istore (lv' := [(7, .int (nI a)), (6, .int (7 * (yS s0))), (5, .int (3 * (yT s0))), (4, .int ((yX s0) - ((yT s0) / 2))), (3, .int (yT s0)), (2, .int (yS s0)), (0, .ref x), (1, .int (nI n0))]) hx hb (fh_d d_Mo_setFrac 50 rfl) hl (by decide) rfl (fun ls hl => ?_)
    refine lv_aload_n hx hb (fh_d d_Mo_setFrac 51 rfl) rfl (lv_at hl 6 rfl) ?_
    refine fh_get (own := "FormulaSetterModel") (ref := "FormulaSetterModel") (C := "FormulaSetterModel") (T := T_Mo) (N := 53) (v := .ref (x + 12)) hx hb hT i_Mo hown hK hP mkM_o rfl 17 (by decide) (hT _ w877) (fun _ h9 => h9) rfl (fh_d d_Mo_setFrac 52 rfl) ?_
    refine lv_iload_n hx hb (fh_d d_Mo_setFrac 53 rfl) rfl (lv_at hl 7 rfl) ?_
    refine fn_iald (f := A 11) (k := n0) hx hb hK hP 0 mkM_a11 rfl (rfl) (by omega) (by decide) (fh_d d_Mo_setFrac 54 rfl) ?_
    rw [show ((A 11) n0) = nI b2 from h11]
    refine lv_istore (lv' := [(8, .int (nI b2)), (7, .int (nI a)), (6, .int (7 * (yS s0))), (5, .int (3 * (yT s0))), (4, .int ((yX s0) - ((yT s0) / 2))), (3, .int (yT s0)), (2, .int (yS s0)), (0, .ref x), (1, .int (nI n0))]) hx hb (fh_d d_Mo_setFrac 55 rfl) hl (by decide) rfl (fun ls hl => ?_)
    refine lv_aload_n hx hb (fh_d d_Mo_setFrac 56 rfl) rfl (lv_at hl 7 rfl) ?_
    refine fh_get (own := "FormulaSetterModel") (ref := "FormulaSetterModel") (C := "FormulaSetterModel") (T := T_Mo) (N := 53) (v := .ref (x + 23)) hx hb hT i_Mo hown hK hP mkM_o rfl 29 (by decide) (hT _ w889) (fun _ h9 => h9) rfl (fh_d d_Mo_setFrac 57 rfl) ?_
    refine lv_iload_n hx hb (fh_d d_Mo_setFrac 58 rfl) rfl (lv_at hl 8 rfl) ?_
    refine lv_aload_n hx hb (fh_d d_Mo_setFrac 59 rfl) rfl (lv_at hl 7 rfl) ?_
    refine fh_get (own := "FormulaSetterModel") (ref := "FormulaSetterModel") (C := "FormulaSetterModel") (T := T_Mo) (N := 53) (v := .ref (x + 26)) hx hb hT i_Mo hown hK hP mkM_o rfl 32 (by decide) (hT _ w892) (fun _ h9 => h9) rfl (fh_d d_Mo_setFrac 60 rfl) ?_
    refine lv_iload hx hb (fh_d d_Mo_setFrac 61 rfl) (lv_at hl 1 rfl) ?_
    refine fn_iald (f := A 25) (k := a) hx hb hK hP 0 mkM_a25 rfl (rfl) (by omega) (by decide) (fh_d d_Mo_setFrac 62 rfl) ?_
    refine lv_aload_n hx hb (fh_d d_Mo_setFrac 63 rfl) rfl (lv_at hl 7 rfl) ?_
    refine fh_get (own := "FormulaSetterModel") (ref := "FormulaSetterModel") (C := "FormulaSetterModel") (T := T_Mo) (N := 53) (v := .ref (x + 26)) hx hb hT i_Mo hown hK hP mkM_o rfl 32 (by decide) (hT _ w892) (fun _ h9 => h9) rfl (fh_d d_Mo_setFrac 64 rfl) ?_
    refine lv_iload hx hb (fh_d d_Mo_setFrac 65 rfl) (lv_at hl 0 rfl) ?_
    refine fn_iald (f := A 25) (k := b2) hx hb hK hP 0 mkM_a25 rfl (rfl) (by omega) (by decide) (fh_d d_Mo_setFrac 66 rfl) ?_
    refine fh_callS (cc' := c_Mo_most) (nL' := 2) (rest := [.int (nI n0), .ref (x + 23)]) (av := [.int ((A 25) a), .int ((A 25) b2)]) X hR (m_Mo_most l D ct b RO (r - 1) n ((A 25) a) ((A 25) b2) (mkM ct x g A th co at_ wr no nu op pi wi he de)) w1151 w1149 w1150 w9 ⟨by decide, by decide, by show _ = some 2; decide +kernel⟩ (by omega) (by decide) hP hS hl.1 rfl (by exact Nat.le_of_ble_eq_true rfl) (fh_d d_Mo_setFrac 67 rfl) ⟨Nat.le_refl _, Nat.le_refl _⟩ (fun v9 h9 n9 H locs hq hP hS => ?_)
    obtain ⟨rfl, q6a, q6b⟩ := hq
    rw [q6a, q6b] at hP
    refine W.eq (g2 := F0 m 112 ls [.int (ms ((A 25) a) ((A 25) b2)), .int (nI n0), .ref (x + 23)]) rfl ?_
    refine lv_iconst (v := 2) hx hb (fh_d d_Mo_setFrac 68 rfl) (by decide) ?_
    refine lv_iload_n hx hb (fh_d d_Mo_setFrac 69 rfl) rfl (lv_at hl 5 rfl) ?_
    refine lv_imul hx hb (fh_d d_Mo_setFrac 70 rfl) ?_
    refine lv_iadd hx hb (fh_d d_Mo_setFrac 71 rfl) ?_
    refine fn_iast (f := A 22) (k := n0) hx hb hK hP hS 0 mkM_a22 rfl (rfl) (by omega) (by decide) (fh_d d_Mo_setFrac 72 rfl) (fun H locs hP hS => ?_)
    replace hP := fh_P.eq (h' := mkM ct x g (up2 A 22 (upd (A 22) n0 ((ms ((A 25) a) ((A 25) b2)) + (2 * (yT s0))))) th co at_ wr no nu op pi wi he de) hP mkM_u22
    refine lv_aload_n hx hb (fh_d d_Mo_setFrac 73 rfl) rfl (lv_at hl 7 rfl) ?_
    refine fh_get (own := "FormulaSetterModel") (ref := "FormulaSetterModel") (C := "FormulaSetterModel") (T := T_Mo) (N := 53) (v := .ref (x + 30)) hx hb hT i_Mo hown hK hP mkM_o rfl 36 (by decide) (hT _ w896) (fun _ h9 => h9) rfl (fh_d d_Mo_setFrac 74 rfl) ?_
    refine lv_iload hx hb (fh_d d_Mo_setFrac 75 rfl) (lv_at hl 1 rfl) ?_
    refine lv_aload_n hx hb (fh_d d_Mo_setFrac 76 rfl) rfl (lv_at hl 7 rfl) ?_
    refine fh_get (own := "FormulaSetterModel") (ref := "FormulaSetterModel") (C := "FormulaSetterModel") (T := T_Mo) (N := 53) (v := .ref (x + 23)) hx hb hT i_Mo hown hK hP mkM_o rfl 29 (by decide) (hT _ w889) (fun _ h9 => h9) rfl (fh_d d_Mo_setFrac 77 rfl) ?_
    refine lv_iload_n hx hb (fh_d d_Mo_setFrac 78 rfl) rfl (lv_at hl 8 rfl) ?_
    refine fn_iald (f := upd (A 22) n0 ((ms ((A 25) a) ((A 25) b2)) + (2 * (yT s0)))) (k := n0) hx hb hK hP 0 mkM_a22 rfl (rfl) (by omega) (by decide) (fh_d d_Mo_setFrac 79 rfl) ?_
    rw [show ((upd (A 22) n0 ((ms ((A 25) a) ((A 25) b2)) + (2 * (yT s0)))) n0) = ((ms ((A 25) a) ((A 25) b2)) + (2 * (yT s0))) from upd_s]
    refine lv_aload_n hx hb (fh_d d_Mo_setFrac 80 rfl) rfl (lv_at hl 7 rfl) ?_
    refine fh_get (own := "FormulaSetterModel") (ref := "FormulaSetterModel") (C := "FormulaSetterModel") (T := T_Mo) (N := 53) (v := .ref (x + 26)) hx hb hT i_Mo hown hK hP mkM_o rfl 32 (by decide) (hT _ w892) (fun _ h9 => h9) rfl (fh_d d_Mo_setFrac 81 rfl) ?_
    refine lv_iload hx hb (fh_d d_Mo_setFrac 82 rfl) (lv_at hl 1 rfl) ?_
    refine fn_iald (f := A 25) (k := a) hx hb hK hP 0 mkM_a25 rfl (rfl) (by omega) (by decide) (fh_d d_Mo_setFrac 83 rfl) ?_
    refine lv_isub hx hb (fh_d d_Mo_setFrac 84 rfl) ?_
    refine lv_iconst (v := 2) hx hb (fh_d d_Mo_setFrac 85 rfl) (by decide) ?_
    refine lv_idiv hx hb (fh_d d_Mo_setFrac 86 rfl) (by decide) ?_
    refine fn_iast (f := A 29) (k := a) hx hb hK hP hS 0 mkM_a29 rfl (rfl) (by omega) (by decide) (fh_d d_Mo_setFrac 87 rfl) (fun H locs hP hS => ?_)
    replace hP := fh_P.eq (h' := mkM ct x g (up2 (up2 A 22 (upd (A 22) n0 ((ms ((A 25) a) ((A 25) b2)) + (2 * (yT s0))))) 29 (upd (A 29) a ((((ms ((A 25) a) ((A 25) b2)) + (2 * (yT s0))) - ((A 25) a)) / 2))) th co at_ wr no nu op pi wi he de) hP mkM_u29
    refine lv_aload_n hx hb (fh_d d_Mo_setFrac 88 rfl) rfl (lv_at hl 7 rfl) ?_
    refine fh_get (own := "FormulaSetterModel") (ref := "FormulaSetterModel") (C := "FormulaSetterModel") (T := T_Mo) (N := 53) (v := .ref (x + 30)) hx hb hT i_Mo hown hK hP mkM_o rfl 36 (by decide) (hT _ w896) (fun _ h9 => h9) rfl (fh_d d_Mo_setFrac 89 rfl) ?_
    refine lv_iload hx hb (fh_d d_Mo_setFrac 90 rfl) (lv_at hl 0 rfl) ?_
    refine lv_aload_n hx hb (fh_d d_Mo_setFrac 91 rfl) rfl (lv_at hl 7 rfl) ?_
    refine fh_get (own := "FormulaSetterModel") (ref := "FormulaSetterModel") (C := "FormulaSetterModel") (T := T_Mo) (N := 53) (v := .ref (x + 23)) hx hb hT i_Mo hown hK hP mkM_o rfl 29 (by decide) (hT _ w889) (fun _ h9 => h9) rfl (fh_d d_Mo_setFrac 92 rfl) ?_
    refine lv_iload_n hx hb (fh_d d_Mo_setFrac 93 rfl) rfl (lv_at hl 8 rfl) ?_
    refine fn_iald (f := upd (A 22) n0 ((ms ((A 25) a) ((A 25) b2)) + (2 * (yT s0)))) (k := n0) hx hb hK hP 0 mkM_a22 rfl (rfl) (by omega) (by decide) (fh_d d_Mo_setFrac 94 rfl) ?_
    rw [show ((upd (A 22) n0 ((ms ((A 25) a) ((A 25) b2)) + (2 * (yT s0)))) n0) = ((ms ((A 25) a) ((A 25) b2)) + (2 * (yT s0))) from upd_s]
    refine lv_aload_n hx hb (fh_d d_Mo_setFrac 95 rfl) rfl (lv_at hl 7 rfl) ?_
    refine fh_get (own := "FormulaSetterModel") (ref := "FormulaSetterModel") (C := "FormulaSetterModel") (T := T_Mo) (N := 53) (v := .ref (x + 26)) hx hb hT i_Mo hown hK hP mkM_o rfl 32 (by decide) (hT _ w892) (fun _ h9 => h9) rfl (fh_d d_Mo_setFrac 96 rfl) ?_
    refine lv_iload hx hb (fh_d d_Mo_setFrac 97 rfl) (lv_at hl 0 rfl) ?_
    refine fn_iald (f := A 25) (k := b2) hx hb hK hP 0 mkM_a25 rfl (rfl) (by omega) (by decide) (fh_d d_Mo_setFrac 98 rfl) ?_
    refine lv_isub hx hb (fh_d d_Mo_setFrac 99 rfl) ?_
    refine lv_iconst (v := 2) hx hb (fh_d d_Mo_setFrac 100 rfl) (by decide) ?_
    refine lv_idiv hx hb (fh_d d_Mo_setFrac 101 rfl) (by decide) ?_
    refine fn_iast (f := upd (A 29) a ((((ms ((A 25) a) ((A 25) b2)) + (2 * (yT s0))) - ((A 25) a)) / 2)) (k := b2) hx hb hK hP hS 0 mkM_a29 rfl (rfl) (by omega) (by decide) (fh_d d_Mo_setFrac 102 rfl) (fun H locs hP hS => ?_)
    replace hP := fh_P.eq (h' := mkM ct x g (up2 (up2 (up2 A 22 (upd (A 22) n0 ((ms ((A 25) a) ((A 25) b2)) + (2 * (yT s0))))) 29 (upd (A 29) a ((((ms ((A 25) a) ((A 25) b2)) + (2 * (yT s0))) - ((A 25) a)) / 2))) 29 (upd (upd (A 29) a ((((ms ((A 25) a) ((A 25) b2)) + (2 * (yT s0))) - ((A 25) a)) / 2)) b2 ((((ms ((A 25) a) ((A 25) b2)) + (2 * (yT s0))) - ((A 25) b2)) / 2))) th co at_ wr no nu op pi wi he de) hP mkM_u29
    refine lv_aload_n hx hb (fh_d d_Mo_setFrac 103 rfl) rfl (lv_at hl 7 rfl) ?_
    refine fh_get (own := "FormulaSetterModel") (ref := "FormulaSetterModel") (C := "FormulaSetterModel") (T := T_Mo) (N := 53) (v := .ref (x + 31)) hx hb hT i_Mo hown hK hP mkM_o rfl 37 (by decide) (hT _ w897) (fun _ h9 => h9) rfl (fh_d d_Mo_setFrac 104 rfl) ?_
    refine lv_iload hx hb (fh_d d_Mo_setFrac 105 rfl) (lv_at hl 1 rfl) ?_
    refine lv_iload hx hb (fh_d d_Mo_setFrac 106 rfl) (lv_at hl 2 rfl) ?_
    refine lv_iload hx hb (fh_d d_Mo_setFrac 107 rfl) (lv_at hl 4 rfl) ?_
    refine lv_iload_n hx hb (fh_d d_Mo_setFrac 108 rfl) rfl (lv_at hl 5 rfl) ?_
    refine lv_iadd hx hb (fh_d d_Mo_setFrac 109 rfl) ?_
    refine lv_iload hx hb (fh_d d_Mo_setFrac 110 rfl) (lv_at hl 3 rfl) ?_
    refine lv_iadd hx hb (fh_d d_Mo_setFrac 111 rfl) ?_
    refine lv_aload_n hx hb (fh_d d_Mo_setFrac 112 rfl) rfl (lv_at hl 7 rfl) ?_
    refine fh_get (own := "FormulaSetterModel") (ref := "FormulaSetterModel") (C := "FormulaSetterModel") (T := T_Mo) (N := 53) (v := .ref (x + 28)) hx hb hT i_Mo hown hK hP mkM_o rfl 34 (by decide) (hT _ w894) (fun _ h9 => h9) rfl (fh_d d_Mo_setFrac 113 rfl) ?_
    refine lv_iload hx hb (fh_d d_Mo_setFrac 114 rfl) (lv_at hl 1 rfl) ?_
    refine fn_iald (f := A 27) (k := a) hx hb hK hP 0 mkM_a27 rfl (rfl) (by omega) (by decide) (fh_d d_Mo_setFrac 115 rfl) ?_
    refine lv_iadd hx hb (fh_d d_Mo_setFrac 116 rfl) ?_
    refine fh_callS (cc' := c_Mo_most) (nL' := 2) (rest := [.int (nI a), .ref (x + 31)]) (av := [.int (7 * (yS s0)), .int (((((yX s0) - ((yT s0) / 2)) + (yT s0)) + (3 * (yT s0))) + ((A 27) a))]) X hR (m_Mo_most l D ct b RO (r - 1) n (7 * (yS s0)) (((((yX s0) - ((yT s0) / 2)) + (yT s0)) + (3 * (yT s0))) + ((A 27) a)) (mkM ct x g (up2 (up2 (up2 A 22 (upd (A 22) n0 ((ms ((A 25) a) ((A 25) b2)) + (2 * (yT s0))))) 29 (upd (A 29) a ((((ms ((A 25) a) ((A 25) b2)) + (2 * (yT s0))) - ((A 25) a)) / 2))) 29 (upd (upd (A 29) a ((((ms ((A 25) a) ((A 25) b2)) + (2 * (yT s0))) - ((A 25) a)) / 2)) b2 ((((ms ((A 25) a) ((A 25) b2)) + (2 * (yT s0))) - ((A 25) b2)) / 2))) th co at_ wr no nu op pi wi he de)) w1151 w1149 w1150 w9 ⟨by decide, by decide, by show _ = some 2; decide +kernel⟩ (by omega) (by decide) hP hS hl.1 rfl (by exact Nat.le_of_ble_eq_true rfl) (fh_d d_Mo_setFrac 117 rfl) ⟨Nat.le_refl _, Nat.le_refl _⟩ (fun v9 h9 n9 H locs hq hP hS => ?_)
    obtain ⟨rfl, q7a, q7b⟩ := hq
    rw [q7a, q7b] at hP
    refine W.eq (g2 := F0 m 189 ls [.int (ms (7 * (yS s0)) (((((yX s0) - ((yT s0) / 2)) + (yT s0)) + (3 * (yT s0))) + ((A 27) a))), .int (nI a), .ref (x + 31)]) rfl ?_
    refine fn_iast (f := A 30) (k := a) hx hb hK hP hS 0 mkM_a30 rfl (rfl) (by omega) (by decide) (fh_d d_Mo_setFrac 118 rfl) (fun H locs hP hS => ?_)
    replace hP := fh_P.eq (h' := mkM ct x g (up2 (up2 (up2 (up2 A 22 (upd (A 22) n0 ((ms ((A 25) a) ((A 25) b2)) + (2 * (yT s0))))) 29 (upd (A 29) a ((((ms ((A 25) a) ((A 25) b2)) + (2 * (yT s0))) - ((A 25) a)) / 2))) 29 (upd (upd (A 29) a ((((ms ((A 25) a) ((A 25) b2)) + (2 * (yT s0))) - ((A 25) a)) / 2)) b2 ((((ms ((A 25) a) ((A 25) b2)) + (2 * (yT s0))) - ((A 25) b2)) / 2))) 30 (upd (A 30) a (ms (7 * (yS s0)) (((((yX s0) - ((yT s0) / 2)) + (yT s0)) + (3 * (yT s0))) + ((A 27) a))))) th co at_ wr no nu op pi wi he de) hP mkM_u30
    refine lv_aload_n hx hb (fh_d d_Mo_setFrac 119 rfl) rfl (lv_at hl 7 rfl) ?_
    refine fh_get (own := "FormulaSetterModel") (ref := "FormulaSetterModel") (C := "FormulaSetterModel") (T := T_Mo) (N := 53) (v := .ref (x + 31)) hx hb hT i_Mo hown hK hP mkM_o rfl 37 (by decide) (hT _ w897) (fun _ h9 => h9) rfl (fh_d d_Mo_setFrac 120 rfl) ?_
    refine lv_iload hx hb (fh_d d_Mo_setFrac 121 rfl) (lv_at hl 0 rfl) ?_
    refine lv_iload hx hb (fh_d d_Mo_setFrac 122 rfl) (lv_at hl 2 rfl) ?_
    refine lv_aload_n hx hb (fh_d d_Mo_setFrac 123 rfl) rfl (lv_at hl 7 rfl) ?_
    refine fh_get (own := "FormulaSetterModel") (ref := "FormulaSetterModel") (C := "FormulaSetterModel") (T := T_Mo) (N := 53) (v := .ref (x + 27)) hx hb hT i_Mo hown hK hP mkM_o rfl 33 (by decide) (hT _ w893) (fun _ h9 => h9) rfl (fh_d d_Mo_setFrac 124 rfl) ?_
    refine lv_iload hx hb (fh_d d_Mo_setFrac 125 rfl) (lv_at hl 0 rfl) ?_
    refine fn_iald (f := A 26) (k := b2) hx hb hK hP 0 mkM_a26 rfl (rfl) (by omega) (by decide) (fh_d d_Mo_setFrac 126 rfl) ?_
    refine lv_iload hx hb (fh_d d_Mo_setFrac 127 rfl) (lv_at hl 3 rfl) ?_
    refine lv_iadd hx hb (fh_d d_Mo_setFrac 128 rfl) ?_
    refine lv_iload hx hb (fh_d d_Mo_setFrac 129 rfl) (lv_at hl 4 rfl) ?_
    refine lv_isub hx hb (fh_d d_Mo_setFrac 130 rfl) ?_
    refine fh_callS (cc' := c_Mo_most) (nL' := 2) (rest := [.int (nI b2), .ref (x + 31)]) (av := [.int (7 * (yS s0)), .int ((((A 26) b2) + (3 * (yT s0))) - ((yX s0) - ((yT s0) / 2)))]) X hR (m_Mo_most l D ct b RO (r - 1) n (7 * (yS s0)) ((((A 26) b2) + (3 * (yT s0))) - ((yX s0) - ((yT s0) / 2))) (mkM ct x g (up2 (up2 (up2 (up2 A 22 (upd (A 22) n0 ((ms ((A 25) a) ((A 25) b2)) + (2 * (yT s0))))) 29 (upd (A 29) a ((((ms ((A 25) a) ((A 25) b2)) + (2 * (yT s0))) - ((A 25) a)) / 2))) 29 (upd (upd (A 29) a ((((ms ((A 25) a) ((A 25) b2)) + (2 * (yT s0))) - ((A 25) a)) / 2)) b2 ((((ms ((A 25) a) ((A 25) b2)) + (2 * (yT s0))) - ((A 25) b2)) / 2))) 30 (upd (A 30) a (ms (7 * (yS s0)) (((((yX s0) - ((yT s0) / 2)) + (yT s0)) + (3 * (yT s0))) + ((A 27) a))))) th co at_ wr no nu op pi wi he de)) w1151 w1149 w1150 w9 ⟨by decide, by decide, by show _ = some 2; decide +kernel⟩ (by omega) (by decide) hP hS hl.1 rfl (by exact Nat.le_of_ble_eq_true rfl) (fh_d d_Mo_setFrac 131 rfl) ⟨Nat.le_refl _, Nat.le_refl _⟩ (fun v9 h9 n9 H locs hq hP hS => ?_)
    obtain ⟨rfl, q8a, q8b⟩ := hq
    rw [q8a, q8b] at hP
    refine W.eq (g2 := F0 m 214 ls [.int (ms (7 * (yS s0)) ((((A 26) b2) + (3 * (yT s0))) - ((yX s0) - ((yT s0) / 2)))), .int (nI b2), .ref (x + 31)]) rfl ?_
    refine lv_ineg hx hb (fh_d d_Mo_setFrac 132 rfl) ?_
    refine fn_iast (f := upd (A 30) a (ms (7 * (yS s0)) (((((yX s0) - ((yT s0) / 2)) + (yT s0)) + (3 * (yT s0))) + ((A 27) a)))) (k := b2) hx hb hK hP hS 0 mkM_a30 rfl (rfl) (by omega) (by decide) (fh_d d_Mo_setFrac 133 rfl) (fun H locs hP hS => ?_)
    replace hP := fh_P.eq (h' := mkM ct x g (up2 (up2 (up2 (up2 (up2 A 22 (upd (A 22) n0 ((ms ((A 25) a) ((A 25) b2)) + (2 * (yT s0))))) 29 (upd (A 29) a ((((ms ((A 25) a) ((A 25) b2)) + (2 * (yT s0))) - ((A 25) a)) / 2))) 29 (upd (upd (A 29) a ((((ms ((A 25) a) ((A 25) b2)) + (2 * (yT s0))) - ((A 25) a)) / 2)) b2 ((((ms ((A 25) a) ((A 25) b2)) + (2 * (yT s0))) - ((A 25) b2)) / 2))) 30 (upd (A 30) a (ms (7 * (yS s0)) (((((yX s0) - ((yT s0) / 2)) + (yT s0)) + (3 * (yT s0))) + ((A 27) a))))) 30 (upd (upd (A 30) a (ms (7 * (yS s0)) (((((yX s0) - ((yT s0) / 2)) + (yT s0)) + (3 * (yT s0))) + ((A 27) a)))) b2 (-(ms (7 * (yS s0)) ((((A 26) b2) + (3 * (yT s0))) - ((yX s0) - ((yT s0) / 2))))))) th co at_ wr no nu op pi wi he de) hP mkM_u30
    refine lv_aload_n hx hb (fh_d d_Mo_setFrac 134 rfl) rfl (lv_at hl 7 rfl) ?_
    refine fh_get (own := "FormulaSetterModel") (ref := "FormulaSetterModel") (C := "FormulaSetterModel") (T := T_Mo) (N := 53) (v := .ref (x + 36)) hx hb hT i_Mo hown hK hP mkM_o rfl 42 (by decide) (hT _ w902) (fun _ h9 => h9) rfl (fh_d d_Mo_setFrac 135 rfl) ?_
    refine lv_iload_n hx hb (fh_d d_Mo_setFrac 136 rfl) rfl (lv_at hl 8 rfl) ?_
    refine lv_iload hx hb (fh_d d_Mo_setFrac 137 rfl) (lv_at hl 4 rfl) ?_
    refine fn_iast (f := A 35) (k := n0) hx hb hK hP hS 0 mkM_a35 rfl (rfl) (by omega) (by decide) (fh_d d_Mo_setFrac 138 rfl) (fun H locs hP hS => ?_)
    replace hP := fh_P.eq (h' := mkM ct x g (up2 (up2 (up2 (up2 (up2 (up2 A 22 (upd (A 22) n0 ((ms ((A 25) a) ((A 25) b2)) + (2 * (yT s0))))) 29 (upd (A 29) a ((((ms ((A 25) a) ((A 25) b2)) + (2 * (yT s0))) - ((A 25) a)) / 2))) 29 (upd (upd (A 29) a ((((ms ((A 25) a) ((A 25) b2)) + (2 * (yT s0))) - ((A 25) a)) / 2)) b2 ((((ms ((A 25) a) ((A 25) b2)) + (2 * (yT s0))) - ((A 25) b2)) / 2))) 30 (upd (A 30) a (ms (7 * (yS s0)) (((((yX s0) - ((yT s0) / 2)) + (yT s0)) + (3 * (yT s0))) + ((A 27) a))))) 30 (upd (upd (A 30) a (ms (7 * (yS s0)) (((((yX s0) - ((yT s0) / 2)) + (yT s0)) + (3 * (yT s0))) + ((A 27) a)))) b2 (-(ms (7 * (yS s0)) ((((A 26) b2) + (3 * (yT s0))) - ((yX s0) - ((yT s0) / 2))))))) 35 (upd (A 35) n0 ((yX s0) - ((yT s0) / 2)))) th co at_ wr no nu op pi wi he de) hP mkM_u35
    refine lv_aload_n hx hb (fh_d d_Mo_setFrac 139 rfl) rfl (lv_at hl 7 rfl) ?_
    refine fh_get (own := "FormulaSetterModel") (ref := "FormulaSetterModel") (C := "FormulaSetterModel") (T := T_Mo) (N := 53) (v := .ref (x + 24)) hx hb hT i_Mo hown hK hP mkM_o rfl 30 (by decide) (hT _ w890) (fun _ h9 => h9) rfl (fh_d d_Mo_setFrac 140 rfl) ?_
    refine lv_iload_n hx hb (fh_d d_Mo_setFrac 141 rfl) rfl (lv_at hl 8 rfl) ?_
    refine lv_aload_n hx hb (fh_d d_Mo_setFrac 142 rfl) rfl (lv_at hl 7 rfl) ?_
    refine fh_get (own := "FormulaSetterModel") (ref := "FormulaSetterModel") (C := "FormulaSetterModel") (T := T_Mo) (N := 53) (v := .ref (x + 31)) hx hb hT i_Mo hown hK hP mkM_o rfl 37 (by decide) (hT _ w897) (fun _ h9 => h9) rfl (fh_d d_Mo_setFrac 143 rfl) ?_
    refine lv_iload hx hb (fh_d d_Mo_setFrac 144 rfl) (lv_at hl 1 rfl) ?_
    refine fn_iald (f := upd (upd (A 30) a (ms (7 * (yS s0)) (((((yX s0) - ((yT s0) / 2)) + (yT s0)) + (3 * (yT s0))) + ((A 27) a)))) b2 (-(ms (7 * (yS s0)) ((((A 26) b2) + (3 * (yT s0))) - ((yX s0) - ((yT s0) / 2)))))) (k := a) hx hb hK hP 0 mkM_a30 rfl (rfl) (by omega) (by decide) (fh_d d_Mo_setFrac 145 rfl) ?_
    refine lv_aload_n hx hb (fh_d d_Mo_setFrac 146 rfl) rfl (lv_at hl 7 rfl) ?_
    refine fh_get (own := "FormulaSetterModel") (ref := "FormulaSetterModel") (C := "FormulaSetterModel") (T := T_Mo) (N := 53) (v := .ref (x + 27)) hx hb hT i_Mo hown hK hP mkM_o rfl 33 (by decide) (hT _ w893) (fun _ h9 => h9) rfl (fh_d d_Mo_setFrac 147 rfl) ?_
    refine lv_iload hx hb (fh_d d_Mo_setFrac 148 rfl) (lv_at hl 1 rfl) ?_
    refine fn_iald (f := A 26) (k := a) hx hb hK hP 0 mkM_a26 rfl (rfl) (by omega) (by decide) (fh_d d_Mo_setFrac 149 rfl) ?_
    refine lv_iadd hx hb (fh_d d_Mo_setFrac 150 rfl) ?_
    refine fn_iast (f := A 23) (k := n0) hx hb hK hP hS 0 mkM_a23 rfl (rfl) (by omega) (by decide) (fh_d d_Mo_setFrac 151 rfl) (fun H locs hP hS => ?_)
    replace hP := fh_P.eq (h' := mkM ct x g (up2 (up2 (up2 (up2 (up2 (up2 (up2 A 22 (upd (A 22) n0 ((ms ((A 25) a) ((A 25) b2)) + (2 * (yT s0))))) 29 (upd (A 29) a ((((ms ((A 25) a) ((A 25) b2)) + (2 * (yT s0))) - ((A 25) a)) / 2))) 29 (upd (upd (A 29) a ((((ms ((A 25) a) ((A 25) b2)) + (2 * (yT s0))) - ((A 25) a)) / 2)) b2 ((((ms ((A 25) a) ((A 25) b2)) + (2 * (yT s0))) - ((A 25) b2)) / 2))) 30 (upd (A 30) a (ms (7 * (yS s0)) (((((yX s0) - ((yT s0) / 2)) + (yT s0)) + (3 * (yT s0))) + ((A 27) a))))) 30 (upd (upd (A 30) a (ms (7 * (yS s0)) (((((yX s0) - ((yT s0) / 2)) + (yT s0)) + (3 * (yT s0))) + ((A 27) a)))) b2 (-(ms (7 * (yS s0)) ((((A 26) b2) + (3 * (yT s0))) - ((yX s0) - ((yT s0) / 2))))))) 35 (upd (A 35) n0 ((yX s0) - ((yT s0) / 2)))) 23 (upd (A 23) n0 (((upd (upd (A 30) a (ms (7 * (yS s0)) (((((yX s0) - ((yT s0) / 2)) + (yT s0)) + (3 * (yT s0))) + ((A 27) a)))) b2 (-(ms (7 * (yS s0)) ((((A 26) b2) + (3 * (yT s0))) - ((yX s0) - ((yT s0) / 2)))))) a) + ((A 26) a)))) th co at_ wr no nu op pi wi he de) hP mkM_u23
    refine lv_aload_n hx hb (fh_d d_Mo_setFrac 152 rfl) rfl (lv_at hl 7 rfl) ?_
    refine fh_get (own := "FormulaSetterModel") (ref := "FormulaSetterModel") (C := "FormulaSetterModel") (T := T_Mo) (N := 53) (v := .ref (x + 25)) hx hb hT i_Mo hown hK hP mkM_o rfl 31 (by decide) (hT _ w891) (fun _ h9 => h9) rfl (fh_d d_Mo_setFrac 153 rfl) ?_
    refine lv_iload_n hx hb (fh_d d_Mo_setFrac 154 rfl) rfl (lv_at hl 8 rfl) ?_
    refine lv_aload_n hx hb (fh_d d_Mo_setFrac 155 rfl) rfl (lv_at hl 7 rfl) ?_
    refine fh_get (own := "FormulaSetterModel") (ref := "FormulaSetterModel") (C := "FormulaSetterModel") (T := T_Mo) (N := 53) (v := .ref (x + 28)) hx hb hT i_Mo hown hK hP mkM_o rfl 34 (by decide) (hT _ w894) (fun _ h9 => h9) rfl (fh_d d_Mo_setFrac 156 rfl) ?_
    refine lv_iload hx hb (fh_d d_Mo_setFrac 157 rfl) (lv_at hl 0 rfl) ?_
    refine fn_iald (f := A 27) (k := b2) hx hb hK hP 0 mkM_a27 rfl (rfl) (by omega) (by decide) (fh_d d_Mo_setFrac 158 rfl) ?_
    refine lv_aload_n hx hb (fh_d d_Mo_setFrac 159 rfl) rfl (lv_at hl 7 rfl) ?_
    refine fh_get (own := "FormulaSetterModel") (ref := "FormulaSetterModel") (C := "FormulaSetterModel") (T := T_Mo) (N := 53) (v := .ref (x + 31)) hx hb hT i_Mo hown hK hP mkM_o rfl 37 (by decide) (hT _ w897) (fun _ h9 => h9) rfl (fh_d d_Mo_setFrac 160 rfl) ?_
    refine lv_iload hx hb (fh_d d_Mo_setFrac 161 rfl) (lv_at hl 0 rfl) ?_
    refine fn_iald (f := upd (upd (A 30) a (ms (7 * (yS s0)) (((((yX s0) - ((yT s0) / 2)) + (yT s0)) + (3 * (yT s0))) + ((A 27) a)))) b2 (-(ms (7 * (yS s0)) ((((A 26) b2) + (3 * (yT s0))) - ((yX s0) - ((yT s0) / 2)))))) (k := b2) hx hb hK hP 0 mkM_a30 rfl (rfl) (by omega) (by decide) (fh_d d_Mo_setFrac 162 rfl) ?_
    rw [show ((upd (upd (A 30) a (ms (7 * (yS s0)) (((((yX s0) - ((yT s0) / 2)) + (yT s0)) + (3 * (yT s0))) + ((A 27) a)))) b2 (-(ms (7 * (yS s0)) ((((A 26) b2) + (3 * (yT s0))) - ((yX s0) - ((yT s0) / 2)))))) b2) = (-(ms (7 * (yS s0)) ((((A 26) b2) + (3 * (yT s0))) - ((yX s0) - ((yT s0) / 2))))) from upd_s]
    refine lv_isub hx hb (fh_d d_Mo_setFrac 163 rfl) ?_
    refine fn_iast (f := A 24) (k := n0) hx hb hK hP hS 0 mkM_a24 rfl (rfl) (by omega) (by decide) (fh_d d_Mo_setFrac 164 rfl) (fun H locs hP hS => ?_)
    replace hP := fh_P.eq (h' := mkM ct x g (up2 (up2 (up2 (up2 (up2 (up2 (up2 (up2 A 22 (upd (A 22) n0 ((ms ((A 25) a) ((A 25) b2)) + (2 * (yT s0))))) 29 (upd (A 29) a ((((ms ((A 25) a) ((A 25) b2)) + (2 * (yT s0))) - ((A 25) a)) / 2))) 29 (upd (upd (A 29) a ((((ms ((A 25) a) ((A 25) b2)) + (2 * (yT s0))) - ((A 25) a)) / 2)) b2 ((((ms ((A 25) a) ((A 25) b2)) + (2 * (yT s0))) - ((A 25) b2)) / 2))) 30 (upd (A 30) a (ms (7 * (yS s0)) (((((yX s0) - ((yT s0) / 2)) + (yT s0)) + (3 * (yT s0))) + ((A 27) a))))) 30 (upd (upd (A 30) a (ms (7 * (yS s0)) (((((yX s0) - ((yT s0) / 2)) + (yT s0)) + (3 * (yT s0))) + ((A 27) a)))) b2 (-(ms (7 * (yS s0)) ((((A 26) b2) + (3 * (yT s0))) - ((yX s0) - ((yT s0) / 2))))))) 35 (upd (A 35) n0 ((yX s0) - ((yT s0) / 2)))) 23 (upd (A 23) n0 (((upd (upd (A 30) a (ms (7 * (yS s0)) (((((yX s0) - ((yT s0) / 2)) + (yT s0)) + (3 * (yT s0))) + ((A 27) a)))) b2 (-(ms (7 * (yS s0)) ((((A 26) b2) + (3 * (yT s0))) - ((yX s0) - ((yT s0) / 2)))))) a) + ((A 26) a)))) 24 (upd (A 24) n0 (((A 27) b2) - (-(ms (7 * (yS s0)) ((((A 26) b2) + (3 * (yT s0))) - ((yX s0) - ((yT s0) / 2)))))))) th co at_ wr no nu op pi wi he de) hP mkM_u24
    exact fh_vret X hP hS (fh_d d_Mo_setFrac 165 rfl) ⟨rfl, by unfold rf_fr; rw [if_pos hs]; (try rfl), rfl⟩
  · skip
    refine lv_aload_n hx hb (fh_d d_Mo_setFrac 0 rfl) rfl (lv_at hl 0 rfl) ?_
    refine fh_get (own := "FormulaSetterModel") (ref := "FormulaSetterModel") (C := "FormulaSetterModel") (T := T_Mo) (N := 53) (v := .ref (x + 21)) hx hb hT i_Mo hown hK hP mkM_o rfl 27 (by decide) (hT _ w887) (fun _ h9 => h9) rfl (fh_d d_Mo_setFrac 1 rfl) ?_
    refine lv_iload_n hx hb (fh_d d_Mo_setFrac 2 rfl) rfl (lv_at hl 1 rfl) ?_
    refine fn_iald (f := A 20) (k := n0) hx hb hK hP 0 mkM_a20 rfl (rfl) (by omega) (by decide) (fh_d d_Mo_setFrac 3 rfl) ?_
    rw [show ((A 20) n0) = nI s0 from h20]
    refine fh_callS (cc' := c_Mo_zOf) (nL' := 1) (rest := []) (av := [.int (nI s0)]) X hR (m_Mo_zO l D ct b RO hR (r - 1) (by omega) n s0 hs0 (mkM ct x g A th co at_ wr no nu op pi wi he de)) w1139 w1137 w1138 w9 ⟨by decide, by decide, by show _ = some 1; decide +kernel⟩ (by omega) (by decide) hP hS hl.1 rfl (by exact Nat.le_of_ble_eq_true rfl) (fh_d d_Mo_setFrac 4 rfl) ⟨Nat.le_refl _, Nat.le_refl _⟩ (fun v9 h9 n9 H locs hq hP hS => ?_)
    obtain ⟨rfl, q9a, q9b⟩ := hq
    rw [q9a, q9b] at hP
    refine W.eq (g2 := F0 m 9 ls [.int (yS s0)]) rfl ?_
    refine lv_istore_n (lv' := [(2, .int (yS s0)), (0, .ref x), (1, .int (nI n0))]) hx hb (fh_d d_Mo_setFrac 5 rfl) rfl hl (by decide) rfl (fun ls hl => ?_)
    refine lv_aload_n hx hb (fh_d d_Mo_setFrac 6 rfl) rfl (lv_at hl 1 rfl) ?_
    refine fh_get (own := "FormulaSetterModel") (ref := "FormulaSetterModel") (C := "FormulaSetterModel") (T := T_Mo) (N := 53) (v := .ref (x + 21)) hx hb hT i_Mo hown hK hP mkM_o rfl 27 (by decide) (hT _ w887) (fun _ h9 => h9) rfl (fh_d d_Mo_setFrac 7 rfl) ?_
    refine lv_iload_n hx hb (fh_d d_Mo_setFrac 8 rfl) rfl (lv_at hl 2 rfl) ?_
    refine fn_iald (f := A 20) (k := n0) hx hb hK hP 0 mkM_a20 rfl (rfl) (by omega) (by decide) (fh_d d_Mo_setFrac 9 rfl) ?_
    rw [show ((A 20) n0) = nI s0 from h20]
    refine fh_callS (cc' := c_Mo_tOf) (nL' := 1) (rest := []) (av := [.int (nI s0)]) X hR (m_Mo_tO l D ct b RO hR (r - 1) (by omega) n s0 hs0 (mkM ct x g A th co at_ wr no nu op pi wi he de)) w1174 w1172 w1173 w9 ⟨by decide, by decide, by show _ = some 1; decide +kernel⟩ (by omega) (by decide) hP hS hl.1 rfl (by exact Nat.le_of_ble_eq_true rfl) (fh_d d_Mo_setFrac 10 rfl) ⟨Nat.le_refl _, Nat.le_refl _⟩ (fun v9 h9 n9 H locs hq hP hS => ?_)
    obtain ⟨rfl, q10a, q10b⟩ := hq
    rw [q10a, q10b] at hP
    refine W.eq (g2 := F0 m 19 ls [.int (yT s0)]) rfl ?_
    refine lv_istore_n (lv' := [(3, .int (yT s0)), (2, .int (yS s0)), (0, .ref x), (1, .int (nI n0))]) hx hb (fh_d d_Mo_setFrac 11 rfl) rfl hl (by decide) rfl (fun ls hl => ?_)
    refine lv_aload_n hx hb (fh_d d_Mo_setFrac 12 rfl) rfl (lv_at hl 2 rfl) ?_
    refine fh_get (own := "FormulaSetterModel") (ref := "FormulaSetterModel") (C := "FormulaSetterModel") (T := T_Mo) (N := 53) (v := .ref (x + 21)) hx hb hT i_Mo hown hK hP mkM_o rfl 27 (by decide) (hT _ w887) (fun _ h9 => h9) rfl (fh_d d_Mo_setFrac 13 rfl) ?_
    refine lv_iload_n hx hb (fh_d d_Mo_setFrac 14 rfl) rfl (lv_at hl 3 rfl) ?_
    refine fn_iald (f := A 20) (k := n0) hx hb hK hP 0 mkM_a20 rfl (rfl) (by omega) (by decide) (fh_d d_Mo_setFrac 15 rfl) ?_
    rw [show ((A 20) n0) = nI s0 from h20]
    refine fh_callS (cc' := c_Mo_axisOf) (nL' := 1) (rest := []) (av := [.int (nI s0)]) X hR (m_Mo_xO l D ct b RO hR (r - 1) (by omega) n s0 hs0 (mkM ct x g A th co at_ wr no nu op pi wi he de)) w1167 w1165 w1166 w9 ⟨by decide, by decide, by show _ = some 1; decide +kernel⟩ (by omega) (by decide) hP hS hl.1 rfl (by exact Nat.le_of_ble_eq_true rfl) (fh_d d_Mo_setFrac 16 rfl) ⟨Nat.le_refl _, Nat.le_refl _⟩ (fun v9 h9 n9 H locs hq hP hS => ?_)
    obtain ⟨rfl, q11a, q11b⟩ := hq
    rw [q11a, q11b] at hP
    refine W.eq (g2 := F0 m 29 ls [.int (yX s0)]) rfl ?_
    refine lv_iload_n hx hb (fh_d d_Mo_setFrac 17 rfl) rfl (lv_at hl 0 rfl) ?_
    refine lv_iconst (v := 2) hx hb (fh_d d_Mo_setFrac 18 rfl) (by decide) ?_
    refine lv_idiv hx hb (fh_d d_Mo_setFrac 19 rfl) (by decide) ?_
    refine lv_isub hx hb (fh_d d_Mo_setFrac 20 rfl) ?_
    refine lv_istore (lv' := [(4, .int ((yX s0) - ((yT s0) / 2))), (3, .int (yT s0)), (2, .int (yS s0)), (0, .ref x), (1, .int (nI n0))]) hx hb (fh_d d_Mo_setFrac 21 rfl) hl (by decide) rfl (fun ls hl => ?_)
    refine lv_aload_n hx hb (fh_d d_Mo_setFrac 22 rfl) rfl (lv_at hl 3 rfl) ?_
    refine fh_get (own := "FormulaSetterModel") (ref := "FormulaSetterModel") (C := "FormulaSetterModel") (T := T_Mo) (N := 53) (v := .ref (x + 21)) hx hb hT i_Mo hown hK hP mkM_o rfl 27 (by decide) (hT _ w887) (fun _ h9 => h9) rfl (fh_d d_Mo_setFrac 23 rfl) ?_
    refine lv_iload_n hx hb (fh_d d_Mo_setFrac 24 rfl) rfl (lv_at hl 4 rfl) ?_
    refine fn_iald (f := A 20) (k := n0) hx hb hK hP 0 mkM_a20 rfl (rfl) (by omega) (by decide) (fh_d d_Mo_setFrac 25 rfl) ?_
    rw [show ((A 20) n0) = nI s0 from h20]
    refine lv_if_ne (tgt := 50) hx hb (fh_d d_Mo_setFrac 26 rfl) rfl (fun c12 => ?_) (fun c12 => absurd c12 (fun z => hs (nI_z hs0 z)))
    refine lv_iload_n hx hb (fh_d d_Mo_setFrac 31 rfl) rfl (lv_at hl 1 rfl) ?_
    refine lv_istore (lv' := [(5, .int (yT s0)), (4, .int ((yX s0) - ((yT s0) / 2))), (3, .int (yT s0)), (2, .int (yS s0)), (0, .ref x), (1, .int (nI n0))]) hx hb (fh_d d_Mo_setFrac 32 rfl) hl (by decide) rfl (fun ls hl => ?_)
    refine lv_aload_n hx hb (fh_d d_Mo_setFrac 33 rfl) rfl (lv_at hl 4 rfl) ?_
    refine fh_get (own := "FormulaSetterModel") (ref := "FormulaSetterModel") (C := "FormulaSetterModel") (T := T_Mo) (N := 53) (v := .ref (x + 21)) hx hb hT i_Mo hown hK hP mkM_o rfl 27 (by decide) (hT _ w887) (fun _ h9 => h9) rfl (fh_d d_Mo_setFrac 34 rfl) ?_
    refine lv_iload_n hx hb (fh_d d_Mo_setFrac 35 rfl) rfl (lv_at hl 5 rfl) ?_
    refine fn_iald (f := A 20) (k := n0) hx hb hK hP 0 mkM_a20 rfl (rfl) (by omega) (by decide) (fh_d d_Mo_setFrac 36 rfl) ?_
    rw [show ((A 20) n0) = nI s0 from h20]
    refine lv_if_ne (tgt := 69) hx hb (fh_d d_Mo_setFrac 37 rfl) rfl (fun c13 => ?_) (fun c13 => absurd c13 (fun z => hs (nI_z hs0 z)))
    refine lv_iconst (v := 4) hx hb (fh_d d_Mo_setFrac 42 rfl) (by decide) ?_
    refine lv_iload_n hx hb (fh_d d_Mo_setFrac 43 rfl) rfl (lv_at hl 3 rfl) ?_
    refine lv_imul hx hb (fh_d d_Mo_setFrac 44 rfl) ?_
    refine lv_istore (lv' := [(6, .int (4 * (yS s0))), (5, .int (yT s0)), (4, .int ((yX s0) - ((yT s0) / 2))), (3, .int (yT s0)), (2, .int (yS s0)), (0, .ref x), (1, .int (nI n0))]) hx hb (fh_d d_Mo_setFrac 45 rfl) hl (by decide) rfl (fun ls hl => ?_)
    refine lv_aload_n hx hb (fh_d d_Mo_setFrac 46 rfl) rfl (lv_at hl 5 rfl) ?_
    refine fh_get (own := "FormulaSetterModel") (ref := "FormulaSetterModel") (C := "FormulaSetterModel") (T := T_Mo) (N := 53) (v := .ref (x + 11)) hx hb hT i_Mo hown hK hP mkM_o rfl 16 (by decide) (hT _ w876) (fun _ h9 => h9) rfl (fh_d d_Mo_setFrac 47 rfl) ?_
    refine lv_iload_n hx hb (fh_d d_Mo_setFrac 48 rfl) rfl (lv_at hl 6 rfl) ?_
    refine fn_iald (f := A 10) (k := n0) hx hb hK hP 0 mkM_a10 rfl (rfl) (by omega) (by decide) (fh_d d_Mo_setFrac 49 rfl) ?_
    rw [show ((A 10) n0) = nI a from h10]
    refine lv_istore (lv' := [(7, .int (nI a)), (6, .int (4 * (yS s0))), (5, .int (yT s0)), (4, .int ((yX s0) - ((yT s0) / 2))), (3, .int (yT s0)), (2, .int (yS s0)), (0, .ref x), (1, .int (nI n0))]) hx hb (fh_d d_Mo_setFrac 50 rfl) hl (by decide) rfl (fun ls hl => ?_)
    refine lv_aload_n hx hb (fh_d d_Mo_setFrac 51 rfl) rfl (lv_at hl 6 rfl) ?_
    refine fh_get (own := "FormulaSetterModel") (ref := "FormulaSetterModel") (C := "FormulaSetterModel") (T := T_Mo) (N := 53) (v := .ref (x + 12)) hx hb hT i_Mo hown hK hP mkM_o rfl 17 (by decide) (hT _ w877) (fun _ h9 => h9) rfl (fh_d d_Mo_setFrac 52 rfl) ?_
    refine lv_iload_n hx hb (fh_d d_Mo_setFrac 53 rfl) rfl (lv_at hl 7 rfl) ?_
    refine fn_iald (f := A 11) (k := n0) hx hb hK hP 0 mkM_a11 rfl (rfl) (by omega) (by decide) (fh_d d_Mo_setFrac 54 rfl) ?_
    rw [show ((A 11) n0) = nI b2 from h11]
    refine lv_istore (lv' := [(8, .int (nI b2)), (7, .int (nI a)), (6, .int (4 * (yS s0))), (5, .int (yT s0)), (4, .int ((yX s0) - ((yT s0) / 2))), (3, .int (yT s0)), (2, .int (yS s0)), (0, .ref x), (1, .int (nI n0))]) hx hb (fh_d d_Mo_setFrac 55 rfl) hl (by decide) rfl (fun ls hl => ?_)
    refine lv_aload_n hx hb (fh_d d_Mo_setFrac 56 rfl) rfl (lv_at hl 7 rfl) ?_
    refine fh_get (own := "FormulaSetterModel") (ref := "FormulaSetterModel") (C := "FormulaSetterModel") (T := T_Mo) (N := 53) (v := .ref (x + 23)) hx hb hT i_Mo hown hK hP mkM_o rfl 29 (by decide) (hT _ w889) (fun _ h9 => h9) rfl (fh_d d_Mo_setFrac 57 rfl) ?_
    refine lv_iload_n hx hb (fh_d d_Mo_setFrac 58 rfl) rfl (lv_at hl 8 rfl) ?_
    refine lv_aload_n hx hb (fh_d d_Mo_setFrac 59 rfl) rfl (lv_at hl 7 rfl) ?_
    refine fh_get (own := "FormulaSetterModel") (ref := "FormulaSetterModel") (C := "FormulaSetterModel") (T := T_Mo) (N := 53) (v := .ref (x + 26)) hx hb hT i_Mo hown hK hP mkM_o rfl 32 (by decide) (hT _ w892) (fun _ h9 => h9) rfl (fh_d d_Mo_setFrac 60 rfl) ?_
    refine lv_iload hx hb (fh_d d_Mo_setFrac 61 rfl) (lv_at hl 1 rfl) ?_
    refine fn_iald (f := A 25) (k := a) hx hb hK hP 0 mkM_a25 rfl (rfl) (by omega) (by decide) (fh_d d_Mo_setFrac 62 rfl) ?_
    refine lv_aload_n hx hb (fh_d d_Mo_setFrac 63 rfl) rfl (lv_at hl 7 rfl) ?_
    refine fh_get (own := "FormulaSetterModel") (ref := "FormulaSetterModel") (C := "FormulaSetterModel") (T := T_Mo) (N := 53) (v := .ref (x + 26)) hx hb hT i_Mo hown hK hP mkM_o rfl 32 (by decide) (hT _ w892) (fun _ h9 => h9) rfl (fh_d d_Mo_setFrac 64 rfl) ?_
    refine lv_iload hx hb (fh_d d_Mo_setFrac 65 rfl) (lv_at hl 0 rfl) ?_
    refine fn_iald (f := A 25) (k := b2) hx hb hK hP 0 mkM_a25 rfl (rfl) (by omega) (by decide) (fh_d d_Mo_setFrac 66 rfl) ?_
    refine fh_callS (cc' := c_Mo_most) (nL' := 2) (rest := [.int (nI n0), .ref (x + 23)]) (av := [.int ((A 25) a), .int ((A 25) b2)]) X hR (m_Mo_most l D ct b RO (r - 1) n ((A 25) a) ((A 25) b2) (mkM ct x g A th co at_ wr no nu op pi wi he de)) w1151 w1149 w1150 w9 ⟨by decide, by decide, by show _ = some 2; decide +kernel⟩ (by omega) (by decide) hP hS hl.1 rfl (by exact Nat.le_of_ble_eq_true rfl) (fh_d d_Mo_setFrac 67 rfl) ⟨Nat.le_refl _, Nat.le_refl _⟩ (fun v9 h9 n9 H locs hq hP hS => ?_)
    obtain ⟨rfl, q14a, q14b⟩ := hq
    rw [q14a, q14b] at hP
    refine W.eq (g2 := F0 m 112 ls [.int (ms ((A 25) a) ((A 25) b2)), .int (nI n0), .ref (x + 23)]) rfl ?_
    refine lv_iconst (v := 2) hx hb (fh_d d_Mo_setFrac 68 rfl) (by decide) ?_
    refine lv_iload_n hx hb (fh_d d_Mo_setFrac 69 rfl) rfl (lv_at hl 5 rfl) ?_
    refine lv_imul hx hb (fh_d d_Mo_setFrac 70 rfl) ?_
    refine lv_iadd hx hb (fh_d d_Mo_setFrac 71 rfl) ?_
    refine fn_iast (f := A 22) (k := n0) hx hb hK hP hS 0 mkM_a22 rfl (rfl) (by omega) (by decide) (fh_d d_Mo_setFrac 72 rfl) (fun H locs hP hS => ?_)
    replace hP := fh_P.eq (h' := mkM ct x g (up2 A 22 (upd (A 22) n0 ((ms ((A 25) a) ((A 25) b2)) + (2 * (yT s0))))) th co at_ wr no nu op pi wi he de) hP mkM_u22
    refine lv_aload_n hx hb (fh_d d_Mo_setFrac 73 rfl) rfl (lv_at hl 7 rfl) ?_
    refine fh_get (own := "FormulaSetterModel") (ref := "FormulaSetterModel") (C := "FormulaSetterModel") (T := T_Mo) (N := 53) (v := .ref (x + 30)) hx hb hT i_Mo hown hK hP mkM_o rfl 36 (by decide) (hT _ w896) (fun _ h9 => h9) rfl (fh_d d_Mo_setFrac 74 rfl) ?_
    refine lv_iload hx hb (fh_d d_Mo_setFrac 75 rfl) (lv_at hl 1 rfl) ?_
    refine lv_aload_n hx hb (fh_d d_Mo_setFrac 76 rfl) rfl (lv_at hl 7 rfl) ?_
    refine fh_get (own := "FormulaSetterModel") (ref := "FormulaSetterModel") (C := "FormulaSetterModel") (T := T_Mo) (N := 53) (v := .ref (x + 23)) hx hb hT i_Mo hown hK hP mkM_o rfl 29 (by decide) (hT _ w889) (fun _ h9 => h9) rfl (fh_d d_Mo_setFrac 77 rfl) ?_
    refine lv_iload_n hx hb (fh_d d_Mo_setFrac 78 rfl) rfl (lv_at hl 8 rfl) ?_
    refine fn_iald (f := upd (A 22) n0 ((ms ((A 25) a) ((A 25) b2)) + (2 * (yT s0)))) (k := n0) hx hb hK hP 0 mkM_a22 rfl (rfl) (by omega) (by decide) (fh_d d_Mo_setFrac 79 rfl) ?_
    rw [show ((upd (A 22) n0 ((ms ((A 25) a) ((A 25) b2)) + (2 * (yT s0)))) n0) = ((ms ((A 25) a) ((A 25) b2)) + (2 * (yT s0))) from upd_s]
    refine lv_aload_n hx hb (fh_d d_Mo_setFrac 80 rfl) rfl (lv_at hl 7 rfl) ?_
    refine fh_get (own := "FormulaSetterModel") (ref := "FormulaSetterModel") (C := "FormulaSetterModel") (T := T_Mo) (N := 53) (v := .ref (x + 26)) hx hb hT i_Mo hown hK hP mkM_o rfl 32 (by decide) (hT _ w892) (fun _ h9 => h9) rfl (fh_d d_Mo_setFrac 81 rfl) ?_
    refine lv_iload hx hb (fh_d d_Mo_setFrac 82 rfl) (lv_at hl 1 rfl) ?_
    refine fn_iald (f := A 25) (k := a) hx hb hK hP 0 mkM_a25 rfl (rfl) (by omega) (by decide) (fh_d d_Mo_setFrac 83 rfl) ?_
    refine lv_isub hx hb (fh_d d_Mo_setFrac 84 rfl) ?_
    refine lv_iconst (v := 2) hx hb (fh_d d_Mo_setFrac 85 rfl) (by decide) ?_
    refine lv_idiv hx hb (fh_d d_Mo_setFrac 86 rfl) (by decide) ?_
    refine fn_iast (f := A 29) (k := a) hx hb hK hP hS 0 mkM_a29 rfl (rfl) (by omega) (by decide) (fh_d d_Mo_setFrac 87 rfl) (fun H locs hP hS => ?_)
    replace hP := fh_P.eq (h' := mkM ct x g (up2 (up2 A 22 (upd (A 22) n0 ((ms ((A 25) a) ((A 25) b2)) + (2 * (yT s0))))) 29 (upd (A 29) a ((((ms ((A 25) a) ((A 25) b2)) + (2 * (yT s0))) - ((A 25) a)) / 2))) th co at_ wr no nu op pi wi he de) hP mkM_u29
    refine lv_aload_n hx hb (fh_d d_Mo_setFrac 88 rfl) rfl (lv_at hl 7 rfl) ?_
    refine fh_get (own := "FormulaSetterModel") (ref := "FormulaSetterModel") (C := "FormulaSetterModel") (T := T_Mo) (N := 53) (v := .ref (x + 30)) hx hb hT i_Mo hown hK hP mkM_o rfl 36 (by decide) (hT _ w896) (fun _ h9 => h9) rfl (fh_d d_Mo_setFrac 89 rfl) ?_
    refine lv_iload hx hb (fh_d d_Mo_setFrac 90 rfl) (lv_at hl 0 rfl) ?_
    refine lv_aload_n hx hb (fh_d d_Mo_setFrac 91 rfl) rfl (lv_at hl 7 rfl) ?_
    refine fh_get (own := "FormulaSetterModel") (ref := "FormulaSetterModel") (C := "FormulaSetterModel") (T := T_Mo) (N := 53) (v := .ref (x + 23)) hx hb hT i_Mo hown hK hP mkM_o rfl 29 (by decide) (hT _ w889) (fun _ h9 => h9) rfl (fh_d d_Mo_setFrac 92 rfl) ?_
    refine lv_iload_n hx hb (fh_d d_Mo_setFrac 93 rfl) rfl (lv_at hl 8 rfl) ?_
    refine fn_iald (f := upd (A 22) n0 ((ms ((A 25) a) ((A 25) b2)) + (2 * (yT s0)))) (k := n0) hx hb hK hP 0 mkM_a22 rfl (rfl) (by omega) (by decide) (fh_d d_Mo_setFrac 94 rfl) ?_
    rw [show ((upd (A 22) n0 ((ms ((A 25) a) ((A 25) b2)) + (2 * (yT s0)))) n0) = ((ms ((A 25) a) ((A 25) b2)) + (2 * (yT s0))) from upd_s]
    refine lv_aload_n hx hb (fh_d d_Mo_setFrac 95 rfl) rfl (lv_at hl 7 rfl) ?_
    refine fh_get (own := "FormulaSetterModel") (ref := "FormulaSetterModel") (C := "FormulaSetterModel") (T := T_Mo) (N := 53) (v := .ref (x + 26)) hx hb hT i_Mo hown hK hP mkM_o rfl 32 (by decide) (hT _ w892) (fun _ h9 => h9) rfl (fh_d d_Mo_setFrac 96 rfl) ?_
    refine lv_iload hx hb (fh_d d_Mo_setFrac 97 rfl) (lv_at hl 0 rfl) ?_
    refine fn_iald (f := A 25) (k := b2) hx hb hK hP 0 mkM_a25 rfl (rfl) (by omega) (by decide) (fh_d d_Mo_setFrac 98 rfl) ?_
    refine lv_isub hx hb (fh_d d_Mo_setFrac 99 rfl) ?_
    refine lv_iconst (v := 2) hx hb (fh_d d_Mo_setFrac 100 rfl) (by decide) ?_
    refine lv_idiv hx hb (fh_d d_Mo_setFrac 101 rfl) (by decide) ?_
    refine fn_iast (f := upd (A 29) a ((((ms ((A 25) a) ((A 25) b2)) + (2 * (yT s0))) - ((A 25) a)) / 2)) (k := b2) hx hb hK hP hS 0 mkM_a29 rfl (rfl) (by omega) (by decide) (fh_d d_Mo_setFrac 102 rfl) (fun H locs hP hS => ?_)
    replace hP := fh_P.eq (h' := mkM ct x g (up2 (up2 (up2 A 22 (upd (A 22) n0 ((ms ((A 25) a) ((A 25) b2)) + (2 * (yT s0))))) 29 (upd (A 29) a ((((ms ((A 25) a) ((A 25) b2)) + (2 * (yT s0))) - ((A 25) a)) / 2))) 29 (upd (upd (A 29) a ((((ms ((A 25) a) ((A 25) b2)) + (2 * (yT s0))) - ((A 25) a)) / 2)) b2 ((((ms ((A 25) a) ((A 25) b2)) + (2 * (yT s0))) - ((A 25) b2)) / 2))) th co at_ wr no nu op pi wi he de) hP mkM_u29
    refine lv_aload_n hx hb (fh_d d_Mo_setFrac 103 rfl) rfl (lv_at hl 7 rfl) ?_
    refine fh_get (own := "FormulaSetterModel") (ref := "FormulaSetterModel") (C := "FormulaSetterModel") (T := T_Mo) (N := 53) (v := .ref (x + 31)) hx hb hT i_Mo hown hK hP mkM_o rfl 37 (by decide) (hT _ w897) (fun _ h9 => h9) rfl (fh_d d_Mo_setFrac 104 rfl) ?_
    refine lv_iload hx hb (fh_d d_Mo_setFrac 105 rfl) (lv_at hl 1 rfl) ?_
    refine lv_iload hx hb (fh_d d_Mo_setFrac 106 rfl) (lv_at hl 2 rfl) ?_
    refine lv_iload hx hb (fh_d d_Mo_setFrac 107 rfl) (lv_at hl 4 rfl) ?_
    refine lv_iload_n hx hb (fh_d d_Mo_setFrac 108 rfl) rfl (lv_at hl 5 rfl) ?_
    refine lv_iadd hx hb (fh_d d_Mo_setFrac 109 rfl) ?_
    refine lv_iload hx hb (fh_d d_Mo_setFrac 110 rfl) (lv_at hl 3 rfl) ?_
    refine lv_iadd hx hb (fh_d d_Mo_setFrac 111 rfl) ?_
    refine lv_aload_n hx hb (fh_d d_Mo_setFrac 112 rfl) rfl (lv_at hl 7 rfl) ?_
    refine fh_get (own := "FormulaSetterModel") (ref := "FormulaSetterModel") (C := "FormulaSetterModel") (T := T_Mo) (N := 53) (v := .ref (x + 28)) hx hb hT i_Mo hown hK hP mkM_o rfl 34 (by decide) (hT _ w894) (fun _ h9 => h9) rfl (fh_d d_Mo_setFrac 113 rfl) ?_
    refine lv_iload hx hb (fh_d d_Mo_setFrac 114 rfl) (lv_at hl 1 rfl) ?_
    refine fn_iald (f := A 27) (k := a) hx hb hK hP 0 mkM_a27 rfl (rfl) (by omega) (by decide) (fh_d d_Mo_setFrac 115 rfl) ?_
    refine lv_iadd hx hb (fh_d d_Mo_setFrac 116 rfl) ?_
    refine fh_callS (cc' := c_Mo_most) (nL' := 2) (rest := [.int (nI a), .ref (x + 31)]) (av := [.int (4 * (yS s0)), .int (((((yX s0) - ((yT s0) / 2)) + (yT s0)) + (yT s0)) + ((A 27) a))]) X hR (m_Mo_most l D ct b RO (r - 1) n (4 * (yS s0)) (((((yX s0) - ((yT s0) / 2)) + (yT s0)) + (yT s0)) + ((A 27) a)) (mkM ct x g (up2 (up2 (up2 A 22 (upd (A 22) n0 ((ms ((A 25) a) ((A 25) b2)) + (2 * (yT s0))))) 29 (upd (A 29) a ((((ms ((A 25) a) ((A 25) b2)) + (2 * (yT s0))) - ((A 25) a)) / 2))) 29 (upd (upd (A 29) a ((((ms ((A 25) a) ((A 25) b2)) + (2 * (yT s0))) - ((A 25) a)) / 2)) b2 ((((ms ((A 25) a) ((A 25) b2)) + (2 * (yT s0))) - ((A 25) b2)) / 2))) th co at_ wr no nu op pi wi he de)) w1151 w1149 w1150 w9 ⟨by decide, by decide, by show _ = some 2; decide +kernel⟩ (by omega) (by decide) hP hS hl.1 rfl (by exact Nat.le_of_ble_eq_true rfl) (fh_d d_Mo_setFrac 117 rfl) ⟨Nat.le_refl _, Nat.le_refl _⟩ (fun v9 h9 n9 H locs hq hP hS => ?_)
    obtain ⟨rfl, q15a, q15b⟩ := hq
    rw [q15a, q15b] at hP
    refine W.eq (g2 := F0 m 189 ls [.int (ms (4 * (yS s0)) (((((yX s0) - ((yT s0) / 2)) + (yT s0)) + (yT s0)) + ((A 27) a))), .int (nI a), .ref (x + 31)]) rfl ?_
    refine fn_iast (f := A 30) (k := a) hx hb hK hP hS 0 mkM_a30 rfl (rfl) (by omega) (by decide) (fh_d d_Mo_setFrac 118 rfl) (fun H locs hP hS => ?_)
    replace hP := fh_P.eq (h' := mkM ct x g (up2 (up2 (up2 (up2 A 22 (upd (A 22) n0 ((ms ((A 25) a) ((A 25) b2)) + (2 * (yT s0))))) 29 (upd (A 29) a ((((ms ((A 25) a) ((A 25) b2)) + (2 * (yT s0))) - ((A 25) a)) / 2))) 29 (upd (upd (A 29) a ((((ms ((A 25) a) ((A 25) b2)) + (2 * (yT s0))) - ((A 25) a)) / 2)) b2 ((((ms ((A 25) a) ((A 25) b2)) + (2 * (yT s0))) - ((A 25) b2)) / 2))) 30 (upd (A 30) a (ms (4 * (yS s0)) (((((yX s0) - ((yT s0) / 2)) + (yT s0)) + (yT s0)) + ((A 27) a))))) th co at_ wr no nu op pi wi he de) hP mkM_u30
    refine lv_aload_n hx hb (fh_d d_Mo_setFrac 119 rfl) rfl (lv_at hl 7 rfl) ?_
    refine fh_get (own := "FormulaSetterModel") (ref := "FormulaSetterModel") (C := "FormulaSetterModel") (T := T_Mo) (N := 53) (v := .ref (x + 31)) hx hb hT i_Mo hown hK hP mkM_o rfl 37 (by decide) (hT _ w897) (fun _ h9 => h9) rfl (fh_d d_Mo_setFrac 120 rfl) ?_
    refine lv_iload hx hb (fh_d d_Mo_setFrac 121 rfl) (lv_at hl 0 rfl) ?_
    refine lv_iload hx hb (fh_d d_Mo_setFrac 122 rfl) (lv_at hl 2 rfl) ?_
    refine lv_aload_n hx hb (fh_d d_Mo_setFrac 123 rfl) rfl (lv_at hl 7 rfl) ?_
    refine fh_get (own := "FormulaSetterModel") (ref := "FormulaSetterModel") (C := "FormulaSetterModel") (T := T_Mo) (N := 53) (v := .ref (x + 27)) hx hb hT i_Mo hown hK hP mkM_o rfl 33 (by decide) (hT _ w893) (fun _ h9 => h9) rfl (fh_d d_Mo_setFrac 124 rfl) ?_
    refine lv_iload hx hb (fh_d d_Mo_setFrac 125 rfl) (lv_at hl 0 rfl) ?_
    refine fn_iald (f := A 26) (k := b2) hx hb hK hP 0 mkM_a26 rfl (rfl) (by omega) (by decide) (fh_d d_Mo_setFrac 126 rfl) ?_
    refine lv_iload hx hb (fh_d d_Mo_setFrac 127 rfl) (lv_at hl 3 rfl) ?_
    refine lv_iadd hx hb (fh_d d_Mo_setFrac 128 rfl) ?_
    refine lv_iload hx hb (fh_d d_Mo_setFrac 129 rfl) (lv_at hl 4 rfl) ?_
    refine lv_isub hx hb (fh_d d_Mo_setFrac 130 rfl) ?_
    refine fh_callS (cc' := c_Mo_most) (nL' := 2) (rest := [.int (nI b2), .ref (x + 31)]) (av := [.int (4 * (yS s0)), .int ((((A 26) b2) + (yT s0)) - ((yX s0) - ((yT s0) / 2)))]) X hR (m_Mo_most l D ct b RO (r - 1) n (4 * (yS s0)) ((((A 26) b2) + (yT s0)) - ((yX s0) - ((yT s0) / 2))) (mkM ct x g (up2 (up2 (up2 (up2 A 22 (upd (A 22) n0 ((ms ((A 25) a) ((A 25) b2)) + (2 * (yT s0))))) 29 (upd (A 29) a ((((ms ((A 25) a) ((A 25) b2)) + (2 * (yT s0))) - ((A 25) a)) / 2))) 29 (upd (upd (A 29) a ((((ms ((A 25) a) ((A 25) b2)) + (2 * (yT s0))) - ((A 25) a)) / 2)) b2 ((((ms ((A 25) a) ((A 25) b2)) + (2 * (yT s0))) - ((A 25) b2)) / 2))) 30 (upd (A 30) a (ms (4 * (yS s0)) (((((yX s0) - ((yT s0) / 2)) + (yT s0)) + (yT s0)) + ((A 27) a))))) th co at_ wr no nu op pi wi he de)) w1151 w1149 w1150 w9 ⟨by decide, by decide, by show _ = some 2; decide +kernel⟩ (by omega) (by decide) hP hS hl.1 rfl (by exact Nat.le_of_ble_eq_true rfl) (fh_d d_Mo_setFrac 131 rfl) ⟨Nat.le_refl _, Nat.le_refl _⟩ (fun v9 h9 n9 H locs hq hP hS => ?_)
    obtain ⟨rfl, q16a, q16b⟩ := hq
    rw [q16a, q16b] at hP
    refine W.eq (g2 := F0 m 214 ls [.int (ms (4 * (yS s0)) ((((A 26) b2) + (yT s0)) - ((yX s0) - ((yT s0) / 2)))), .int (nI b2), .ref (x + 31)]) rfl ?_
    refine lv_ineg hx hb (fh_d d_Mo_setFrac 132 rfl) ?_
    refine fn_iast (f := upd (A 30) a (ms (4 * (yS s0)) (((((yX s0) - ((yT s0) / 2)) + (yT s0)) + (yT s0)) + ((A 27) a)))) (k := b2) hx hb hK hP hS 0 mkM_a30 rfl (rfl) (by omega) (by decide) (fh_d d_Mo_setFrac 133 rfl) (fun H locs hP hS => ?_)
    replace hP := fh_P.eq (h' := mkM ct x g (up2 (up2 (up2 (up2 (up2 A 22 (upd (A 22) n0 ((ms ((A 25) a) ((A 25) b2)) + (2 * (yT s0))))) 29 (upd (A 29) a ((((ms ((A 25) a) ((A 25) b2)) + (2 * (yT s0))) - ((A 25) a)) / 2))) 29 (upd (upd (A 29) a ((((ms ((A 25) a) ((A 25) b2)) + (2 * (yT s0))) - ((A 25) a)) / 2)) b2 ((((ms ((A 25) a) ((A 25) b2)) + (2 * (yT s0))) - ((A 25) b2)) / 2))) 30 (upd (A 30) a (ms (4 * (yS s0)) (((((yX s0) - ((yT s0) / 2)) + (yT s0)) + (yT s0)) + ((A 27) a))))) 30 (upd (upd (A 30) a (ms (4 * (yS s0)) (((((yX s0) - ((yT s0) / 2)) + (yT s0)) + (yT s0)) + ((A 27) a)))) b2 (-(ms (4 * (yS s0)) ((((A 26) b2) + (yT s0)) - ((yX s0) - ((yT s0) / 2))))))) th co at_ wr no nu op pi wi he de) hP mkM_u30
    refine lv_aload_n hx hb (fh_d d_Mo_setFrac 134 rfl) rfl (lv_at hl 7 rfl) ?_
    refine fh_get (own := "FormulaSetterModel") (ref := "FormulaSetterModel") (C := "FormulaSetterModel") (T := T_Mo) (N := 53) (v := .ref (x + 36)) hx hb hT i_Mo hown hK hP mkM_o rfl 42 (by decide) (hT _ w902) (fun _ h9 => h9) rfl (fh_d d_Mo_setFrac 135 rfl) ?_
    refine lv_iload_n hx hb (fh_d d_Mo_setFrac 136 rfl) rfl (lv_at hl 8 rfl) ?_
    refine lv_iload hx hb (fh_d d_Mo_setFrac 137 rfl) (lv_at hl 4 rfl) ?_
    refine fn_iast (f := A 35) (k := n0) hx hb hK hP hS 0 mkM_a35 rfl (rfl) (by omega) (by decide) (fh_d d_Mo_setFrac 138 rfl) (fun H locs hP hS => ?_)
    replace hP := fh_P.eq (h' := mkM ct x g (up2 (up2 (up2 (up2 (up2 (up2 A 22 (upd (A 22) n0 ((ms ((A 25) a) ((A 25) b2)) + (2 * (yT s0))))) 29 (upd (A 29) a ((((ms ((A 25) a) ((A 25) b2)) + (2 * (yT s0))) - ((A 25) a)) / 2))) 29 (upd (upd (A 29) a ((((ms ((A 25) a) ((A 25) b2)) + (2 * (yT s0))) - ((A 25) a)) / 2)) b2 ((((ms ((A 25) a) ((A 25) b2)) + (2 * (yT s0))) - ((A 25) b2)) / 2))) 30 (upd (A 30) a (ms (4 * (yS s0)) (((((yX s0) - ((yT s0) / 2)) + (yT s0)) + (yT s0)) + ((A 27) a))))) 30 (upd (upd (A 30) a (ms (4 * (yS s0)) (((((yX s0) - ((yT s0) / 2)) + (yT s0)) + (yT s0)) + ((A 27) a)))) b2 (-(ms (4 * (yS s0)) ((((A 26) b2) + (yT s0)) - ((yX s0) - ((yT s0) / 2))))))) 35 (upd (A 35) n0 ((yX s0) - ((yT s0) / 2)))) th co at_ wr no nu op pi wi he de) hP mkM_u35
    refine lv_aload_n hx hb (fh_d d_Mo_setFrac 139 rfl) rfl (lv_at hl 7 rfl) ?_
    refine fh_get (own := "FormulaSetterModel") (ref := "FormulaSetterModel") (C := "FormulaSetterModel") (T := T_Mo) (N := 53) (v := .ref (x + 24)) hx hb hT i_Mo hown hK hP mkM_o rfl 30 (by decide) (hT _ w890) (fun _ h9 => h9) rfl (fh_d d_Mo_setFrac 140 rfl) ?_
    refine lv_iload_n hx hb (fh_d d_Mo_setFrac 141 rfl) rfl (lv_at hl 8 rfl) ?_
    refine lv_aload_n hx hb (fh_d d_Mo_setFrac 142 rfl) rfl (lv_at hl 7 rfl) ?_
    refine fh_get (own := "FormulaSetterModel") (ref := "FormulaSetterModel") (C := "FormulaSetterModel") (T := T_Mo) (N := 53) (v := .ref (x + 31)) hx hb hT i_Mo hown hK hP mkM_o rfl 37 (by decide) (hT _ w897) (fun _ h9 => h9) rfl (fh_d d_Mo_setFrac 143 rfl) ?_
    refine lv_iload hx hb (fh_d d_Mo_setFrac 144 rfl) (lv_at hl 1 rfl) ?_
    refine fn_iald (f := upd (upd (A 30) a (ms (4 * (yS s0)) (((((yX s0) - ((yT s0) / 2)) + (yT s0)) + (yT s0)) + ((A 27) a)))) b2 (-(ms (4 * (yS s0)) ((((A 26) b2) + (yT s0)) - ((yX s0) - ((yT s0) / 2)))))) (k := a) hx hb hK hP 0 mkM_a30 rfl (rfl) (by omega) (by decide) (fh_d d_Mo_setFrac 145 rfl) ?_
    refine lv_aload_n hx hb (fh_d d_Mo_setFrac 146 rfl) rfl (lv_at hl 7 rfl) ?_
    refine fh_get (own := "FormulaSetterModel") (ref := "FormulaSetterModel") (C := "FormulaSetterModel") (T := T_Mo) (N := 53) (v := .ref (x + 27)) hx hb hT i_Mo hown hK hP mkM_o rfl 33 (by decide) (hT _ w893) (fun _ h9 => h9) rfl (fh_d d_Mo_setFrac 147 rfl) ?_
    refine lv_iload hx hb (fh_d d_Mo_setFrac 148 rfl) (lv_at hl 1 rfl) ?_
    refine fn_iald (f := A 26) (k := a) hx hb hK hP 0 mkM_a26 rfl (rfl) (by omega) (by decide) (fh_d d_Mo_setFrac 149 rfl) ?_
    refine lv_iadd hx hb (fh_d d_Mo_setFrac 150 rfl) ?_
    refine fn_iast (f := A 23) (k := n0) hx hb hK hP hS 0 mkM_a23 rfl (rfl) (by omega) (by decide) (fh_d d_Mo_setFrac 151 rfl) (fun H locs hP hS => ?_)
    replace hP := fh_P.eq (h' := mkM ct x g (up2 (up2 (up2 (up2 (up2 (up2 (up2 A 22 (upd (A 22) n0 ((ms ((A 25) a) ((A 25) b2)) + (2 * (yT s0))))) 29 (upd (A 29) a ((((ms ((A 25) a) ((A 25) b2)) + (2 * (yT s0))) - ((A 25) a)) / 2))) 29 (upd (upd (A 29) a ((((ms ((A 25) a) ((A 25) b2)) + (2 * (yT s0))) - ((A 25) a)) / 2)) b2 ((((ms ((A 25) a) ((A 25) b2)) + (2 * (yT s0))) - ((A 25) b2)) / 2))) 30 (upd (A 30) a (ms (4 * (yS s0)) (((((yX s0) - ((yT s0) / 2)) + (yT s0)) + (yT s0)) + ((A 27) a))))) 30 (upd (upd (A 30) a (ms (4 * (yS s0)) (((((yX s0) - ((yT s0) / 2)) + (yT s0)) + (yT s0)) + ((A 27) a)))) b2 (-(ms (4 * (yS s0)) ((((A 26) b2) + (yT s0)) - ((yX s0) - ((yT s0) / 2))))))) 35 (upd (A 35) n0 ((yX s0) - ((yT s0) / 2)))) 23 (upd (A 23) n0 (((upd (upd (A 30) a (ms (4 * (yS s0)) (((((yX s0) - ((yT s0) / 2)) + (yT s0)) + (yT s0)) + ((A 27) a)))) b2 (-(ms (4 * (yS s0)) ((((A 26) b2) + (yT s0)) - ((yX s0) - ((yT s0) / 2)))))) a) + ((A 26) a)))) th co at_ wr no nu op pi wi he de) hP mkM_u23
    refine lv_aload_n hx hb (fh_d d_Mo_setFrac 152 rfl) rfl (lv_at hl 7 rfl) ?_
    refine fh_get (own := "FormulaSetterModel") (ref := "FormulaSetterModel") (C := "FormulaSetterModel") (T := T_Mo) (N := 53) (v := .ref (x + 25)) hx hb hT i_Mo hown hK hP mkM_o rfl 31 (by decide) (hT _ w891) (fun _ h9 => h9) rfl (fh_d d_Mo_setFrac 153 rfl) ?_
    refine lv_iload_n hx hb (fh_d d_Mo_setFrac 154 rfl) rfl (lv_at hl 8 rfl) ?_
    refine lv_aload_n hx hb (fh_d d_Mo_setFrac 155 rfl) rfl (lv_at hl 7 rfl) ?_
    refine fh_get (own := "FormulaSetterModel") (ref := "FormulaSetterModel") (C := "FormulaSetterModel") (T := T_Mo) (N := 53) (v := .ref (x + 28)) hx hb hT i_Mo hown hK hP mkM_o rfl 34 (by decide) (hT _ w894) (fun _ h9 => h9) rfl (fh_d d_Mo_setFrac 156 rfl) ?_
    refine lv_iload hx hb (fh_d d_Mo_setFrac 157 rfl) (lv_at hl 0 rfl) ?_
    refine fn_iald (f := A 27) (k := b2) hx hb hK hP 0 mkM_a27 rfl (rfl) (by omega) (by decide) (fh_d d_Mo_setFrac 158 rfl) ?_
    refine lv_aload_n hx hb (fh_d d_Mo_setFrac 159 rfl) rfl (lv_at hl 7 rfl) ?_
    refine fh_get (own := "FormulaSetterModel") (ref := "FormulaSetterModel") (C := "FormulaSetterModel") (T := T_Mo) (N := 53) (v := .ref (x + 31)) hx hb hT i_Mo hown hK hP mkM_o rfl 37 (by decide) (hT _ w897) (fun _ h9 => h9) rfl (fh_d d_Mo_setFrac 160 rfl) ?_
    refine lv_iload hx hb (fh_d d_Mo_setFrac 161 rfl) (lv_at hl 0 rfl) ?_
    refine fn_iald (f := upd (upd (A 30) a (ms (4 * (yS s0)) (((((yX s0) - ((yT s0) / 2)) + (yT s0)) + (yT s0)) + ((A 27) a)))) b2 (-(ms (4 * (yS s0)) ((((A 26) b2) + (yT s0)) - ((yX s0) - ((yT s0) / 2)))))) (k := b2) hx hb hK hP 0 mkM_a30 rfl (rfl) (by omega) (by decide) (fh_d d_Mo_setFrac 162 rfl) ?_
    rw [show ((upd (upd (A 30) a (ms (4 * (yS s0)) (((((yX s0) - ((yT s0) / 2)) + (yT s0)) + (yT s0)) + ((A 27) a)))) b2 (-(ms (4 * (yS s0)) ((((A 26) b2) + (yT s0)) - ((yX s0) - ((yT s0) / 2)))))) b2) = (-(ms (4 * (yS s0)) ((((A 26) b2) + (yT s0)) - ((yX s0) - ((yT s0) / 2))))) from upd_s]
    refine lv_isub hx hb (fh_d d_Mo_setFrac 163 rfl) ?_
    refine fn_iast (f := A 24) (k := n0) hx hb hK hP hS 0 mkM_a24 rfl (rfl) (by omega) (by decide) (fh_d d_Mo_setFrac 164 rfl) (fun H locs hP hS => ?_)
    replace hP := fh_P.eq (h' := mkM ct x g (up2 (up2 (up2 (up2 (up2 (up2 (up2 (up2 A 22 (upd (A 22) n0 ((ms ((A 25) a) ((A 25) b2)) + (2 * (yT s0))))) 29 (upd (A 29) a ((((ms ((A 25) a) ((A 25) b2)) + (2 * (yT s0))) - ((A 25) a)) / 2))) 29 (upd (upd (A 29) a ((((ms ((A 25) a) ((A 25) b2)) + (2 * (yT s0))) - ((A 25) a)) / 2)) b2 ((((ms ((A 25) a) ((A 25) b2)) + (2 * (yT s0))) - ((A 25) b2)) / 2))) 30 (upd (A 30) a (ms (4 * (yS s0)) (((((yX s0) - ((yT s0) / 2)) + (yT s0)) + (yT s0)) + ((A 27) a))))) 30 (upd (upd (A 30) a (ms (4 * (yS s0)) (((((yX s0) - ((yT s0) / 2)) + (yT s0)) + (yT s0)) + ((A 27) a)))) b2 (-(ms (4 * (yS s0)) ((((A 26) b2) + (yT s0)) - ((yX s0) - ((yT s0) / 2))))))) 35 (upd (A 35) n0 ((yX s0) - ((yT s0) / 2)))) 23 (upd (A 23) n0 (((upd (upd (A 30) a (ms (4 * (yS s0)) (((((yX s0) - ((yT s0) / 2)) + (yT s0)) + (yT s0)) + ((A 27) a)))) b2 (-(ms (4 * (yS s0)) ((((A 26) b2) + (yT s0)) - ((yX s0) - ((yT s0) / 2)))))) a) + ((A 26) a)))) 24 (upd (A 24) n0 (((A 27) b2) - (-(ms (4 * (yS s0)) ((((A 26) b2) + (yT s0)) - ((yX s0) - ((yT s0) / 2)))))))) th co at_ wr no nu op pi wi he de) hP mkM_u24
    exact fh_vret X hP hS (fh_d d_Mo_setFrac 165 rfl) ⟨rfl, by unfold rf_fr; rw [if_neg hs]; (try rfl), rfl⟩

def rf_sq (A : Nat → Nat → Int32) (n0 s0 u : Nat) : Nat → Nat → Int32 := if s0 = 0 then (up2 (up2 (up2 (up2 (up2 (up2 (up2 A 34 (upd (A 34) n0 (yTa s0 (((((A 26) u) + ((A 27) u)) + ((yT s0) + (yS s0))) + (yT s0))))) 23 (upd (A 23) n0 ((((A 26) u) + ((yT s0) + (yS s0))) + (yT s0)))) 35 (upd (A 35) n0 (((((A 26) u) + ((yT s0) + (yS s0))) + (yT s0)) - (yTa s0 (((((A 26) u) + ((A 27) u)) + ((yT s0) + (yS s0))) + (yT s0)))))) 24 (upd (A 24) n0 (ms ((A 27) u) (-(((((A 26) u) + ((yT s0) + (yS s0))) + (yT s0)) - (yTa s0 (((((A 26) u) + ((A 27) u)) + ((yT s0) + (yS s0))) + (yT s0)))))))) 22 (upd (A 22) n0 ((5 * (yS s0)) + ((A 25) u)))) 29 (upd (A 29) u (5 * (yS s0)))) 30 (upd (A 30) u 0)) else (up2 (up2 (up2 (up2 (up2 (up2 (up2 A 34 (upd (A 34) n0 (yTa s0 (((((A 26) u) + ((A 27) u)) + (2 * (yT s0))) + (yT s0))))) 23 (upd (A 23) n0 ((((A 26) u) + (2 * (yT s0))) + (yT s0)))) 35 (upd (A 35) n0 (((((A 26) u) + (2 * (yT s0))) + (yT s0)) - (yTa s0 (((((A 26) u) + ((A 27) u)) + (2 * (yT s0))) + (yT s0)))))) 24 (upd (A 24) n0 (ms ((A 27) u) (-(((((A 26) u) + (2 * (yT s0))) + (yT s0)) - (yTa s0 (((((A 26) u) + ((A 27) u)) + (2 * (yT s0))) + (yT s0)))))))) 22 (upd (A 22) n0 ((5 * (yS s0)) + ((A 25) u)))) 29 (upd (A 29) u (5 * (yS s0)))) 30 (upd (A 30) u 0))
set_option maxHeartbeats 4000000 in
set_option maxRecDepth 100000 in
theorem m_Mo_setSqrt (l : Launch) (D : va_G) (ct : Nat → ClassId) (b : Nat) (RO : State → Prop) (hR : fh_R b RO) (r : Nat) (hr : 2 ≤ r) (n x : Nat) (g : fh_H) (A : Nat → Nat → Int32) (th co at_ wr no nu op pi wi he de : Int32) (n0 : Nat) (hn0 : n0 < 400) (s0 : Nat) (hs0 : s0 < 4) (h20 : A 20 n0 = nI s0) (u : Nat) (hu : u < 400) (h10 : A 10 n0 = nI u) (kT : Nat) (hkT : kT ≤ 1000000000) (hTl : A 26 u + A 27 u + (if s0 = 0 then yT s0 + yS s0 else 2 * yT s0) + yT s0 = nI kT) : fh_C l D fh_cl (fh_tys ct) b RO y_Mo_setSqrt (Cond.code y_Mo_setSqrt c_Mo_setSqrt 6 (Option.none : Option FieldType) :: fh_T) (fh_rm r 0 0) [.ref x, .int (nI n0)] (mkM ct x g A th co at_ wr no nu op pi wi he de) n (fun v h' n' => v = none ∧ h' = mkM ct x g (rf_sq A n0 s0 u) th co at_ wr no nu op pi wi he de ∧ n' = n) 0 0 := by
  refine fh_enter (by decide) (Nat.le_of_ble_eq_true rfl) [(0, .ref x), (1, .int (nI n0))] rfl ?_
  intro p e s m args below meth c H ls X hP hS hl
  have hx := X.1
  have hb := X.2.1
  have hml := X.2.2.1
  have hown : s.vm.findClass "FormulaSetterModel" = some m.cls := X.2.2.2.1
  have hT := X.2.2.2.2.1
  have hK := X.2.2.2.2.2.1
  have hRO := X.2.2.2.2.2.2.1
  have hnm : meth.name = "setSqrt" := X.2.2.2.2.2.2.2.2.2.2
  by_cases hs : s0 = 0
  · skip
    refine lv_aload_n hx hb (fh_d d_Mo_setSqrt 0 rfl) rfl (lv_at hl 0 rfl) ?_
    refine fh_get (own := "FormulaSetterModel") (ref := "FormulaSetterModel") (C := "FormulaSetterModel") (T := T_Mo) (N := 53) (v := .ref (x + 21)) hx hb hT i_Mo hown hK hP mkM_o rfl 27 (by decide) (hT _ w887) (fun _ h9 => h9) rfl (fh_d d_Mo_setSqrt 1 rfl) ?_
    refine lv_iload_n hx hb (fh_d d_Mo_setSqrt 2 rfl) rfl (lv_at hl 1 rfl) ?_
    refine fn_iald (f := A 20) (k := n0) hx hb hK hP 0 mkM_a20 rfl (rfl) (by omega) (by decide) (fh_d d_Mo_setSqrt 3 rfl) ?_
    rw [show ((A 20) n0) = nI s0 from h20]
    refine fh_callS (cc' := c_Mo_zOf) (nL' := 1) (rest := []) (av := [.int (nI s0)]) X hR (m_Mo_zO l D ct b RO hR (r - 1) (by omega) n s0 hs0 (mkM ct x g A th co at_ wr no nu op pi wi he de)) w1139 w1137 w1138 w9 ⟨by decide, by decide, by show _ = some 1; decide +kernel⟩ (by omega) (by decide) hP hS hl.1 rfl (by exact Nat.le_of_ble_eq_true rfl) (fh_d d_Mo_setSqrt 4 rfl) ⟨Nat.le_refl _, Nat.le_refl _⟩ (fun v9 h9 n9 H locs hq hP hS => ?_)
    obtain ⟨rfl, q1a, q1b⟩ := hq
    rw [q1a, q1b] at hP
    refine W.eq (g2 := F0 m 9 ls [.int (yS s0)]) rfl ?_
    refine lv_istore_n (lv' := [(2, .int (yS s0)), (0, .ref x), (1, .int (nI n0))]) hx hb (fh_d d_Mo_setSqrt 5 rfl) rfl hl (by decide) rfl (fun ls hl => ?_)
    refine lv_aload_n hx hb (fh_d d_Mo_setSqrt 6 rfl) rfl (lv_at hl 1 rfl) ?_
    refine fh_get (own := "FormulaSetterModel") (ref := "FormulaSetterModel") (C := "FormulaSetterModel") (T := T_Mo) (N := 53) (v := .ref (x + 21)) hx hb hT i_Mo hown hK hP mkM_o rfl 27 (by decide) (hT _ w887) (fun _ h9 => h9) rfl (fh_d d_Mo_setSqrt 7 rfl) ?_
    refine lv_iload_n hx hb (fh_d d_Mo_setSqrt 8 rfl) rfl (lv_at hl 2 rfl) ?_
    refine fn_iald (f := A 20) (k := n0) hx hb hK hP 0 mkM_a20 rfl (rfl) (by omega) (by decide) (fh_d d_Mo_setSqrt 9 rfl) ?_
    rw [show ((A 20) n0) = nI s0 from h20]
    refine fh_callS (cc' := c_Mo_tOf) (nL' := 1) (rest := []) (av := [.int (nI s0)]) X hR (m_Mo_tO l D ct b RO hR (r - 1) (by omega) n s0 hs0 (mkM ct x g A th co at_ wr no nu op pi wi he de)) w1174 w1172 w1173 w9 ⟨by decide, by decide, by show _ = some 1; decide +kernel⟩ (by omega) (by decide) hP hS hl.1 rfl (by exact Nat.le_of_ble_eq_true rfl) (fh_d d_Mo_setSqrt 10 rfl) ⟨Nat.le_refl _, Nat.le_refl _⟩ (fun v9 h9 n9 H locs hq hP hS => ?_)
    obtain ⟨rfl, q2a, q2b⟩ := hq
    rw [q2a, q2b] at hP
    refine W.eq (g2 := F0 m 19 ls [.int (yT s0)]) rfl ?_
    refine lv_istore_n (lv' := [(3, .int (yT s0)), (2, .int (yS s0)), (0, .ref x), (1, .int (nI n0))]) hx hb (fh_d d_Mo_setSqrt 11 rfl) rfl hl (by decide) rfl (fun ls hl => ?_)
    refine lv_aload_n hx hb (fh_d d_Mo_setSqrt 12 rfl) rfl (lv_at hl 2 rfl) ?_
    refine fh_get (own := "FormulaSetterModel") (ref := "FormulaSetterModel") (C := "FormulaSetterModel") (T := T_Mo) (N := 53) (v := .ref (x + 21)) hx hb hT i_Mo hown hK hP mkM_o rfl 27 (by decide) (hT _ w887) (fun _ h9 => h9) rfl (fh_d d_Mo_setSqrt 13 rfl) ?_
    refine lv_iload_n hx hb (fh_d d_Mo_setSqrt 14 rfl) rfl (lv_at hl 3 rfl) ?_
    refine fn_iald (f := A 20) (k := n0) hx hb hK hP 0 mkM_a20 rfl (rfl) (by omega) (by decide) (fh_d d_Mo_setSqrt 15 rfl) ?_
    rw [show ((A 20) n0) = nI s0 from h20]
    refine lv_if_ne (tgt := 35) hx hb (fh_d d_Mo_setSqrt 16 rfl) rfl (fun c3 => absurd c3 (fun z => z (by rw [hs]; rfl))) (fun c3 => ?_)
    refine lv_iload_n hx hb (fh_d d_Mo_setSqrt 17 rfl) rfl (lv_at hl 0 rfl) ?_
    refine lv_iload_n hx hb (fh_d d_Mo_setSqrt 18 rfl) rfl (lv_at hl 1 rfl) ?_
    refine lv_iadd hx hb (fh_d d_Mo_setSqrt 19 rfl) ?_
    refine lv_goto (tgt := 38) hx hb (fh_d d_Mo_setSqrt 20 rfl) rfl ?_
    refine lv_istore (lv' := [(4, .int ((yT s0) + (yS s0))), (3, .int (yT s0)), (2, .int (yS s0)), (0, .ref x), (1, .int (nI n0))]) hx hb (fh_d d_Mo_setSqrt 24 rfl) hl (by decide) rfl (fun ls hl => ?_)
    refine lv_aload_n hx hb (fh_d d_Mo_setSqrt 25 rfl) rfl (lv_at hl 3 rfl) ?_
    refine fh_get (own := "FormulaSetterModel") (ref := "FormulaSetterModel") (C := "FormulaSetterModel") (T := T_Mo) (N := 53) (v := .ref (x + 11)) hx hb hT i_Mo hown hK hP mkM_o rfl 16 (by decide) (hT _ w876) (fun _ h9 => h9) rfl (fh_d d_Mo_setSqrt 26 rfl) ?_
    refine lv_iload_n hx hb (fh_d d_Mo_setSqrt 27 rfl) rfl (lv_at hl 4 rfl) ?_
    refine fn_iald (f := A 10) (k := n0) hx hb hK hP 0 mkM_a10 rfl (rfl) (by omega) (by decide) (fh_d d_Mo_setSqrt 28 rfl) ?_
    rw [show ((A 10) n0) = nI u from h10]
    refine lv_istore (lv' := [(5, .int (nI u)), (4, .int ((yT s0) + (yS s0))), (3, .int (yT s0)), (2, .int (yS s0)), (0, .ref x), (1, .int (nI n0))]) hx hb (fh_d d_Mo_setSqrt 29 rfl) hl (by decide) rfl (fun ls hl => ?_)
    refine lv_aload_n hx hb (fh_d d_Mo_setSqrt 30 rfl) rfl (lv_at hl 4 rfl) ?_
    refine fh_get (own := "FormulaSetterModel") (ref := "FormulaSetterModel") (C := "FormulaSetterModel") (T := T_Mo) (N := 53) (v := .ref (x + 35)) hx hb hT i_Mo hown hK hP mkM_o rfl 41 (by decide) (hT _ w901) (fun _ h9 => h9) rfl (fh_d d_Mo_setSqrt 31 rfl) ?_
    refine lv_iload_n hx hb (fh_d d_Mo_setSqrt 32 rfl) rfl (lv_at hl 5 rfl) ?_
    refine lv_aload_n hx hb (fh_d d_Mo_setSqrt 33 rfl) rfl (lv_at hl 4 rfl) ?_
    refine fh_get (own := "FormulaSetterModel") (ref := "FormulaSetterModel") (C := "FormulaSetterModel") (T := T_Mo) (N := 53) (v := .ref (x + 27)) hx hb hT i_Mo hown hK hP mkM_o rfl 33 (by decide) (hT _ w893) (fun _ h9 => h9) rfl (fh_d d_Mo_setSqrt 34 rfl) ?_
    refine lv_iload hx hb (fh_d d_Mo_setSqrt 35 rfl) (lv_at hl 0 rfl) ?_
    refine fn_iald (f := A 26) (k := u) hx hb hK hP 0 mkM_a26 rfl (rfl) (by omega) (by decide) (fh_d d_Mo_setSqrt 36 rfl) ?_
    refine lv_aload_n hx hb (fh_d d_Mo_setSqrt 37 rfl) rfl (lv_at hl 4 rfl) ?_
    refine fh_get (own := "FormulaSetterModel") (ref := "FormulaSetterModel") (C := "FormulaSetterModel") (T := T_Mo) (N := 53) (v := .ref (x + 28)) hx hb hT i_Mo hown hK hP mkM_o rfl 34 (by decide) (hT _ w894) (fun _ h9 => h9) rfl (fh_d d_Mo_setSqrt 38 rfl) ?_
    refine lv_iload hx hb (fh_d d_Mo_setSqrt 39 rfl) (lv_at hl 0 rfl) ?_
    refine fn_iald (f := A 27) (k := u) hx hb hK hP 0 mkM_a27 rfl (rfl) (by omega) (by decide) (fh_d d_Mo_setSqrt 40 rfl) ?_
    refine lv_iadd hx hb (fh_d d_Mo_setSqrt 41 rfl) ?_
    refine lv_iload hx hb (fh_d d_Mo_setSqrt 42 rfl) (lv_at hl 1 rfl) ?_
    refine lv_iadd hx hb (fh_d d_Mo_setSqrt 43 rfl) ?_
    refine lv_iload_n hx hb (fh_d d_Mo_setSqrt 44 rfl) rfl (lv_at hl 2 rfl) ?_
    refine lv_iadd hx hb (fh_d d_Mo_setSqrt 45 rfl) ?_
    refine lv_iload_n hx hb (fh_d d_Mo_setSqrt 46 rfl) rfl (lv_at hl 3 rfl) ?_
    have hT9 : ((((A 26) u) + ((A 27) u)) + ((yT s0) + (yS s0))) + (yT s0) = nI kT := by rw [if_pos hs] at hTl; exact hTl
    rw [hT9]
    refine fh_callS (cc' := c_Mo_tallFor) (nL' := 3) (rest := [.int (nI n0), .ref (x + 35)]) (av := [.int (nI kT), .int (yS s0)]) X hR (m_Mo_tallFor l D ct b RO (r - 1) n s0 hs0 kT hkT (mkM ct x g A th co at_ wr no nu op pi wi he de)) w1181 w1179 w1180 w9 ⟨by decide, by decide, by show _ = some 2; decide +kernel⟩ (by omega) (by decide) hP hS hl.1 rfl (by exact Nat.le_of_ble_eq_true rfl) (fh_d d_Mo_setSqrt 47 rfl) ⟨Nat.le_refl _, Nat.le_refl _⟩ (fun v9 h9 n9 H locs hq hP hS => ?_)
    obtain ⟨rfl, q4a, q4b⟩ := hq
    rw [q4a, q4b] at hP
    refine W.eq (g2 := F0 m 77 ls [.int (yTa s0 (nI kT)), .int (nI n0), .ref (x + 35)]) rfl ?_
    rw [← hT9]
    refine W.eq (g2 := F0 m 77 ls [.int (yTa s0 (((((A 26) u) + ((A 27) u)) + ((yT s0) + (yS s0))) + (yT s0))), .int (nI n0), .ref (x + 35)]) rfl ?_
    refine fn_iast (f := A 34) (k := n0) hx hb hK hP hS 0 mkM_a34 rfl (rfl) (by omega) (by decide) (fh_d d_Mo_setSqrt 48 rfl) (fun H locs hP hS => ?_)
    replace hP := fh_P.eq (h' := mkM ct x g (up2 A 34 (upd (A 34) n0 (yTa s0 (((((A 26) u) + ((A 27) u)) + ((yT s0) + (yS s0))) + (yT s0))))) th co at_ wr no nu op pi wi he de) hP mkM_u34
    refine lv_aload_n hx hb (fh_d d_Mo_setSqrt 49 rfl) rfl (lv_at hl 4 rfl) ?_
    refine fh_get (own := "FormulaSetterModel") (ref := "FormulaSetterModel") (C := "FormulaSetterModel") (T := T_Mo) (N := 53) (v := .ref (x + 24)) hx hb hT i_Mo hown hK hP mkM_o rfl 30 (by decide) (hT _ w890) (fun _ h9 => h9) rfl (fh_d d_Mo_setSqrt 50 rfl) ?_
    refine lv_iload_n hx hb (fh_d d_Mo_setSqrt 51 rfl) rfl (lv_at hl 5 rfl) ?_
    refine lv_aload_n hx hb (fh_d d_Mo_setSqrt 52 rfl) rfl (lv_at hl 4 rfl) ?_
    refine fh_get (own := "FormulaSetterModel") (ref := "FormulaSetterModel") (C := "FormulaSetterModel") (T := T_Mo) (N := 53) (v := .ref (x + 27)) hx hb hT i_Mo hown hK hP mkM_o rfl 33 (by decide) (hT _ w893) (fun _ h9 => h9) rfl (fh_d d_Mo_setSqrt 53 rfl) ?_
    refine lv_iload hx hb (fh_d d_Mo_setSqrt 54 rfl) (lv_at hl 0 rfl) ?_
    refine fn_iald (f := A 26) (k := u) hx hb hK hP 0 mkM_a26 rfl (rfl) (by omega) (by decide) (fh_d d_Mo_setSqrt 55 rfl) ?_
    refine lv_iload hx hb (fh_d d_Mo_setSqrt 56 rfl) (lv_at hl 1 rfl) ?_
    refine lv_iadd hx hb (fh_d d_Mo_setSqrt 57 rfl) ?_
    refine lv_iload_n hx hb (fh_d d_Mo_setSqrt 58 rfl) rfl (lv_at hl 2 rfl) ?_
    refine lv_iadd hx hb (fh_d d_Mo_setSqrt 59 rfl) ?_
    refine fn_iast (f := A 23) (k := n0) hx hb hK hP hS 0 mkM_a23 rfl (rfl) (by omega) (by decide) (fh_d d_Mo_setSqrt 60 rfl) (fun H locs hP hS => ?_)
    replace hP := fh_P.eq (h' := mkM ct x g (up2 (up2 A 34 (upd (A 34) n0 (yTa s0 (((((A 26) u) + ((A 27) u)) + ((yT s0) + (yS s0))) + (yT s0))))) 23 (upd (A 23) n0 ((((A 26) u) + ((yT s0) + (yS s0))) + (yT s0)))) th co at_ wr no nu op pi wi he de) hP mkM_u23
    refine lv_aload_n hx hb (fh_d d_Mo_setSqrt 61 rfl) rfl (lv_at hl 4 rfl) ?_
    refine fh_get (own := "FormulaSetterModel") (ref := "FormulaSetterModel") (C := "FormulaSetterModel") (T := T_Mo) (N := 53) (v := .ref (x + 36)) hx hb hT i_Mo hown hK hP mkM_o rfl 42 (by decide) (hT _ w902) (fun _ h9 => h9) rfl (fh_d d_Mo_setSqrt 62 rfl) ?_
    refine lv_iload_n hx hb (fh_d d_Mo_setSqrt 63 rfl) rfl (lv_at hl 5 rfl) ?_
    refine lv_aload_n hx hb (fh_d d_Mo_setSqrt 64 rfl) rfl (lv_at hl 4 rfl) ?_
    refine fh_get (own := "FormulaSetterModel") (ref := "FormulaSetterModel") (C := "FormulaSetterModel") (T := T_Mo) (N := 53) (v := .ref (x + 24)) hx hb hT i_Mo hown hK hP mkM_o rfl 30 (by decide) (hT _ w890) (fun _ h9 => h9) rfl (fh_d d_Mo_setSqrt 65 rfl) ?_
    refine lv_iload_n hx hb (fh_d d_Mo_setSqrt 66 rfl) rfl (lv_at hl 5 rfl) ?_
    refine fn_iald (f := upd (A 23) n0 ((((A 26) u) + ((yT s0) + (yS s0))) + (yT s0))) (k := n0) hx hb hK hP 0 mkM_a23 rfl (rfl) (by omega) (by decide) (fh_d d_Mo_setSqrt 67 rfl) ?_
    rw [show ((upd (A 23) n0 ((((A 26) u) + ((yT s0) + (yS s0))) + (yT s0))) n0) = ((((A 26) u) + ((yT s0) + (yS s0))) + (yT s0)) from upd_s]
    refine lv_aload_n hx hb (fh_d d_Mo_setSqrt 68 rfl) rfl (lv_at hl 4 rfl) ?_
    refine fh_get (own := "FormulaSetterModel") (ref := "FormulaSetterModel") (C := "FormulaSetterModel") (T := T_Mo) (N := 53) (v := .ref (x + 35)) hx hb hT i_Mo hown hK hP mkM_o rfl 41 (by decide) (hT _ w901) (fun _ h9 => h9) rfl (fh_d d_Mo_setSqrt 69 rfl) ?_
    refine lv_iload_n hx hb (fh_d d_Mo_setSqrt 70 rfl) rfl (lv_at hl 5 rfl) ?_
    refine fn_iald (f := upd (A 34) n0 (yTa s0 (((((A 26) u) + ((A 27) u)) + ((yT s0) + (yS s0))) + (yT s0)))) (k := n0) hx hb hK hP 0 mkM_a34 rfl (rfl) (by omega) (by decide) (fh_d d_Mo_setSqrt 71 rfl) ?_
    rw [show ((upd (A 34) n0 (yTa s0 (((((A 26) u) + ((A 27) u)) + ((yT s0) + (yS s0))) + (yT s0)))) n0) = (yTa s0 (((((A 26) u) + ((A 27) u)) + ((yT s0) + (yS s0))) + (yT s0))) from upd_s]
    refine lv_isub hx hb (fh_d d_Mo_setSqrt 72 rfl) ?_
    refine fn_iast (f := A 35) (k := n0) hx hb hK hP hS 0 mkM_a35 rfl (rfl) (by omega) (by decide) (fh_d d_Mo_setSqrt 73 rfl) (fun H locs hP hS => ?_)
    replace hP := fh_P.eq (h' := mkM ct x g (up2 (up2 (up2 A 34 (upd (A 34) n0 (yTa s0 (((((A 26) u) + ((A 27) u)) + ((yT s0) + (yS s0))) + (yT s0))))) 23 (upd (A 23) n0 ((((A 26) u) + ((yT s0) + (yS s0))) + (yT s0)))) 35 (upd (A 35) n0 (((((A 26) u) + ((yT s0) + (yS s0))) + (yT s0)) - (yTa s0 (((((A 26) u) + ((A 27) u)) + ((yT s0) + (yS s0))) + (yT s0)))))) th co at_ wr no nu op pi wi he de) hP mkM_u35
    refine lv_aload_n hx hb (fh_d d_Mo_setSqrt 74 rfl) rfl (lv_at hl 4 rfl) ?_
    refine fh_get (own := "FormulaSetterModel") (ref := "FormulaSetterModel") (C := "FormulaSetterModel") (T := T_Mo) (N := 53) (v := .ref (x + 25)) hx hb hT i_Mo hown hK hP mkM_o rfl 31 (by decide) (hT _ w891) (fun _ h9 => h9) rfl (fh_d d_Mo_setSqrt 75 rfl) ?_
    refine lv_iload_n hx hb (fh_d d_Mo_setSqrt 76 rfl) rfl (lv_at hl 5 rfl) ?_
    refine lv_aload_n hx hb (fh_d d_Mo_setSqrt 77 rfl) rfl (lv_at hl 4 rfl) ?_
    refine fh_get (own := "FormulaSetterModel") (ref := "FormulaSetterModel") (C := "FormulaSetterModel") (T := T_Mo) (N := 53) (v := .ref (x + 28)) hx hb hT i_Mo hown hK hP mkM_o rfl 34 (by decide) (hT _ w894) (fun _ h9 => h9) rfl (fh_d d_Mo_setSqrt 78 rfl) ?_
    refine lv_iload hx hb (fh_d d_Mo_setSqrt 79 rfl) (lv_at hl 0 rfl) ?_
    refine fn_iald (f := A 27) (k := u) hx hb hK hP 0 mkM_a27 rfl (rfl) (by omega) (by decide) (fh_d d_Mo_setSqrt 80 rfl) ?_
    refine lv_aload_n hx hb (fh_d d_Mo_setSqrt 81 rfl) rfl (lv_at hl 4 rfl) ?_
    refine fh_get (own := "FormulaSetterModel") (ref := "FormulaSetterModel") (C := "FormulaSetterModel") (T := T_Mo) (N := 53) (v := .ref (x + 36)) hx hb hT i_Mo hown hK hP mkM_o rfl 42 (by decide) (hT _ w902) (fun _ h9 => h9) rfl (fh_d d_Mo_setSqrt 82 rfl) ?_
    refine lv_iload_n hx hb (fh_d d_Mo_setSqrt 83 rfl) rfl (lv_at hl 5 rfl) ?_
    refine fn_iald (f := upd (A 35) n0 (((((A 26) u) + ((yT s0) + (yS s0))) + (yT s0)) - (yTa s0 (((((A 26) u) + ((A 27) u)) + ((yT s0) + (yS s0))) + (yT s0))))) (k := n0) hx hb hK hP 0 mkM_a35 rfl (rfl) (by omega) (by decide) (fh_d d_Mo_setSqrt 84 rfl) ?_
    rw [show ((upd (A 35) n0 (((((A 26) u) + ((yT s0) + (yS s0))) + (yT s0)) - (yTa s0 (((((A 26) u) + ((A 27) u)) + ((yT s0) + (yS s0))) + (yT s0))))) n0) = (((((A 26) u) + ((yT s0) + (yS s0))) + (yT s0)) - (yTa s0 (((((A 26) u) + ((A 27) u)) + ((yT s0) + (yS s0))) + (yT s0)))) from upd_s]
    refine lv_ineg hx hb (fh_d d_Mo_setSqrt 85 rfl) ?_
    refine fh_callS (cc' := c_Mo_most) (nL' := 2) (rest := [.int (nI n0), .ref (x + 25)]) (av := [.int ((A 27) u), .int (-(((((A 26) u) + ((yT s0) + (yS s0))) + (yT s0)) - (yTa s0 (((((A 26) u) + ((A 27) u)) + ((yT s0) + (yS s0))) + (yT s0)))))]) X hR (m_Mo_most l D ct b RO (r - 1) n ((A 27) u) (-(((((A 26) u) + ((yT s0) + (yS s0))) + (yT s0)) - (yTa s0 (((((A 26) u) + ((A 27) u)) + ((yT s0) + (yS s0))) + (yT s0))))) (mkM ct x g (up2 (up2 (up2 A 34 (upd (A 34) n0 (yTa s0 (((((A 26) u) + ((A 27) u)) + ((yT s0) + (yS s0))) + (yT s0))))) 23 (upd (A 23) n0 ((((A 26) u) + ((yT s0) + (yS s0))) + (yT s0)))) 35 (upd (A 35) n0 (((((A 26) u) + ((yT s0) + (yS s0))) + (yT s0)) - (yTa s0 (((((A 26) u) + ((A 27) u)) + ((yT s0) + (yS s0))) + (yT s0)))))) th co at_ wr no nu op pi wi he de)) w1151 w1149 w1150 w9 ⟨by decide, by decide, by show _ = some 2; decide +kernel⟩ (by omega) (by decide) hP hS hl.1 rfl (by exact Nat.le_of_ble_eq_true rfl) (fh_d d_Mo_setSqrt 86 rfl) ⟨Nat.le_refl _, Nat.le_refl _⟩ (fun v9 h9 n9 H locs hq hP hS => ?_)
    obtain ⟨rfl, q5a, q5b⟩ := hq
    rw [q5a, q5b] at hP
    refine W.eq (g2 := F0 m 137 ls [.int (ms ((A 27) u) (-(((((A 26) u) + ((yT s0) + (yS s0))) + (yT s0)) - (yTa s0 (((((A 26) u) + ((A 27) u)) + ((yT s0) + (yS s0))) + (yT s0)))))), .int (nI n0), .ref (x + 25)]) rfl ?_
    refine fn_iast (f := A 24) (k := n0) hx hb hK hP hS 0 mkM_a24 rfl (rfl) (by omega) (by decide) (fh_d d_Mo_setSqrt 87 rfl) (fun H locs hP hS => ?_)
    replace hP := fh_P.eq (h' := mkM ct x g (up2 (up2 (up2 (up2 A 34 (upd (A 34) n0 (yTa s0 (((((A 26) u) + ((A 27) u)) + ((yT s0) + (yS s0))) + (yT s0))))) 23 (upd (A 23) n0 ((((A 26) u) + ((yT s0) + (yS s0))) + (yT s0)))) 35 (upd (A 35) n0 (((((A 26) u) + ((yT s0) + (yS s0))) + (yT s0)) - (yTa s0 (((((A 26) u) + ((A 27) u)) + ((yT s0) + (yS s0))) + (yT s0)))))) 24 (upd (A 24) n0 (ms ((A 27) u) (-(((((A 26) u) + ((yT s0) + (yS s0))) + (yT s0)) - (yTa s0 (((((A 26) u) + ((A 27) u)) + ((yT s0) + (yS s0))) + (yT s0)))))))) th co at_ wr no nu op pi wi he de) hP mkM_u24
    refine lv_aload_n hx hb (fh_d d_Mo_setSqrt 88 rfl) rfl (lv_at hl 4 rfl) ?_
    refine fh_get (own := "FormulaSetterModel") (ref := "FormulaSetterModel") (C := "FormulaSetterModel") (T := T_Mo) (N := 53) (v := .ref (x + 23)) hx hb hT i_Mo hown hK hP mkM_o rfl 29 (by decide) (hT _ w889) (fun _ h9 => h9) rfl (fh_d d_Mo_setSqrt 89 rfl) ?_
    refine lv_iload_n hx hb (fh_d d_Mo_setSqrt 90 rfl) rfl (lv_at hl 5 rfl) ?_
    refine lv_iconst (v := 5) hx hb (fh_d d_Mo_setSqrt 91 rfl) (by decide) ?_
    refine lv_iload_n hx hb (fh_d d_Mo_setSqrt 92 rfl) rfl (lv_at hl 3 rfl) ?_
    refine lv_imul hx hb (fh_d d_Mo_setSqrt 93 rfl) ?_
    refine lv_aload_n hx hb (fh_d d_Mo_setSqrt 94 rfl) rfl (lv_at hl 4 rfl) ?_
    refine fh_get (own := "FormulaSetterModel") (ref := "FormulaSetterModel") (C := "FormulaSetterModel") (T := T_Mo) (N := 53) (v := .ref (x + 26)) hx hb hT i_Mo hown hK hP mkM_o rfl 32 (by decide) (hT _ w892) (fun _ h9 => h9) rfl (fh_d d_Mo_setSqrt 95 rfl) ?_
    refine lv_iload hx hb (fh_d d_Mo_setSqrt 96 rfl) (lv_at hl 0 rfl) ?_
    refine fn_iald (f := A 25) (k := u) hx hb hK hP 0 mkM_a25 rfl (rfl) (by omega) (by decide) (fh_d d_Mo_setSqrt 97 rfl) ?_
    refine lv_iadd hx hb (fh_d d_Mo_setSqrt 98 rfl) ?_
    refine fn_iast (f := A 22) (k := n0) hx hb hK hP hS 0 mkM_a22 rfl (rfl) (by omega) (by decide) (fh_d d_Mo_setSqrt 99 rfl) (fun H locs hP hS => ?_)
    replace hP := fh_P.eq (h' := mkM ct x g (up2 (up2 (up2 (up2 (up2 A 34 (upd (A 34) n0 (yTa s0 (((((A 26) u) + ((A 27) u)) + ((yT s0) + (yS s0))) + (yT s0))))) 23 (upd (A 23) n0 ((((A 26) u) + ((yT s0) + (yS s0))) + (yT s0)))) 35 (upd (A 35) n0 (((((A 26) u) + ((yT s0) + (yS s0))) + (yT s0)) - (yTa s0 (((((A 26) u) + ((A 27) u)) + ((yT s0) + (yS s0))) + (yT s0)))))) 24 (upd (A 24) n0 (ms ((A 27) u) (-(((((A 26) u) + ((yT s0) + (yS s0))) + (yT s0)) - (yTa s0 (((((A 26) u) + ((A 27) u)) + ((yT s0) + (yS s0))) + (yT s0)))))))) 22 (upd (A 22) n0 ((5 * (yS s0)) + ((A 25) u)))) th co at_ wr no nu op pi wi he de) hP mkM_u22
    refine lv_aload_n hx hb (fh_d d_Mo_setSqrt 100 rfl) rfl (lv_at hl 4 rfl) ?_
    refine fh_get (own := "FormulaSetterModel") (ref := "FormulaSetterModel") (C := "FormulaSetterModel") (T := T_Mo) (N := 53) (v := .ref (x + 30)) hx hb hT i_Mo hown hK hP mkM_o rfl 36 (by decide) (hT _ w896) (fun _ h9 => h9) rfl (fh_d d_Mo_setSqrt 101 rfl) ?_
    refine lv_iload hx hb (fh_d d_Mo_setSqrt 102 rfl) (lv_at hl 0 rfl) ?_
    refine lv_iconst (v := 5) hx hb (fh_d d_Mo_setSqrt 103 rfl) (by decide) ?_
    refine lv_iload_n hx hb (fh_d d_Mo_setSqrt 104 rfl) rfl (lv_at hl 3 rfl) ?_
    refine lv_imul hx hb (fh_d d_Mo_setSqrt 105 rfl) ?_
    refine fn_iast (f := A 29) (k := u) hx hb hK hP hS 0 mkM_a29 rfl (rfl) (by omega) (by decide) (fh_d d_Mo_setSqrt 106 rfl) (fun H locs hP hS => ?_)
    replace hP := fh_P.eq (h' := mkM ct x g (up2 (up2 (up2 (up2 (up2 (up2 A 34 (upd (A 34) n0 (yTa s0 (((((A 26) u) + ((A 27) u)) + ((yT s0) + (yS s0))) + (yT s0))))) 23 (upd (A 23) n0 ((((A 26) u) + ((yT s0) + (yS s0))) + (yT s0)))) 35 (upd (A 35) n0 (((((A 26) u) + ((yT s0) + (yS s0))) + (yT s0)) - (yTa s0 (((((A 26) u) + ((A 27) u)) + ((yT s0) + (yS s0))) + (yT s0)))))) 24 (upd (A 24) n0 (ms ((A 27) u) (-(((((A 26) u) + ((yT s0) + (yS s0))) + (yT s0)) - (yTa s0 (((((A 26) u) + ((A 27) u)) + ((yT s0) + (yS s0))) + (yT s0)))))))) 22 (upd (A 22) n0 ((5 * (yS s0)) + ((A 25) u)))) 29 (upd (A 29) u (5 * (yS s0)))) th co at_ wr no nu op pi wi he de) hP mkM_u29
    refine lv_aload_n hx hb (fh_d d_Mo_setSqrt 107 rfl) rfl (lv_at hl 4 rfl) ?_
    refine fh_get (own := "FormulaSetterModel") (ref := "FormulaSetterModel") (C := "FormulaSetterModel") (T := T_Mo) (N := 53) (v := .ref (x + 31)) hx hb hT i_Mo hown hK hP mkM_o rfl 37 (by decide) (hT _ w897) (fun _ h9 => h9) rfl (fh_d d_Mo_setSqrt 108 rfl) ?_
    refine lv_iload hx hb (fh_d d_Mo_setSqrt 109 rfl) (lv_at hl 0 rfl) ?_
    refine lv_iconst (v := 0) hx hb (fh_d d_Mo_setSqrt 110 rfl) (by decide) ?_
    refine fn_iast (f := A 30) (k := u) hx hb hK hP hS 0 mkM_a30 rfl (rfl) (by omega) (by decide) (fh_d d_Mo_setSqrt 111 rfl) (fun H locs hP hS => ?_)
    replace hP := fh_P.eq (h' := mkM ct x g (up2 (up2 (up2 (up2 (up2 (up2 (up2 A 34 (upd (A 34) n0 (yTa s0 (((((A 26) u) + ((A 27) u)) + ((yT s0) + (yS s0))) + (yT s0))))) 23 (upd (A 23) n0 ((((A 26) u) + ((yT s0) + (yS s0))) + (yT s0)))) 35 (upd (A 35) n0 (((((A 26) u) + ((yT s0) + (yS s0))) + (yT s0)) - (yTa s0 (((((A 26) u) + ((A 27) u)) + ((yT s0) + (yS s0))) + (yT s0)))))) 24 (upd (A 24) n0 (ms ((A 27) u) (-(((((A 26) u) + ((yT s0) + (yS s0))) + (yT s0)) - (yTa s0 (((((A 26) u) + ((A 27) u)) + ((yT s0) + (yS s0))) + (yT s0)))))))) 22 (upd (A 22) n0 ((5 * (yS s0)) + ((A 25) u)))) 29 (upd (A 29) u (5 * (yS s0)))) 30 (upd (A 30) u 0)) th co at_ wr no nu op pi wi he de) hP mkM_u30
    exact fh_vret X hP hS (fh_d d_Mo_setSqrt 112 rfl) ⟨rfl, by unfold rf_sq; rw [if_pos hs]; (try rfl), rfl⟩
  · skip
    refine lv_aload_n hx hb (fh_d d_Mo_setSqrt 0 rfl) rfl (lv_at hl 0 rfl) ?_
    refine fh_get (own := "FormulaSetterModel") (ref := "FormulaSetterModel") (C := "FormulaSetterModel") (T := T_Mo) (N := 53) (v := .ref (x + 21)) hx hb hT i_Mo hown hK hP mkM_o rfl 27 (by decide) (hT _ w887) (fun _ h9 => h9) rfl (fh_d d_Mo_setSqrt 1 rfl) ?_
    refine lv_iload_n hx hb (fh_d d_Mo_setSqrt 2 rfl) rfl (lv_at hl 1 rfl) ?_
    refine fn_iald (f := A 20) (k := n0) hx hb hK hP 0 mkM_a20 rfl (rfl) (by omega) (by decide) (fh_d d_Mo_setSqrt 3 rfl) ?_
    rw [show ((A 20) n0) = nI s0 from h20]
    refine fh_callS (cc' := c_Mo_zOf) (nL' := 1) (rest := []) (av := [.int (nI s0)]) X hR (m_Mo_zO l D ct b RO hR (r - 1) (by omega) n s0 hs0 (mkM ct x g A th co at_ wr no nu op pi wi he de)) w1139 w1137 w1138 w9 ⟨by decide, by decide, by show _ = some 1; decide +kernel⟩ (by omega) (by decide) hP hS hl.1 rfl (by exact Nat.le_of_ble_eq_true rfl) (fh_d d_Mo_setSqrt 4 rfl) ⟨Nat.le_refl _, Nat.le_refl _⟩ (fun v9 h9 n9 H locs hq hP hS => ?_)
    obtain ⟨rfl, q6a, q6b⟩ := hq
    rw [q6a, q6b] at hP
    refine W.eq (g2 := F0 m 9 ls [.int (yS s0)]) rfl ?_
    refine lv_istore_n (lv' := [(2, .int (yS s0)), (0, .ref x), (1, .int (nI n0))]) hx hb (fh_d d_Mo_setSqrt 5 rfl) rfl hl (by decide) rfl (fun ls hl => ?_)
    refine lv_aload_n hx hb (fh_d d_Mo_setSqrt 6 rfl) rfl (lv_at hl 1 rfl) ?_
    refine fh_get (own := "FormulaSetterModel") (ref := "FormulaSetterModel") (C := "FormulaSetterModel") (T := T_Mo) (N := 53) (v := .ref (x + 21)) hx hb hT i_Mo hown hK hP mkM_o rfl 27 (by decide) (hT _ w887) (fun _ h9 => h9) rfl (fh_d d_Mo_setSqrt 7 rfl) ?_
    refine lv_iload_n hx hb (fh_d d_Mo_setSqrt 8 rfl) rfl (lv_at hl 2 rfl) ?_
    refine fn_iald (f := A 20) (k := n0) hx hb hK hP 0 mkM_a20 rfl (rfl) (by omega) (by decide) (fh_d d_Mo_setSqrt 9 rfl) ?_
    rw [show ((A 20) n0) = nI s0 from h20]
    refine fh_callS (cc' := c_Mo_tOf) (nL' := 1) (rest := []) (av := [.int (nI s0)]) X hR (m_Mo_tO l D ct b RO hR (r - 1) (by omega) n s0 hs0 (mkM ct x g A th co at_ wr no nu op pi wi he de)) w1174 w1172 w1173 w9 ⟨by decide, by decide, by show _ = some 1; decide +kernel⟩ (by omega) (by decide) hP hS hl.1 rfl (by exact Nat.le_of_ble_eq_true rfl) (fh_d d_Mo_setSqrt 10 rfl) ⟨Nat.le_refl _, Nat.le_refl _⟩ (fun v9 h9 n9 H locs hq hP hS => ?_)
    obtain ⟨rfl, q7a, q7b⟩ := hq
    rw [q7a, q7b] at hP
    refine W.eq (g2 := F0 m 19 ls [.int (yT s0)]) rfl ?_
    refine lv_istore_n (lv' := [(3, .int (yT s0)), (2, .int (yS s0)), (0, .ref x), (1, .int (nI n0))]) hx hb (fh_d d_Mo_setSqrt 11 rfl) rfl hl (by decide) rfl (fun ls hl => ?_)
    refine lv_aload_n hx hb (fh_d d_Mo_setSqrt 12 rfl) rfl (lv_at hl 2 rfl) ?_
    refine fh_get (own := "FormulaSetterModel") (ref := "FormulaSetterModel") (C := "FormulaSetterModel") (T := T_Mo) (N := 53) (v := .ref (x + 21)) hx hb hT i_Mo hown hK hP mkM_o rfl 27 (by decide) (hT _ w887) (fun _ h9 => h9) rfl (fh_d d_Mo_setSqrt 13 rfl) ?_
    refine lv_iload_n hx hb (fh_d d_Mo_setSqrt 14 rfl) rfl (lv_at hl 3 rfl) ?_
    refine fn_iald (f := A 20) (k := n0) hx hb hK hP 0 mkM_a20 rfl (rfl) (by omega) (by decide) (fh_d d_Mo_setSqrt 15 rfl) ?_
    rw [show ((A 20) n0) = nI s0 from h20]
    refine lv_if_ne (tgt := 35) hx hb (fh_d d_Mo_setSqrt 16 rfl) rfl (fun c8 => ?_) (fun c8 => absurd c8 (fun z => hs (nI_z hs0 z)))
    refine lv_iconst (v := 2) hx hb (fh_d d_Mo_setSqrt 21 rfl) (by decide) ?_
    refine lv_iload_n hx hb (fh_d d_Mo_setSqrt 22 rfl) rfl (lv_at hl 0 rfl) ?_
    refine lv_imul hx hb (fh_d d_Mo_setSqrt 23 rfl) ?_
    refine lv_istore (lv' := [(4, .int (2 * (yT s0))), (3, .int (yT s0)), (2, .int (yS s0)), (0, .ref x), (1, .int (nI n0))]) hx hb (fh_d d_Mo_setSqrt 24 rfl) hl (by decide) rfl (fun ls hl => ?_)
    refine lv_aload_n hx hb (fh_d d_Mo_setSqrt 25 rfl) rfl (lv_at hl 3 rfl) ?_
    refine fh_get (own := "FormulaSetterModel") (ref := "FormulaSetterModel") (C := "FormulaSetterModel") (T := T_Mo) (N := 53) (v := .ref (x + 11)) hx hb hT i_Mo hown hK hP mkM_o rfl 16 (by decide) (hT _ w876) (fun _ h9 => h9) rfl (fh_d d_Mo_setSqrt 26 rfl) ?_
    refine lv_iload_n hx hb (fh_d d_Mo_setSqrt 27 rfl) rfl (lv_at hl 4 rfl) ?_
    refine fn_iald (f := A 10) (k := n0) hx hb hK hP 0 mkM_a10 rfl (rfl) (by omega) (by decide) (fh_d d_Mo_setSqrt 28 rfl) ?_
    rw [show ((A 10) n0) = nI u from h10]
    refine lv_istore (lv' := [(5, .int (nI u)), (4, .int (2 * (yT s0))), (3, .int (yT s0)), (2, .int (yS s0)), (0, .ref x), (1, .int (nI n0))]) hx hb (fh_d d_Mo_setSqrt 29 rfl) hl (by decide) rfl (fun ls hl => ?_)
    refine lv_aload_n hx hb (fh_d d_Mo_setSqrt 30 rfl) rfl (lv_at hl 4 rfl) ?_
    refine fh_get (own := "FormulaSetterModel") (ref := "FormulaSetterModel") (C := "FormulaSetterModel") (T := T_Mo) (N := 53) (v := .ref (x + 35)) hx hb hT i_Mo hown hK hP mkM_o rfl 41 (by decide) (hT _ w901) (fun _ h9 => h9) rfl (fh_d d_Mo_setSqrt 31 rfl) ?_
    refine lv_iload_n hx hb (fh_d d_Mo_setSqrt 32 rfl) rfl (lv_at hl 5 rfl) ?_
    refine lv_aload_n hx hb (fh_d d_Mo_setSqrt 33 rfl) rfl (lv_at hl 4 rfl) ?_
    refine fh_get (own := "FormulaSetterModel") (ref := "FormulaSetterModel") (C := "FormulaSetterModel") (T := T_Mo) (N := 53) (v := .ref (x + 27)) hx hb hT i_Mo hown hK hP mkM_o rfl 33 (by decide) (hT _ w893) (fun _ h9 => h9) rfl (fh_d d_Mo_setSqrt 34 rfl) ?_
    refine lv_iload hx hb (fh_d d_Mo_setSqrt 35 rfl) (lv_at hl 0 rfl) ?_
    refine fn_iald (f := A 26) (k := u) hx hb hK hP 0 mkM_a26 rfl (rfl) (by omega) (by decide) (fh_d d_Mo_setSqrt 36 rfl) ?_
    refine lv_aload_n hx hb (fh_d d_Mo_setSqrt 37 rfl) rfl (lv_at hl 4 rfl) ?_
    refine fh_get (own := "FormulaSetterModel") (ref := "FormulaSetterModel") (C := "FormulaSetterModel") (T := T_Mo) (N := 53) (v := .ref (x + 28)) hx hb hT i_Mo hown hK hP mkM_o rfl 34 (by decide) (hT _ w894) (fun _ h9 => h9) rfl (fh_d d_Mo_setSqrt 38 rfl) ?_
    refine lv_iload hx hb (fh_d d_Mo_setSqrt 39 rfl) (lv_at hl 0 rfl) ?_
    refine fn_iald (f := A 27) (k := u) hx hb hK hP 0 mkM_a27 rfl (rfl) (by omega) (by decide) (fh_d d_Mo_setSqrt 40 rfl) ?_
    refine lv_iadd hx hb (fh_d d_Mo_setSqrt 41 rfl) ?_
    refine lv_iload hx hb (fh_d d_Mo_setSqrt 42 rfl) (lv_at hl 1 rfl) ?_
    refine lv_iadd hx hb (fh_d d_Mo_setSqrt 43 rfl) ?_
    refine lv_iload_n hx hb (fh_d d_Mo_setSqrt 44 rfl) rfl (lv_at hl 2 rfl) ?_
    refine lv_iadd hx hb (fh_d d_Mo_setSqrt 45 rfl) ?_
    refine lv_iload_n hx hb (fh_d d_Mo_setSqrt 46 rfl) rfl (lv_at hl 3 rfl) ?_
    have hT9 : ((((A 26) u) + ((A 27) u)) + (2 * (yT s0))) + (yT s0) = nI kT := by rw [if_neg hs] at hTl; exact hTl
    rw [hT9]
    refine fh_callS (cc' := c_Mo_tallFor) (nL' := 3) (rest := [.int (nI n0), .ref (x + 35)]) (av := [.int (nI kT), .int (yS s0)]) X hR (m_Mo_tallFor l D ct b RO (r - 1) n s0 hs0 kT hkT (mkM ct x g A th co at_ wr no nu op pi wi he de)) w1181 w1179 w1180 w9 ⟨by decide, by decide, by show _ = some 2; decide +kernel⟩ (by omega) (by decide) hP hS hl.1 rfl (by exact Nat.le_of_ble_eq_true rfl) (fh_d d_Mo_setSqrt 47 rfl) ⟨Nat.le_refl _, Nat.le_refl _⟩ (fun v9 h9 n9 H locs hq hP hS => ?_)
    obtain ⟨rfl, q9a, q9b⟩ := hq
    rw [q9a, q9b] at hP
    refine W.eq (g2 := F0 m 77 ls [.int (yTa s0 (nI kT)), .int (nI n0), .ref (x + 35)]) rfl ?_
    rw [← hT9]
    refine W.eq (g2 := F0 m 77 ls [.int (yTa s0 (((((A 26) u) + ((A 27) u)) + (2 * (yT s0))) + (yT s0))), .int (nI n0), .ref (x + 35)]) rfl ?_
    refine fn_iast (f := A 34) (k := n0) hx hb hK hP hS 0 mkM_a34 rfl (rfl) (by omega) (by decide) (fh_d d_Mo_setSqrt 48 rfl) (fun H locs hP hS => ?_)
    replace hP := fh_P.eq (h' := mkM ct x g (up2 A 34 (upd (A 34) n0 (yTa s0 (((((A 26) u) + ((A 27) u)) + (2 * (yT s0))) + (yT s0))))) th co at_ wr no nu op pi wi he de) hP mkM_u34
    refine lv_aload_n hx hb (fh_d d_Mo_setSqrt 49 rfl) rfl (lv_at hl 4 rfl) ?_
    refine fh_get (own := "FormulaSetterModel") (ref := "FormulaSetterModel") (C := "FormulaSetterModel") (T := T_Mo) (N := 53) (v := .ref (x + 24)) hx hb hT i_Mo hown hK hP mkM_o rfl 30 (by decide) (hT _ w890) (fun _ h9 => h9) rfl (fh_d d_Mo_setSqrt 50 rfl) ?_
    refine lv_iload_n hx hb (fh_d d_Mo_setSqrt 51 rfl) rfl (lv_at hl 5 rfl) ?_
    refine lv_aload_n hx hb (fh_d d_Mo_setSqrt 52 rfl) rfl (lv_at hl 4 rfl) ?_
    refine fh_get (own := "FormulaSetterModel") (ref := "FormulaSetterModel") (C := "FormulaSetterModel") (T := T_Mo) (N := 53) (v := .ref (x + 27)) hx hb hT i_Mo hown hK hP mkM_o rfl 33 (by decide) (hT _ w893) (fun _ h9 => h9) rfl (fh_d d_Mo_setSqrt 53 rfl) ?_
    refine lv_iload hx hb (fh_d d_Mo_setSqrt 54 rfl) (lv_at hl 0 rfl) ?_
    refine fn_iald (f := A 26) (k := u) hx hb hK hP 0 mkM_a26 rfl (rfl) (by omega) (by decide) (fh_d d_Mo_setSqrt 55 rfl) ?_
    refine lv_iload hx hb (fh_d d_Mo_setSqrt 56 rfl) (lv_at hl 1 rfl) ?_
    refine lv_iadd hx hb (fh_d d_Mo_setSqrt 57 rfl) ?_
    refine lv_iload_n hx hb (fh_d d_Mo_setSqrt 58 rfl) rfl (lv_at hl 2 rfl) ?_
    refine lv_iadd hx hb (fh_d d_Mo_setSqrt 59 rfl) ?_
    refine fn_iast (f := A 23) (k := n0) hx hb hK hP hS 0 mkM_a23 rfl (rfl) (by omega) (by decide) (fh_d d_Mo_setSqrt 60 rfl) (fun H locs hP hS => ?_)
    replace hP := fh_P.eq (h' := mkM ct x g (up2 (up2 A 34 (upd (A 34) n0 (yTa s0 (((((A 26) u) + ((A 27) u)) + (2 * (yT s0))) + (yT s0))))) 23 (upd (A 23) n0 ((((A 26) u) + (2 * (yT s0))) + (yT s0)))) th co at_ wr no nu op pi wi he de) hP mkM_u23
    refine lv_aload_n hx hb (fh_d d_Mo_setSqrt 61 rfl) rfl (lv_at hl 4 rfl) ?_
    refine fh_get (own := "FormulaSetterModel") (ref := "FormulaSetterModel") (C := "FormulaSetterModel") (T := T_Mo) (N := 53) (v := .ref (x + 36)) hx hb hT i_Mo hown hK hP mkM_o rfl 42 (by decide) (hT _ w902) (fun _ h9 => h9) rfl (fh_d d_Mo_setSqrt 62 rfl) ?_
    refine lv_iload_n hx hb (fh_d d_Mo_setSqrt 63 rfl) rfl (lv_at hl 5 rfl) ?_
    refine lv_aload_n hx hb (fh_d d_Mo_setSqrt 64 rfl) rfl (lv_at hl 4 rfl) ?_
    refine fh_get (own := "FormulaSetterModel") (ref := "FormulaSetterModel") (C := "FormulaSetterModel") (T := T_Mo) (N := 53) (v := .ref (x + 24)) hx hb hT i_Mo hown hK hP mkM_o rfl 30 (by decide) (hT _ w890) (fun _ h9 => h9) rfl (fh_d d_Mo_setSqrt 65 rfl) ?_
    refine lv_iload_n hx hb (fh_d d_Mo_setSqrt 66 rfl) rfl (lv_at hl 5 rfl) ?_
    refine fn_iald (f := upd (A 23) n0 ((((A 26) u) + (2 * (yT s0))) + (yT s0))) (k := n0) hx hb hK hP 0 mkM_a23 rfl (rfl) (by omega) (by decide) (fh_d d_Mo_setSqrt 67 rfl) ?_
    rw [show ((upd (A 23) n0 ((((A 26) u) + (2 * (yT s0))) + (yT s0))) n0) = ((((A 26) u) + (2 * (yT s0))) + (yT s0)) from upd_s]
    refine lv_aload_n hx hb (fh_d d_Mo_setSqrt 68 rfl) rfl (lv_at hl 4 rfl) ?_
    refine fh_get (own := "FormulaSetterModel") (ref := "FormulaSetterModel") (C := "FormulaSetterModel") (T := T_Mo) (N := 53) (v := .ref (x + 35)) hx hb hT i_Mo hown hK hP mkM_o rfl 41 (by decide) (hT _ w901) (fun _ h9 => h9) rfl (fh_d d_Mo_setSqrt 69 rfl) ?_
    refine lv_iload_n hx hb (fh_d d_Mo_setSqrt 70 rfl) rfl (lv_at hl 5 rfl) ?_
    refine fn_iald (f := upd (A 34) n0 (yTa s0 (((((A 26) u) + ((A 27) u)) + (2 * (yT s0))) + (yT s0)))) (k := n0) hx hb hK hP 0 mkM_a34 rfl (rfl) (by omega) (by decide) (fh_d d_Mo_setSqrt 71 rfl) ?_
    rw [show ((upd (A 34) n0 (yTa s0 (((((A 26) u) + ((A 27) u)) + (2 * (yT s0))) + (yT s0)))) n0) = (yTa s0 (((((A 26) u) + ((A 27) u)) + (2 * (yT s0))) + (yT s0))) from upd_s]
    refine lv_isub hx hb (fh_d d_Mo_setSqrt 72 rfl) ?_
    refine fn_iast (f := A 35) (k := n0) hx hb hK hP hS 0 mkM_a35 rfl (rfl) (by omega) (by decide) (fh_d d_Mo_setSqrt 73 rfl) (fun H locs hP hS => ?_)
    replace hP := fh_P.eq (h' := mkM ct x g (up2 (up2 (up2 A 34 (upd (A 34) n0 (yTa s0 (((((A 26) u) + ((A 27) u)) + (2 * (yT s0))) + (yT s0))))) 23 (upd (A 23) n0 ((((A 26) u) + (2 * (yT s0))) + (yT s0)))) 35 (upd (A 35) n0 (((((A 26) u) + (2 * (yT s0))) + (yT s0)) - (yTa s0 (((((A 26) u) + ((A 27) u)) + (2 * (yT s0))) + (yT s0)))))) th co at_ wr no nu op pi wi he de) hP mkM_u35
    refine lv_aload_n hx hb (fh_d d_Mo_setSqrt 74 rfl) rfl (lv_at hl 4 rfl) ?_
    refine fh_get (own := "FormulaSetterModel") (ref := "FormulaSetterModel") (C := "FormulaSetterModel") (T := T_Mo) (N := 53) (v := .ref (x + 25)) hx hb hT i_Mo hown hK hP mkM_o rfl 31 (by decide) (hT _ w891) (fun _ h9 => h9) rfl (fh_d d_Mo_setSqrt 75 rfl) ?_
    refine lv_iload_n hx hb (fh_d d_Mo_setSqrt 76 rfl) rfl (lv_at hl 5 rfl) ?_
    refine lv_aload_n hx hb (fh_d d_Mo_setSqrt 77 rfl) rfl (lv_at hl 4 rfl) ?_
    refine fh_get (own := "FormulaSetterModel") (ref := "FormulaSetterModel") (C := "FormulaSetterModel") (T := T_Mo) (N := 53) (v := .ref (x + 28)) hx hb hT i_Mo hown hK hP mkM_o rfl 34 (by decide) (hT _ w894) (fun _ h9 => h9) rfl (fh_d d_Mo_setSqrt 78 rfl) ?_
    refine lv_iload hx hb (fh_d d_Mo_setSqrt 79 rfl) (lv_at hl 0 rfl) ?_
    refine fn_iald (f := A 27) (k := u) hx hb hK hP 0 mkM_a27 rfl (rfl) (by omega) (by decide) (fh_d d_Mo_setSqrt 80 rfl) ?_
    refine lv_aload_n hx hb (fh_d d_Mo_setSqrt 81 rfl) rfl (lv_at hl 4 rfl) ?_
    refine fh_get (own := "FormulaSetterModel") (ref := "FormulaSetterModel") (C := "FormulaSetterModel") (T := T_Mo) (N := 53) (v := .ref (x + 36)) hx hb hT i_Mo hown hK hP mkM_o rfl 42 (by decide) (hT _ w902) (fun _ h9 => h9) rfl (fh_d d_Mo_setSqrt 82 rfl) ?_
    refine lv_iload_n hx hb (fh_d d_Mo_setSqrt 83 rfl) rfl (lv_at hl 5 rfl) ?_
    refine fn_iald (f := upd (A 35) n0 (((((A 26) u) + (2 * (yT s0))) + (yT s0)) - (yTa s0 (((((A 26) u) + ((A 27) u)) + (2 * (yT s0))) + (yT s0))))) (k := n0) hx hb hK hP 0 mkM_a35 rfl (rfl) (by omega) (by decide) (fh_d d_Mo_setSqrt 84 rfl) ?_
    rw [show ((upd (A 35) n0 (((((A 26) u) + (2 * (yT s0))) + (yT s0)) - (yTa s0 (((((A 26) u) + ((A 27) u)) + (2 * (yT s0))) + (yT s0))))) n0) = (((((A 26) u) + (2 * (yT s0))) + (yT s0)) - (yTa s0 (((((A 26) u) + ((A 27) u)) + (2 * (yT s0))) + (yT s0)))) from upd_s]
    refine lv_ineg hx hb (fh_d d_Mo_setSqrt 85 rfl) ?_
    refine fh_callS (cc' := c_Mo_most) (nL' := 2) (rest := [.int (nI n0), .ref (x + 25)]) (av := [.int ((A 27) u), .int (-(((((A 26) u) + (2 * (yT s0))) + (yT s0)) - (yTa s0 (((((A 26) u) + ((A 27) u)) + (2 * (yT s0))) + (yT s0)))))]) X hR (m_Mo_most l D ct b RO (r - 1) n ((A 27) u) (-(((((A 26) u) + (2 * (yT s0))) + (yT s0)) - (yTa s0 (((((A 26) u) + ((A 27) u)) + (2 * (yT s0))) + (yT s0))))) (mkM ct x g (up2 (up2 (up2 A 34 (upd (A 34) n0 (yTa s0 (((((A 26) u) + ((A 27) u)) + (2 * (yT s0))) + (yT s0))))) 23 (upd (A 23) n0 ((((A 26) u) + (2 * (yT s0))) + (yT s0)))) 35 (upd (A 35) n0 (((((A 26) u) + (2 * (yT s0))) + (yT s0)) - (yTa s0 (((((A 26) u) + ((A 27) u)) + (2 * (yT s0))) + (yT s0)))))) th co at_ wr no nu op pi wi he de)) w1151 w1149 w1150 w9 ⟨by decide, by decide, by show _ = some 2; decide +kernel⟩ (by omega) (by decide) hP hS hl.1 rfl (by exact Nat.le_of_ble_eq_true rfl) (fh_d d_Mo_setSqrt 86 rfl) ⟨Nat.le_refl _, Nat.le_refl _⟩ (fun v9 h9 n9 H locs hq hP hS => ?_)
    obtain ⟨rfl, q10a, q10b⟩ := hq
    rw [q10a, q10b] at hP
    refine W.eq (g2 := F0 m 137 ls [.int (ms ((A 27) u) (-(((((A 26) u) + (2 * (yT s0))) + (yT s0)) - (yTa s0 (((((A 26) u) + ((A 27) u)) + (2 * (yT s0))) + (yT s0)))))), .int (nI n0), .ref (x + 25)]) rfl ?_
    refine fn_iast (f := A 24) (k := n0) hx hb hK hP hS 0 mkM_a24 rfl (rfl) (by omega) (by decide) (fh_d d_Mo_setSqrt 87 rfl) (fun H locs hP hS => ?_)
    replace hP := fh_P.eq (h' := mkM ct x g (up2 (up2 (up2 (up2 A 34 (upd (A 34) n0 (yTa s0 (((((A 26) u) + ((A 27) u)) + (2 * (yT s0))) + (yT s0))))) 23 (upd (A 23) n0 ((((A 26) u) + (2 * (yT s0))) + (yT s0)))) 35 (upd (A 35) n0 (((((A 26) u) + (2 * (yT s0))) + (yT s0)) - (yTa s0 (((((A 26) u) + ((A 27) u)) + (2 * (yT s0))) + (yT s0)))))) 24 (upd (A 24) n0 (ms ((A 27) u) (-(((((A 26) u) + (2 * (yT s0))) + (yT s0)) - (yTa s0 (((((A 26) u) + ((A 27) u)) + (2 * (yT s0))) + (yT s0)))))))) th co at_ wr no nu op pi wi he de) hP mkM_u24
    refine lv_aload_n hx hb (fh_d d_Mo_setSqrt 88 rfl) rfl (lv_at hl 4 rfl) ?_
    refine fh_get (own := "FormulaSetterModel") (ref := "FormulaSetterModel") (C := "FormulaSetterModel") (T := T_Mo) (N := 53) (v := .ref (x + 23)) hx hb hT i_Mo hown hK hP mkM_o rfl 29 (by decide) (hT _ w889) (fun _ h9 => h9) rfl (fh_d d_Mo_setSqrt 89 rfl) ?_
    refine lv_iload_n hx hb (fh_d d_Mo_setSqrt 90 rfl) rfl (lv_at hl 5 rfl) ?_
    refine lv_iconst (v := 5) hx hb (fh_d d_Mo_setSqrt 91 rfl) (by decide) ?_
    refine lv_iload_n hx hb (fh_d d_Mo_setSqrt 92 rfl) rfl (lv_at hl 3 rfl) ?_
    refine lv_imul hx hb (fh_d d_Mo_setSqrt 93 rfl) ?_
    refine lv_aload_n hx hb (fh_d d_Mo_setSqrt 94 rfl) rfl (lv_at hl 4 rfl) ?_
    refine fh_get (own := "FormulaSetterModel") (ref := "FormulaSetterModel") (C := "FormulaSetterModel") (T := T_Mo) (N := 53) (v := .ref (x + 26)) hx hb hT i_Mo hown hK hP mkM_o rfl 32 (by decide) (hT _ w892) (fun _ h9 => h9) rfl (fh_d d_Mo_setSqrt 95 rfl) ?_
    refine lv_iload hx hb (fh_d d_Mo_setSqrt 96 rfl) (lv_at hl 0 rfl) ?_
    refine fn_iald (f := A 25) (k := u) hx hb hK hP 0 mkM_a25 rfl (rfl) (by omega) (by decide) (fh_d d_Mo_setSqrt 97 rfl) ?_
    refine lv_iadd hx hb (fh_d d_Mo_setSqrt 98 rfl) ?_
    refine fn_iast (f := A 22) (k := n0) hx hb hK hP hS 0 mkM_a22 rfl (rfl) (by omega) (by decide) (fh_d d_Mo_setSqrt 99 rfl) (fun H locs hP hS => ?_)
    replace hP := fh_P.eq (h' := mkM ct x g (up2 (up2 (up2 (up2 (up2 A 34 (upd (A 34) n0 (yTa s0 (((((A 26) u) + ((A 27) u)) + (2 * (yT s0))) + (yT s0))))) 23 (upd (A 23) n0 ((((A 26) u) + (2 * (yT s0))) + (yT s0)))) 35 (upd (A 35) n0 (((((A 26) u) + (2 * (yT s0))) + (yT s0)) - (yTa s0 (((((A 26) u) + ((A 27) u)) + (2 * (yT s0))) + (yT s0)))))) 24 (upd (A 24) n0 (ms ((A 27) u) (-(((((A 26) u) + (2 * (yT s0))) + (yT s0)) - (yTa s0 (((((A 26) u) + ((A 27) u)) + (2 * (yT s0))) + (yT s0)))))))) 22 (upd (A 22) n0 ((5 * (yS s0)) + ((A 25) u)))) th co at_ wr no nu op pi wi he de) hP mkM_u22
    refine lv_aload_n hx hb (fh_d d_Mo_setSqrt 100 rfl) rfl (lv_at hl 4 rfl) ?_
    refine fh_get (own := "FormulaSetterModel") (ref := "FormulaSetterModel") (C := "FormulaSetterModel") (T := T_Mo) (N := 53) (v := .ref (x + 30)) hx hb hT i_Mo hown hK hP mkM_o rfl 36 (by decide) (hT _ w896) (fun _ h9 => h9) rfl (fh_d d_Mo_setSqrt 101 rfl) ?_
    refine lv_iload hx hb (fh_d d_Mo_setSqrt 102 rfl) (lv_at hl 0 rfl) ?_
    refine lv_iconst (v := 5) hx hb (fh_d d_Mo_setSqrt 103 rfl) (by decide) ?_
    refine lv_iload_n hx hb (fh_d d_Mo_setSqrt 104 rfl) rfl (lv_at hl 3 rfl) ?_
    refine lv_imul hx hb (fh_d d_Mo_setSqrt 105 rfl) ?_
    refine fn_iast (f := A 29) (k := u) hx hb hK hP hS 0 mkM_a29 rfl (rfl) (by omega) (by decide) (fh_d d_Mo_setSqrt 106 rfl) (fun H locs hP hS => ?_)
    replace hP := fh_P.eq (h' := mkM ct x g (up2 (up2 (up2 (up2 (up2 (up2 A 34 (upd (A 34) n0 (yTa s0 (((((A 26) u) + ((A 27) u)) + (2 * (yT s0))) + (yT s0))))) 23 (upd (A 23) n0 ((((A 26) u) + (2 * (yT s0))) + (yT s0)))) 35 (upd (A 35) n0 (((((A 26) u) + (2 * (yT s0))) + (yT s0)) - (yTa s0 (((((A 26) u) + ((A 27) u)) + (2 * (yT s0))) + (yT s0)))))) 24 (upd (A 24) n0 (ms ((A 27) u) (-(((((A 26) u) + (2 * (yT s0))) + (yT s0)) - (yTa s0 (((((A 26) u) + ((A 27) u)) + (2 * (yT s0))) + (yT s0)))))))) 22 (upd (A 22) n0 ((5 * (yS s0)) + ((A 25) u)))) 29 (upd (A 29) u (5 * (yS s0)))) th co at_ wr no nu op pi wi he de) hP mkM_u29
    refine lv_aload_n hx hb (fh_d d_Mo_setSqrt 107 rfl) rfl (lv_at hl 4 rfl) ?_
    refine fh_get (own := "FormulaSetterModel") (ref := "FormulaSetterModel") (C := "FormulaSetterModel") (T := T_Mo) (N := 53) (v := .ref (x + 31)) hx hb hT i_Mo hown hK hP mkM_o rfl 37 (by decide) (hT _ w897) (fun _ h9 => h9) rfl (fh_d d_Mo_setSqrt 108 rfl) ?_
    refine lv_iload hx hb (fh_d d_Mo_setSqrt 109 rfl) (lv_at hl 0 rfl) ?_
    refine lv_iconst (v := 0) hx hb (fh_d d_Mo_setSqrt 110 rfl) (by decide) ?_
    refine fn_iast (f := A 30) (k := u) hx hb hK hP hS 0 mkM_a30 rfl (rfl) (by omega) (by decide) (fh_d d_Mo_setSqrt 111 rfl) (fun H locs hP hS => ?_)
    replace hP := fh_P.eq (h' := mkM ct x g (up2 (up2 (up2 (up2 (up2 (up2 (up2 A 34 (upd (A 34) n0 (yTa s0 (((((A 26) u) + ((A 27) u)) + (2 * (yT s0))) + (yT s0))))) 23 (upd (A 23) n0 ((((A 26) u) + (2 * (yT s0))) + (yT s0)))) 35 (upd (A 35) n0 (((((A 26) u) + (2 * (yT s0))) + (yT s0)) - (yTa s0 (((((A 26) u) + ((A 27) u)) + (2 * (yT s0))) + (yT s0)))))) 24 (upd (A 24) n0 (ms ((A 27) u) (-(((((A 26) u) + (2 * (yT s0))) + (yT s0)) - (yTa s0 (((((A 26) u) + ((A 27) u)) + (2 * (yT s0))) + (yT s0)))))))) 22 (upd (A 22) n0 ((5 * (yS s0)) + ((A 25) u)))) 29 (upd (A 29) u (5 * (yS s0)))) 30 (upd (A 30) u 0)) th co at_ wr no nu op pi wi he de) hP mkM_u30
    exact fh_vret X hP hS (fh_d d_Mo_setSqrt 112 rfl) ⟨rfl, by unfold rf_sq; rw [if_neg hs]; (try rfl), rfl⟩

def rf_ac (A : Nat → Nat → Int32) (n0 s0 u : Nat) : Nat → Nat → Int32 := if A 1 n0 = 6 then (up2 (up2 (up2 (up2 (up2 (up2 A 29 (upd (A 29) u 0)) 30 (upd (A 30) u 0)) 22 (upd (A 22) n0 ((A 25) u))) 24 (upd (A 24) n0 ((A 27) u))) 35 (upd (A 35) n0 (ms 0 (((A 26) u) - (5 * (yS s0)))))) 23 (upd (A 23) n0 (ms ((A 26) u) ((ms 0 (((A 26) u) - (5 * (yS s0)))) + (sgH 94 (yS s0)))))) else (up2 (up2 (up2 (up2 (up2 (up2 A 29 (upd (A 29) u 0)) 30 (upd (A 30) u 0)) 22 (upd (A 22) n0 ((A 25) u))) 24 (upd (A 24) n0 ((A 27) u))) 35 (upd (A 35) n0 (((A 26) u) + (yT s0)))) 23 (upd (A 23) n0 (((A 26) u) + (3 * (yT s0)))))
set_option maxHeartbeats 4000000 in
set_option maxRecDepth 100000 in
theorem m_Mo_setAccent (l : Launch) (D : va_G) (ct : Nat → ClassId) (b : Nat) (RO : State → Prop) (hR : fh_R b RO) (r : Nat) (hr : 2 ≤ r) (n x : Nat) (g : fh_H) (A : Nat → Nat → Int32) (th co at_ wr no nu op pi wi he de : Int32) (n0 : Nat) (hn0 : n0 < 400) (s0 : Nat) (hs0 : s0 < 4) (h20 : A 20 n0 = nI s0) (u : Nat) (hu : u < 400) (h10 : A 10 n0 = nI u) : fh_C l D fh_cl (fh_tys ct) b RO y_Mo_setAccent (Cond.code y_Mo_setAccent c_Mo_setAccent 5 (Option.none : Option FieldType) :: fh_T) (fh_rm r 0 0) [.ref x, .int (nI n0)] (mkM ct x g A th co at_ wr no nu op pi wi he de) n (fun v h' n' => v = none ∧ h' = mkM ct x g (rf_ac A n0 s0 u) th co at_ wr no nu op pi wi he de ∧ n' = n) 0 0 := by
  refine fh_enter (by decide) (Nat.le_of_ble_eq_true rfl) [(0, .ref x), (1, .int (nI n0))] rfl ?_
  intro p e s m args below meth c H ls X hP hS hl
  have hx := X.1
  have hb := X.2.1
  have hml := X.2.2.1
  have hown : s.vm.findClass "FormulaSetterModel" = some m.cls := X.2.2.2.1
  have hT := X.2.2.2.2.1
  have hK := X.2.2.2.2.2.1
  have hRO := X.2.2.2.2.2.2.1
  have hnm : meth.name = "setAccent" := X.2.2.2.2.2.2.2.2.2.2
  by_cases hh : A 1 n0 = 6
  · skip
    refine lv_aload_n hx hb (fh_d d_Mo_setAccent 0 rfl) rfl (lv_at hl 0 rfl) ?_
    refine fh_get (own := "FormulaSetterModel") (ref := "FormulaSetterModel") (C := "FormulaSetterModel") (T := T_Mo) (N := 53) (v := .ref (x + 21)) hx hb hT i_Mo hown hK hP mkM_o rfl 27 (by decide) (hT _ w887) (fun _ h9 => h9) rfl (fh_d d_Mo_setAccent 1 rfl) ?_
    refine lv_iload_n hx hb (fh_d d_Mo_setAccent 2 rfl) rfl (lv_at hl 1 rfl) ?_
    refine fn_iald (f := A 20) (k := n0) hx hb hK hP 0 mkM_a20 rfl (rfl) (by omega) (by decide) (fh_d d_Mo_setAccent 3 rfl) ?_
    rw [show ((A 20) n0) = nI s0 from h20]
    refine fh_callS (cc' := c_Mo_zOf) (nL' := 1) (rest := []) (av := [.int (nI s0)]) X hR (m_Mo_zO l D ct b RO hR (r - 1) (by omega) n s0 hs0 (mkM ct x g A th co at_ wr no nu op pi wi he de)) w1139 w1137 w1138 w9 ⟨by decide, by decide, by show _ = some 1; decide +kernel⟩ (by omega) (by decide) hP hS hl.1 rfl (by exact Nat.le_of_ble_eq_true rfl) (fh_d d_Mo_setAccent 4 rfl) ⟨Nat.le_refl _, Nat.le_refl _⟩ (fun v9 h9 n9 H locs hq hP hS => ?_)
    obtain ⟨rfl, q1a, q1b⟩ := hq
    rw [q1a, q1b] at hP
    refine W.eq (g2 := F0 m 9 ls [.int (yS s0)]) rfl ?_
    refine lv_istore_n (lv' := [(2, .int (yS s0)), (0, .ref x), (1, .int (nI n0))]) hx hb (fh_d d_Mo_setAccent 5 rfl) rfl hl (by decide) rfl (fun ls hl => ?_)
    refine lv_aload_n hx hb (fh_d d_Mo_setAccent 6 rfl) rfl (lv_at hl 1 rfl) ?_
    refine fh_get (own := "FormulaSetterModel") (ref := "FormulaSetterModel") (C := "FormulaSetterModel") (T := T_Mo) (N := 53) (v := .ref (x + 21)) hx hb hT i_Mo hown hK hP mkM_o rfl 27 (by decide) (hT _ w887) (fun _ h9 => h9) rfl (fh_d d_Mo_setAccent 7 rfl) ?_
    refine lv_iload_n hx hb (fh_d d_Mo_setAccent 8 rfl) rfl (lv_at hl 2 rfl) ?_
    refine fn_iald (f := A 20) (k := n0) hx hb hK hP 0 mkM_a20 rfl (rfl) (by omega) (by decide) (fh_d d_Mo_setAccent 9 rfl) ?_
    rw [show ((A 20) n0) = nI s0 from h20]
    refine fh_callS (cc' := c_Mo_tOf) (nL' := 1) (rest := []) (av := [.int (nI s0)]) X hR (m_Mo_tO l D ct b RO hR (r - 1) (by omega) n s0 hs0 (mkM ct x g A th co at_ wr no nu op pi wi he de)) w1174 w1172 w1173 w9 ⟨by decide, by decide, by show _ = some 1; decide +kernel⟩ (by omega) (by decide) hP hS hl.1 rfl (by exact Nat.le_of_ble_eq_true rfl) (fh_d d_Mo_setAccent 10 rfl) ⟨Nat.le_refl _, Nat.le_refl _⟩ (fun v9 h9 n9 H locs hq hP hS => ?_)
    obtain ⟨rfl, q2a, q2b⟩ := hq
    rw [q2a, q2b] at hP
    refine W.eq (g2 := F0 m 19 ls [.int (yT s0)]) rfl ?_
    refine lv_istore_n (lv' := [(3, .int (yT s0)), (2, .int (yS s0)), (0, .ref x), (1, .int (nI n0))]) hx hb (fh_d d_Mo_setAccent 11 rfl) rfl hl (by decide) rfl (fun ls hl => ?_)
    refine lv_aload_n hx hb (fh_d d_Mo_setAccent 12 rfl) rfl (lv_at hl 2 rfl) ?_
    refine fh_get (own := "FormulaSetterModel") (ref := "FormulaSetterModel") (C := "FormulaSetterModel") (T := T_Mo) (N := 53) (v := .ref (x + 11)) hx hb hT i_Mo hown hK hP mkM_o rfl 16 (by decide) (hT _ w876) (fun _ h9 => h9) rfl (fh_d d_Mo_setAccent 13 rfl) ?_
    refine lv_iload_n hx hb (fh_d d_Mo_setAccent 14 rfl) rfl (lv_at hl 3 rfl) ?_
    refine fn_iald (f := A 10) (k := n0) hx hb hK hP 0 mkM_a10 rfl (rfl) (by omega) (by decide) (fh_d d_Mo_setAccent 15 rfl) ?_
    rw [show ((A 10) n0) = nI u from h10]
    refine lv_istore (lv' := [(4, .int (nI u)), (3, .int (yT s0)), (2, .int (yS s0)), (0, .ref x), (1, .int (nI n0))]) hx hb (fh_d d_Mo_setAccent 16 rfl) hl (by decide) rfl (fun ls hl => ?_)
    refine lv_aload_n hx hb (fh_d d_Mo_setAccent 17 rfl) rfl (lv_at hl 3 rfl) ?_
    refine fh_get (own := "FormulaSetterModel") (ref := "FormulaSetterModel") (C := "FormulaSetterModel") (T := T_Mo) (N := 53) (v := .ref (x + 30)) hx hb hT i_Mo hown hK hP mkM_o rfl 36 (by decide) (hT _ w896) (fun _ h9 => h9) rfl (fh_d d_Mo_setAccent 18 rfl) ?_
    refine lv_iload hx hb (fh_d d_Mo_setAccent 19 rfl) (lv_at hl 0 rfl) ?_
    refine lv_iconst (v := 0) hx hb (fh_d d_Mo_setAccent 20 rfl) (by decide) ?_
    refine fn_iast (f := A 29) (k := u) hx hb hK hP hS 0 mkM_a29 rfl (rfl) (by omega) (by decide) (fh_d d_Mo_setAccent 21 rfl) (fun H locs hP hS => ?_)
    replace hP := fh_P.eq (h' := mkM ct x g (up2 A 29 (upd (A 29) u 0)) th co at_ wr no nu op pi wi he de) hP mkM_u29
    refine lv_aload_n hx hb (fh_d d_Mo_setAccent 22 rfl) rfl (lv_at hl 3 rfl) ?_
    refine fh_get (own := "FormulaSetterModel") (ref := "FormulaSetterModel") (C := "FormulaSetterModel") (T := T_Mo) (N := 53) (v := .ref (x + 31)) hx hb hT i_Mo hown hK hP mkM_o rfl 37 (by decide) (hT _ w897) (fun _ h9 => h9) rfl (fh_d d_Mo_setAccent 23 rfl) ?_
    refine lv_iload hx hb (fh_d d_Mo_setAccent 24 rfl) (lv_at hl 0 rfl) ?_
    refine lv_iconst (v := 0) hx hb (fh_d d_Mo_setAccent 25 rfl) (by decide) ?_
    refine fn_iast (f := A 30) (k := u) hx hb hK hP hS 0 mkM_a30 rfl (rfl) (by omega) (by decide) (fh_d d_Mo_setAccent 26 rfl) (fun H locs hP hS => ?_)
    replace hP := fh_P.eq (h' := mkM ct x g (up2 (up2 A 29 (upd (A 29) u 0)) 30 (upd (A 30) u 0)) th co at_ wr no nu op pi wi he de) hP mkM_u30
    refine lv_aload_n hx hb (fh_d d_Mo_setAccent 27 rfl) rfl (lv_at hl 3 rfl) ?_
    refine fh_get (own := "FormulaSetterModel") (ref := "FormulaSetterModel") (C := "FormulaSetterModel") (T := T_Mo) (N := 53) (v := .ref (x + 23)) hx hb hT i_Mo hown hK hP mkM_o rfl 29 (by decide) (hT _ w889) (fun _ h9 => h9) rfl (fh_d d_Mo_setAccent 28 rfl) ?_
    refine lv_iload_n hx hb (fh_d d_Mo_setAccent 29 rfl) rfl (lv_at hl 4 rfl) ?_
    refine lv_aload_n hx hb (fh_d d_Mo_setAccent 30 rfl) rfl (lv_at hl 3 rfl) ?_
    refine fh_get (own := "FormulaSetterModel") (ref := "FormulaSetterModel") (C := "FormulaSetterModel") (T := T_Mo) (N := 53) (v := .ref (x + 26)) hx hb hT i_Mo hown hK hP mkM_o rfl 32 (by decide) (hT _ w892) (fun _ h9 => h9) rfl (fh_d d_Mo_setAccent 31 rfl) ?_
    refine lv_iload hx hb (fh_d d_Mo_setAccent 32 rfl) (lv_at hl 0 rfl) ?_
    refine fn_iald (f := A 25) (k := u) hx hb hK hP 0 mkM_a25 rfl (rfl) (by omega) (by decide) (fh_d d_Mo_setAccent 33 rfl) ?_
    refine fn_iast (f := A 22) (k := n0) hx hb hK hP hS 0 mkM_a22 rfl (rfl) (by omega) (by decide) (fh_d d_Mo_setAccent 34 rfl) (fun H locs hP hS => ?_)
    replace hP := fh_P.eq (h' := mkM ct x g (up2 (up2 (up2 A 29 (upd (A 29) u 0)) 30 (upd (A 30) u 0)) 22 (upd (A 22) n0 ((A 25) u))) th co at_ wr no nu op pi wi he de) hP mkM_u22
    refine lv_aload_n hx hb (fh_d d_Mo_setAccent 35 rfl) rfl (lv_at hl 3 rfl) ?_
    refine fh_get (own := "FormulaSetterModel") (ref := "FormulaSetterModel") (C := "FormulaSetterModel") (T := T_Mo) (N := 53) (v := .ref (x + 25)) hx hb hT i_Mo hown hK hP mkM_o rfl 31 (by decide) (hT _ w891) (fun _ h9 => h9) rfl (fh_d d_Mo_setAccent 36 rfl) ?_
    refine lv_iload_n hx hb (fh_d d_Mo_setAccent 37 rfl) rfl (lv_at hl 4 rfl) ?_
    refine lv_aload_n hx hb (fh_d d_Mo_setAccent 38 rfl) rfl (lv_at hl 3 rfl) ?_
    refine fh_get (own := "FormulaSetterModel") (ref := "FormulaSetterModel") (C := "FormulaSetterModel") (T := T_Mo) (N := 53) (v := .ref (x + 28)) hx hb hT i_Mo hown hK hP mkM_o rfl 34 (by decide) (hT _ w894) (fun _ h9 => h9) rfl (fh_d d_Mo_setAccent 39 rfl) ?_
    refine lv_iload hx hb (fh_d d_Mo_setAccent 40 rfl) (lv_at hl 0 rfl) ?_
    refine fn_iald (f := A 27) (k := u) hx hb hK hP 0 mkM_a27 rfl (rfl) (by omega) (by decide) (fh_d d_Mo_setAccent 41 rfl) ?_
    refine fn_iast (f := A 24) (k := n0) hx hb hK hP hS 0 mkM_a24 rfl (rfl) (by omega) (by decide) (fh_d d_Mo_setAccent 42 rfl) (fun H locs hP hS => ?_)
    replace hP := fh_P.eq (h' := mkM ct x g (up2 (up2 (up2 (up2 A 29 (upd (A 29) u 0)) 30 (upd (A 30) u 0)) 22 (upd (A 22) n0 ((A 25) u))) 24 (upd (A 24) n0 ((A 27) u))) th co at_ wr no nu op pi wi he de) hP mkM_u24
    refine lv_aload_n hx hb (fh_d d_Mo_setAccent 43 rfl) rfl (lv_at hl 3 rfl) ?_
    refine fh_get (own := "FormulaSetterModel") (ref := "FormulaSetterModel") (C := "FormulaSetterModel") (T := T_Mo) (N := 53) (v := .ref (x + 36)) hx hb hT i_Mo hown hK hP mkM_o rfl 42 (by decide) (hT _ w902) (fun _ h9 => h9) rfl (fh_d d_Mo_setAccent 44 rfl) ?_
    refine lv_iload_n hx hb (fh_d d_Mo_setAccent 45 rfl) rfl (lv_at hl 4 rfl) ?_
    refine lv_aload_n hx hb (fh_d d_Mo_setAccent 46 rfl) rfl (lv_at hl 3 rfl) ?_
    refine fh_get (own := "FormulaSetterModel") (ref := "FormulaSetterModel") (C := "FormulaSetterModel") (T := T_Mo) (N := 53) (v := .ref (x + 2)) hx hb hT i_Mo hown hK hP mkM_o rfl 7 (by decide) (hT _ w867) (fun _ h9 => h9) rfl (fh_d d_Mo_setAccent 47 rfl) ?_
    refine lv_iload_n hx hb (fh_d d_Mo_setAccent 48 rfl) rfl (lv_at hl 4 rfl) ?_
    refine fn_iald (f := A 1) (k := n0) hx hb hK hP 0 mkM_a1 rfl (rfl) (by omega) (by decide) (fh_d d_Mo_setAccent 49 rfl) ?_
    refine lv_bipush (v := 6) hx hb (fh_d d_Mo_setAccent 50 rfl) (by decide) ?_
    refine lv_icmp_ne (tgt := 104) hx hb (fh_d d_Mo_setAccent 51 rfl) rfl (fun c3 => absurd c3 (Classical.not_not.mpr (hh))) (fun c3 => ?_)
    refine lv_iconst (v := 0) hx hb (fh_d d_Mo_setAccent 52 rfl) (by decide) ?_
    refine lv_aload_n hx hb (fh_d d_Mo_setAccent 53 rfl) rfl (lv_at hl 3 rfl) ?_
    refine fh_get (own := "FormulaSetterModel") (ref := "FormulaSetterModel") (C := "FormulaSetterModel") (T := T_Mo) (N := 53) (v := .ref (x + 27)) hx hb hT i_Mo hown hK hP mkM_o rfl 33 (by decide) (hT _ w893) (fun _ h9 => h9) rfl (fh_d d_Mo_setAccent 54 rfl) ?_
    refine lv_iload hx hb (fh_d d_Mo_setAccent 55 rfl) (lv_at hl 0 rfl) ?_
    refine fn_iald (f := A 26) (k := u) hx hb hK hP 0 mkM_a26 rfl (rfl) (by omega) (by decide) (fh_d d_Mo_setAccent 56 rfl) ?_
    refine lv_iconst (v := 5) hx hb (fh_d d_Mo_setAccent 57 rfl) (by decide) ?_
    refine lv_iload_n hx hb (fh_d d_Mo_setAccent 58 rfl) rfl (lv_at hl 2 rfl) ?_
    refine lv_imul hx hb (fh_d d_Mo_setAccent 59 rfl) ?_
    refine lv_isub hx hb (fh_d d_Mo_setAccent 60 rfl) ?_
    refine fh_callS (cc' := c_Mo_most) (nL' := 2) (rest := [.int (nI n0), .ref (x + 36)]) (av := [.int 0, .int (((A 26) u) - (5 * (yS s0)))]) X hR (m_Mo_most l D ct b RO (r - 1) n 0 (((A 26) u) - (5 * (yS s0))) (mkM ct x g (up2 (up2 (up2 (up2 A 29 (upd (A 29) u 0)) 30 (upd (A 30) u 0)) 22 (upd (A 22) n0 ((A 25) u))) 24 (upd (A 24) n0 ((A 27) u))) th co at_ wr no nu op pi wi he de)) w1151 w1149 w1150 w9 ⟨by decide, by decide, by show _ = some 2; decide +kernel⟩ (by omega) (by decide) hP hS hl.1 rfl (by exact Nat.le_of_ble_eq_true rfl) (fh_d d_Mo_setAccent 61 rfl) ⟨Nat.le_refl _, Nat.le_refl _⟩ (fun v9 h9 n9 H locs hq hP hS => ?_)
    obtain ⟨rfl, q4a, q4b⟩ := hq
    rw [q4a, q4b] at hP
    refine W.eq (g2 := F0 m 101 ls [.int (ms 0 (((A 26) u) - (5 * (yS s0)))), .int (nI n0), .ref (x + 36)]) rfl ?_
    refine lv_goto (tgt := 113) hx hb (fh_d d_Mo_setAccent 62 rfl) rfl ?_
    refine fn_iast (f := A 35) (k := n0) hx hb hK hP hS 0 mkM_a35 rfl (rfl) (by omega) (by decide) (fh_d d_Mo_setAccent 69 rfl) (fun H locs hP hS => ?_)
    replace hP := fh_P.eq (h' := mkM ct x g (up2 (up2 (up2 (up2 (up2 A 29 (upd (A 29) u 0)) 30 (upd (A 30) u 0)) 22 (upd (A 22) n0 ((A 25) u))) 24 (upd (A 24) n0 ((A 27) u))) 35 (upd (A 35) n0 (ms 0 (((A 26) u) - (5 * (yS s0)))))) th co at_ wr no nu op pi wi he de) hP mkM_u35
    refine lv_aload_n hx hb (fh_d d_Mo_setAccent 70 rfl) rfl (lv_at hl 3 rfl) ?_
    refine fh_get (own := "FormulaSetterModel") (ref := "FormulaSetterModel") (C := "FormulaSetterModel") (T := T_Mo) (N := 53) (v := .ref (x + 24)) hx hb hT i_Mo hown hK hP mkM_o rfl 30 (by decide) (hT _ w890) (fun _ h9 => h9) rfl (fh_d d_Mo_setAccent 71 rfl) ?_
    refine lv_iload_n hx hb (fh_d d_Mo_setAccent 72 rfl) rfl (lv_at hl 4 rfl) ?_
    refine lv_aload_n hx hb (fh_d d_Mo_setAccent 73 rfl) rfl (lv_at hl 3 rfl) ?_
    refine fh_get (own := "FormulaSetterModel") (ref := "FormulaSetterModel") (C := "FormulaSetterModel") (T := T_Mo) (N := 53) (v := .ref (x + 2)) hx hb hT i_Mo hown hK hP mkM_o rfl 7 (by decide) (hT _ w867) (fun _ h9 => h9) rfl (fh_d d_Mo_setAccent 74 rfl) ?_
    refine lv_iload_n hx hb (fh_d d_Mo_setAccent 75 rfl) rfl (lv_at hl 4 rfl) ?_
    refine fn_iald (f := A 1) (k := n0) hx hb hK hP 0 mkM_a1 rfl (rfl) (by omega) (by decide) (fh_d d_Mo_setAccent 76 rfl) ?_
    refine lv_bipush (v := 6) hx hb (fh_d d_Mo_setAccent 77 rfl) (by decide) ?_
    refine lv_icmp_ne (tgt := 156) hx hb (fh_d d_Mo_setAccent 78 rfl) rfl (fun c5 => absurd c5 (Classical.not_not.mpr (hh))) (fun c5 => ?_)
    refine lv_aload_n hx hb (fh_d d_Mo_setAccent 79 rfl) rfl (lv_at hl 3 rfl) ?_
    refine fh_get (own := "FormulaSetterModel") (ref := "FormulaSetterModel") (C := "FormulaSetterModel") (T := T_Mo) (N := 53) (v := .ref (x + 27)) hx hb hT i_Mo hown hK hP mkM_o rfl 33 (by decide) (hT _ w893) (fun _ h9 => h9) rfl (fh_d d_Mo_setAccent 80 rfl) ?_
    refine lv_iload hx hb (fh_d d_Mo_setAccent 81 rfl) (lv_at hl 0 rfl) ?_
    refine fn_iald (f := A 26) (k := u) hx hb hK hP 0 mkM_a26 rfl (rfl) (by omega) (by decide) (fh_d d_Mo_setAccent 82 rfl) ?_
    refine lv_aload_n hx hb (fh_d d_Mo_setAccent 83 rfl) rfl (lv_at hl 3 rfl) ?_
    refine fh_get (own := "FormulaSetterModel") (ref := "FormulaSetterModel") (C := "FormulaSetterModel") (T := T_Mo) (N := 53) (v := .ref (x + 36)) hx hb hT i_Mo hown hK hP mkM_o rfl 42 (by decide) (hT _ w902) (fun _ h9 => h9) rfl (fh_d d_Mo_setAccent 84 rfl) ?_
    refine lv_iload_n hx hb (fh_d d_Mo_setAccent 85 rfl) rfl (lv_at hl 4 rfl) ?_
    refine fn_iald (f := upd (A 35) n0 (ms 0 (((A 26) u) - (5 * (yS s0))))) (k := n0) hx hb hK hP 0 mkM_a35 rfl (rfl) (by omega) (by decide) (fh_d d_Mo_setAccent 86 rfl) ?_
    rw [show ((upd (A 35) n0 (ms 0 (((A 26) u) - (5 * (yS s0))))) n0) = (ms 0 (((A 26) u) - (5 * (yS s0)))) from upd_s]
    refine lv_bipush (v := 94) hx hb (fh_d d_Mo_setAccent 87 rfl) (by decide) ?_
    refine lv_iload_n hx hb (fh_d d_Mo_setAccent 88 rfl) rfl (lv_at hl 2 rfl) ?_
    refine fh_callS (cc' := c_Mo_signH) (nL' := 2) (rest := [.int (ms 0 (((A 26) u) - (5 * (yS s0)))), .int ((A 26) u), .int (nI n0), .ref (x + 24)]) (av := [.int 94, .int (yS s0)]) X hR (m_Mo_signH l D ct b RO (r - 1) n 94 (yS s0) (mkM ct x g (up2 (up2 (up2 (up2 (up2 A 29 (upd (A 29) u 0)) 30 (upd (A 30) u 0)) 22 (upd (A 22) n0 ((A 25) u))) 24 (upd (A 24) n0 ((A 27) u))) 35 (upd (A 35) n0 (ms 0 (((A 26) u) - (5 * (yS s0)))))) th co at_ wr no nu op pi wi he de)) w1157 w1155 w1156 w9 ⟨by decide, by decide, by show _ = some 2; decide +kernel⟩ (by omega) (by decide) hP hS hl.1 rfl (by exact Nat.le_of_ble_eq_true rfl) (fh_d d_Mo_setAccent 89 rfl) ⟨Nat.le_refl _, Nat.le_refl _⟩ (fun v9 h9 n9 H locs hq hP hS => ?_)
    obtain ⟨rfl, q6a, q6b⟩ := hq
    rw [q6a, q6b] at hP
    refine W.eq (g2 := F0 m 149 ls [.int (sgH 94 (yS s0)), .int (ms 0 (((A 26) u) - (5 * (yS s0)))), .int ((A 26) u), .int (nI n0), .ref (x + 24)]) rfl ?_
    refine lv_iadd hx hb (fh_d d_Mo_setAccent 90 rfl) ?_
    refine fh_callS (cc' := c_Mo_most) (nL' := 2) (rest := [.int (nI n0), .ref (x + 24)]) (av := [.int ((A 26) u), .int ((ms 0 (((A 26) u) - (5 * (yS s0)))) + (sgH 94 (yS s0)))]) X hR (m_Mo_most l D ct b RO (r - 1) n ((A 26) u) ((ms 0 (((A 26) u) - (5 * (yS s0)))) + (sgH 94 (yS s0))) (mkM ct x g (up2 (up2 (up2 (up2 (up2 A 29 (upd (A 29) u 0)) 30 (upd (A 30) u 0)) 22 (upd (A 22) n0 ((A 25) u))) 24 (upd (A 24) n0 ((A 27) u))) 35 (upd (A 35) n0 (ms 0 (((A 26) u) - (5 * (yS s0)))))) th co at_ wr no nu op pi wi he de)) w1151 w1149 w1150 w9 ⟨by decide, by decide, by show _ = some 2; decide +kernel⟩ (by omega) (by decide) hP hS hl.1 rfl (by exact Nat.le_of_ble_eq_true rfl) (fh_d d_Mo_setAccent 91 rfl) ⟨Nat.le_refl _, Nat.le_refl _⟩ (fun v9 h9 n9 H locs hq hP hS => ?_)
    obtain ⟨rfl, q7a, q7b⟩ := hq
    rw [q7a, q7b] at hP
    refine W.eq (g2 := F0 m 153 ls [.int (ms ((A 26) u) ((ms 0 (((A 26) u) - (5 * (yS s0)))) + (sgH 94 (yS s0)))), .int (nI n0), .ref (x + 24)]) rfl ?_
    refine lv_goto (tgt := 167) hx hb (fh_d d_Mo_setAccent 92 rfl) rfl ?_
    refine fn_iast (f := A 23) (k := n0) hx hb hK hP hS 0 mkM_a23 rfl (rfl) (by omega) (by decide) (fh_d d_Mo_setAccent 101 rfl) (fun H locs hP hS => ?_)
    replace hP := fh_P.eq (h' := mkM ct x g (up2 (up2 (up2 (up2 (up2 (up2 A 29 (upd (A 29) u 0)) 30 (upd (A 30) u 0)) 22 (upd (A 22) n0 ((A 25) u))) 24 (upd (A 24) n0 ((A 27) u))) 35 (upd (A 35) n0 (ms 0 (((A 26) u) - (5 * (yS s0)))))) 23 (upd (A 23) n0 (ms ((A 26) u) ((ms 0 (((A 26) u) - (5 * (yS s0)))) + (sgH 94 (yS s0)))))) th co at_ wr no nu op pi wi he de) hP mkM_u23
    exact fh_vret X hP hS (fh_d d_Mo_setAccent 102 rfl) ⟨rfl, by unfold rf_ac; rw [if_pos hh]; (try rfl), rfl⟩
  · skip
    refine lv_aload_n hx hb (fh_d d_Mo_setAccent 0 rfl) rfl (lv_at hl 0 rfl) ?_
    refine fh_get (own := "FormulaSetterModel") (ref := "FormulaSetterModel") (C := "FormulaSetterModel") (T := T_Mo) (N := 53) (v := .ref (x + 21)) hx hb hT i_Mo hown hK hP mkM_o rfl 27 (by decide) (hT _ w887) (fun _ h9 => h9) rfl (fh_d d_Mo_setAccent 1 rfl) ?_
    refine lv_iload_n hx hb (fh_d d_Mo_setAccent 2 rfl) rfl (lv_at hl 1 rfl) ?_
    refine fn_iald (f := A 20) (k := n0) hx hb hK hP 0 mkM_a20 rfl (rfl) (by omega) (by decide) (fh_d d_Mo_setAccent 3 rfl) ?_
    rw [show ((A 20) n0) = nI s0 from h20]
    refine fh_callS (cc' := c_Mo_zOf) (nL' := 1) (rest := []) (av := [.int (nI s0)]) X hR (m_Mo_zO l D ct b RO hR (r - 1) (by omega) n s0 hs0 (mkM ct x g A th co at_ wr no nu op pi wi he de)) w1139 w1137 w1138 w9 ⟨by decide, by decide, by show _ = some 1; decide +kernel⟩ (by omega) (by decide) hP hS hl.1 rfl (by exact Nat.le_of_ble_eq_true rfl) (fh_d d_Mo_setAccent 4 rfl) ⟨Nat.le_refl _, Nat.le_refl _⟩ (fun v9 h9 n9 H locs hq hP hS => ?_)
    obtain ⟨rfl, q8a, q8b⟩ := hq
    rw [q8a, q8b] at hP
    refine W.eq (g2 := F0 m 9 ls [.int (yS s0)]) rfl ?_
    refine lv_istore_n (lv' := [(2, .int (yS s0)), (0, .ref x), (1, .int (nI n0))]) hx hb (fh_d d_Mo_setAccent 5 rfl) rfl hl (by decide) rfl (fun ls hl => ?_)
    refine lv_aload_n hx hb (fh_d d_Mo_setAccent 6 rfl) rfl (lv_at hl 1 rfl) ?_
    refine fh_get (own := "FormulaSetterModel") (ref := "FormulaSetterModel") (C := "FormulaSetterModel") (T := T_Mo) (N := 53) (v := .ref (x + 21)) hx hb hT i_Mo hown hK hP mkM_o rfl 27 (by decide) (hT _ w887) (fun _ h9 => h9) rfl (fh_d d_Mo_setAccent 7 rfl) ?_
    refine lv_iload_n hx hb (fh_d d_Mo_setAccent 8 rfl) rfl (lv_at hl 2 rfl) ?_
    refine fn_iald (f := A 20) (k := n0) hx hb hK hP 0 mkM_a20 rfl (rfl) (by omega) (by decide) (fh_d d_Mo_setAccent 9 rfl) ?_
    rw [show ((A 20) n0) = nI s0 from h20]
    refine fh_callS (cc' := c_Mo_tOf) (nL' := 1) (rest := []) (av := [.int (nI s0)]) X hR (m_Mo_tO l D ct b RO hR (r - 1) (by omega) n s0 hs0 (mkM ct x g A th co at_ wr no nu op pi wi he de)) w1174 w1172 w1173 w9 ⟨by decide, by decide, by show _ = some 1; decide +kernel⟩ (by omega) (by decide) hP hS hl.1 rfl (by exact Nat.le_of_ble_eq_true rfl) (fh_d d_Mo_setAccent 10 rfl) ⟨Nat.le_refl _, Nat.le_refl _⟩ (fun v9 h9 n9 H locs hq hP hS => ?_)
    obtain ⟨rfl, q9a, q9b⟩ := hq
    rw [q9a, q9b] at hP
    refine W.eq (g2 := F0 m 19 ls [.int (yT s0)]) rfl ?_
    refine lv_istore_n (lv' := [(3, .int (yT s0)), (2, .int (yS s0)), (0, .ref x), (1, .int (nI n0))]) hx hb (fh_d d_Mo_setAccent 11 rfl) rfl hl (by decide) rfl (fun ls hl => ?_)
    refine lv_aload_n hx hb (fh_d d_Mo_setAccent 12 rfl) rfl (lv_at hl 2 rfl) ?_
    refine fh_get (own := "FormulaSetterModel") (ref := "FormulaSetterModel") (C := "FormulaSetterModel") (T := T_Mo) (N := 53) (v := .ref (x + 11)) hx hb hT i_Mo hown hK hP mkM_o rfl 16 (by decide) (hT _ w876) (fun _ h9 => h9) rfl (fh_d d_Mo_setAccent 13 rfl) ?_
    refine lv_iload_n hx hb (fh_d d_Mo_setAccent 14 rfl) rfl (lv_at hl 3 rfl) ?_
    refine fn_iald (f := A 10) (k := n0) hx hb hK hP 0 mkM_a10 rfl (rfl) (by omega) (by decide) (fh_d d_Mo_setAccent 15 rfl) ?_
    rw [show ((A 10) n0) = nI u from h10]
    refine lv_istore (lv' := [(4, .int (nI u)), (3, .int (yT s0)), (2, .int (yS s0)), (0, .ref x), (1, .int (nI n0))]) hx hb (fh_d d_Mo_setAccent 16 rfl) hl (by decide) rfl (fun ls hl => ?_)
    refine lv_aload_n hx hb (fh_d d_Mo_setAccent 17 rfl) rfl (lv_at hl 3 rfl) ?_
    refine fh_get (own := "FormulaSetterModel") (ref := "FormulaSetterModel") (C := "FormulaSetterModel") (T := T_Mo) (N := 53) (v := .ref (x + 30)) hx hb hT i_Mo hown hK hP mkM_o rfl 36 (by decide) (hT _ w896) (fun _ h9 => h9) rfl (fh_d d_Mo_setAccent 18 rfl) ?_
    refine lv_iload hx hb (fh_d d_Mo_setAccent 19 rfl) (lv_at hl 0 rfl) ?_
    refine lv_iconst (v := 0) hx hb (fh_d d_Mo_setAccent 20 rfl) (by decide) ?_
    refine fn_iast (f := A 29) (k := u) hx hb hK hP hS 0 mkM_a29 rfl (rfl) (by omega) (by decide) (fh_d d_Mo_setAccent 21 rfl) (fun H locs hP hS => ?_)
    replace hP := fh_P.eq (h' := mkM ct x g (up2 A 29 (upd (A 29) u 0)) th co at_ wr no nu op pi wi he de) hP mkM_u29
    refine lv_aload_n hx hb (fh_d d_Mo_setAccent 22 rfl) rfl (lv_at hl 3 rfl) ?_
    refine fh_get (own := "FormulaSetterModel") (ref := "FormulaSetterModel") (C := "FormulaSetterModel") (T := T_Mo) (N := 53) (v := .ref (x + 31)) hx hb hT i_Mo hown hK hP mkM_o rfl 37 (by decide) (hT _ w897) (fun _ h9 => h9) rfl (fh_d d_Mo_setAccent 23 rfl) ?_
    refine lv_iload hx hb (fh_d d_Mo_setAccent 24 rfl) (lv_at hl 0 rfl) ?_
    refine lv_iconst (v := 0) hx hb (fh_d d_Mo_setAccent 25 rfl) (by decide) ?_
    refine fn_iast (f := A 30) (k := u) hx hb hK hP hS 0 mkM_a30 rfl (rfl) (by omega) (by decide) (fh_d d_Mo_setAccent 26 rfl) (fun H locs hP hS => ?_)
    replace hP := fh_P.eq (h' := mkM ct x g (up2 (up2 A 29 (upd (A 29) u 0)) 30 (upd (A 30) u 0)) th co at_ wr no nu op pi wi he de) hP mkM_u30
    refine lv_aload_n hx hb (fh_d d_Mo_setAccent 27 rfl) rfl (lv_at hl 3 rfl) ?_
    refine fh_get (own := "FormulaSetterModel") (ref := "FormulaSetterModel") (C := "FormulaSetterModel") (T := T_Mo) (N := 53) (v := .ref (x + 23)) hx hb hT i_Mo hown hK hP mkM_o rfl 29 (by decide) (hT _ w889) (fun _ h9 => h9) rfl (fh_d d_Mo_setAccent 28 rfl) ?_
    refine lv_iload_n hx hb (fh_d d_Mo_setAccent 29 rfl) rfl (lv_at hl 4 rfl) ?_
    refine lv_aload_n hx hb (fh_d d_Mo_setAccent 30 rfl) rfl (lv_at hl 3 rfl) ?_
    refine fh_get (own := "FormulaSetterModel") (ref := "FormulaSetterModel") (C := "FormulaSetterModel") (T := T_Mo) (N := 53) (v := .ref (x + 26)) hx hb hT i_Mo hown hK hP mkM_o rfl 32 (by decide) (hT _ w892) (fun _ h9 => h9) rfl (fh_d d_Mo_setAccent 31 rfl) ?_
    refine lv_iload hx hb (fh_d d_Mo_setAccent 32 rfl) (lv_at hl 0 rfl) ?_
    refine fn_iald (f := A 25) (k := u) hx hb hK hP 0 mkM_a25 rfl (rfl) (by omega) (by decide) (fh_d d_Mo_setAccent 33 rfl) ?_
    refine fn_iast (f := A 22) (k := n0) hx hb hK hP hS 0 mkM_a22 rfl (rfl) (by omega) (by decide) (fh_d d_Mo_setAccent 34 rfl) (fun H locs hP hS => ?_)
    replace hP := fh_P.eq (h' := mkM ct x g (up2 (up2 (up2 A 29 (upd (A 29) u 0)) 30 (upd (A 30) u 0)) 22 (upd (A 22) n0 ((A 25) u))) th co at_ wr no nu op pi wi he de) hP mkM_u22
    refine lv_aload_n hx hb (fh_d d_Mo_setAccent 35 rfl) rfl (lv_at hl 3 rfl) ?_
    refine fh_get (own := "FormulaSetterModel") (ref := "FormulaSetterModel") (C := "FormulaSetterModel") (T := T_Mo) (N := 53) (v := .ref (x + 25)) hx hb hT i_Mo hown hK hP mkM_o rfl 31 (by decide) (hT _ w891) (fun _ h9 => h9) rfl (fh_d d_Mo_setAccent 36 rfl) ?_
    refine lv_iload_n hx hb (fh_d d_Mo_setAccent 37 rfl) rfl (lv_at hl 4 rfl) ?_
    refine lv_aload_n hx hb (fh_d d_Mo_setAccent 38 rfl) rfl (lv_at hl 3 rfl) ?_
    refine fh_get (own := "FormulaSetterModel") (ref := "FormulaSetterModel") (C := "FormulaSetterModel") (T := T_Mo) (N := 53) (v := .ref (x + 28)) hx hb hT i_Mo hown hK hP mkM_o rfl 34 (by decide) (hT _ w894) (fun _ h9 => h9) rfl (fh_d d_Mo_setAccent 39 rfl) ?_
    refine lv_iload hx hb (fh_d d_Mo_setAccent 40 rfl) (lv_at hl 0 rfl) ?_
    refine fn_iald (f := A 27) (k := u) hx hb hK hP 0 mkM_a27 rfl (rfl) (by omega) (by decide) (fh_d d_Mo_setAccent 41 rfl) ?_
    refine fn_iast (f := A 24) (k := n0) hx hb hK hP hS 0 mkM_a24 rfl (rfl) (by omega) (by decide) (fh_d d_Mo_setAccent 42 rfl) (fun H locs hP hS => ?_)
    replace hP := fh_P.eq (h' := mkM ct x g (up2 (up2 (up2 (up2 A 29 (upd (A 29) u 0)) 30 (upd (A 30) u 0)) 22 (upd (A 22) n0 ((A 25) u))) 24 (upd (A 24) n0 ((A 27) u))) th co at_ wr no nu op pi wi he de) hP mkM_u24
    refine lv_aload_n hx hb (fh_d d_Mo_setAccent 43 rfl) rfl (lv_at hl 3 rfl) ?_
    refine fh_get (own := "FormulaSetterModel") (ref := "FormulaSetterModel") (C := "FormulaSetterModel") (T := T_Mo) (N := 53) (v := .ref (x + 36)) hx hb hT i_Mo hown hK hP mkM_o rfl 42 (by decide) (hT _ w902) (fun _ h9 => h9) rfl (fh_d d_Mo_setAccent 44 rfl) ?_
    refine lv_iload_n hx hb (fh_d d_Mo_setAccent 45 rfl) rfl (lv_at hl 4 rfl) ?_
    refine lv_aload_n hx hb (fh_d d_Mo_setAccent 46 rfl) rfl (lv_at hl 3 rfl) ?_
    refine fh_get (own := "FormulaSetterModel") (ref := "FormulaSetterModel") (C := "FormulaSetterModel") (T := T_Mo) (N := 53) (v := .ref (x + 2)) hx hb hT i_Mo hown hK hP mkM_o rfl 7 (by decide) (hT _ w867) (fun _ h9 => h9) rfl (fh_d d_Mo_setAccent 47 rfl) ?_
    refine lv_iload_n hx hb (fh_d d_Mo_setAccent 48 rfl) rfl (lv_at hl 4 rfl) ?_
    refine fn_iald (f := A 1) (k := n0) hx hb hK hP 0 mkM_a1 rfl (rfl) (by omega) (by decide) (fh_d d_Mo_setAccent 49 rfl) ?_
    refine lv_bipush (v := 6) hx hb (fh_d d_Mo_setAccent 50 rfl) (by decide) ?_
    refine lv_icmp_ne (tgt := 104) hx hb (fh_d d_Mo_setAccent 51 rfl) rfl (fun c10 => ?_) (fun c10 => absurd c10 (hh))
    refine lv_aload_n hx hb (fh_d d_Mo_setAccent 63 rfl) rfl (lv_at hl 3 rfl) ?_
    refine fh_get (own := "FormulaSetterModel") (ref := "FormulaSetterModel") (C := "FormulaSetterModel") (T := T_Mo) (N := 53) (v := .ref (x + 27)) hx hb hT i_Mo hown hK hP mkM_o rfl 33 (by decide) (hT _ w893) (fun _ h9 => h9) rfl (fh_d d_Mo_setAccent 64 rfl) ?_
    refine lv_iload hx hb (fh_d d_Mo_setAccent 65 rfl) (lv_at hl 0 rfl) ?_
    refine fn_iald (f := A 26) (k := u) hx hb hK hP 0 mkM_a26 rfl (rfl) (by omega) (by decide) (fh_d d_Mo_setAccent 66 rfl) ?_
    refine lv_iload_n hx hb (fh_d d_Mo_setAccent 67 rfl) rfl (lv_at hl 1 rfl) ?_
    refine lv_iadd hx hb (fh_d d_Mo_setAccent 68 rfl) ?_
    refine fn_iast (f := A 35) (k := n0) hx hb hK hP hS 0 mkM_a35 rfl (rfl) (by omega) (by decide) (fh_d d_Mo_setAccent 69 rfl) (fun H locs hP hS => ?_)
    replace hP := fh_P.eq (h' := mkM ct x g (up2 (up2 (up2 (up2 (up2 A 29 (upd (A 29) u 0)) 30 (upd (A 30) u 0)) 22 (upd (A 22) n0 ((A 25) u))) 24 (upd (A 24) n0 ((A 27) u))) 35 (upd (A 35) n0 (((A 26) u) + (yT s0)))) th co at_ wr no nu op pi wi he de) hP mkM_u35
    refine lv_aload_n hx hb (fh_d d_Mo_setAccent 70 rfl) rfl (lv_at hl 3 rfl) ?_
    refine fh_get (own := "FormulaSetterModel") (ref := "FormulaSetterModel") (C := "FormulaSetterModel") (T := T_Mo) (N := 53) (v := .ref (x + 24)) hx hb hT i_Mo hown hK hP mkM_o rfl 30 (by decide) (hT _ w890) (fun _ h9 => h9) rfl (fh_d d_Mo_setAccent 71 rfl) ?_
    refine lv_iload_n hx hb (fh_d d_Mo_setAccent 72 rfl) rfl (lv_at hl 4 rfl) ?_
    refine lv_aload_n hx hb (fh_d d_Mo_setAccent 73 rfl) rfl (lv_at hl 3 rfl) ?_
    refine fh_get (own := "FormulaSetterModel") (ref := "FormulaSetterModel") (C := "FormulaSetterModel") (T := T_Mo) (N := 53) (v := .ref (x + 2)) hx hb hT i_Mo hown hK hP mkM_o rfl 7 (by decide) (hT _ w867) (fun _ h9 => h9) rfl (fh_d d_Mo_setAccent 74 rfl) ?_
    refine lv_iload_n hx hb (fh_d d_Mo_setAccent 75 rfl) rfl (lv_at hl 4 rfl) ?_
    refine fn_iald (f := A 1) (k := n0) hx hb hK hP 0 mkM_a1 rfl (rfl) (by omega) (by decide) (fh_d d_Mo_setAccent 76 rfl) ?_
    refine lv_bipush (v := 6) hx hb (fh_d d_Mo_setAccent 77 rfl) (by decide) ?_
    refine lv_icmp_ne (tgt := 156) hx hb (fh_d d_Mo_setAccent 78 rfl) rfl (fun c11 => ?_) (fun c11 => absurd c11 (hh))
    refine lv_aload_n hx hb (fh_d d_Mo_setAccent 93 rfl) rfl (lv_at hl 3 rfl) ?_
    refine fh_get (own := "FormulaSetterModel") (ref := "FormulaSetterModel") (C := "FormulaSetterModel") (T := T_Mo) (N := 53) (v := .ref (x + 27)) hx hb hT i_Mo hown hK hP mkM_o rfl 33 (by decide) (hT _ w893) (fun _ h9 => h9) rfl (fh_d d_Mo_setAccent 94 rfl) ?_
    refine lv_iload hx hb (fh_d d_Mo_setAccent 95 rfl) (lv_at hl 0 rfl) ?_
    refine fn_iald (f := A 26) (k := u) hx hb hK hP 0 mkM_a26 rfl (rfl) (by omega) (by decide) (fh_d d_Mo_setAccent 96 rfl) ?_
    refine lv_iconst (v := 3) hx hb (fh_d d_Mo_setAccent 97 rfl) (by decide) ?_
    refine lv_iload_n hx hb (fh_d d_Mo_setAccent 98 rfl) rfl (lv_at hl 1 rfl) ?_
    refine lv_imul hx hb (fh_d d_Mo_setAccent 99 rfl) ?_
    refine lv_iadd hx hb (fh_d d_Mo_setAccent 100 rfl) ?_
    refine fn_iast (f := A 23) (k := n0) hx hb hK hP hS 0 mkM_a23 rfl (rfl) (by omega) (by decide) (fh_d d_Mo_setAccent 101 rfl) (fun H locs hP hS => ?_)
    replace hP := fh_P.eq (h' := mkM ct x g (up2 (up2 (up2 (up2 (up2 (up2 A 29 (upd (A 29) u 0)) 30 (upd (A 30) u 0)) 22 (upd (A 22) n0 ((A 25) u))) 24 (upd (A 24) n0 ((A 27) u))) 35 (upd (A 35) n0 (((A 26) u) + (yT s0)))) 23 (upd (A 23) n0 (((A 26) u) + (3 * (yT s0))))) th co at_ wr no nu op pi wi he de) hP mkM_u23
    exact fh_vret X hP hS (fh_d d_Mo_setAccent 102 rfl) ⟨rfl, by unfold rf_ac; rw [if_neg hh]; (try rfl), rfl⟩

def rf_lf (A : Nat → Nat → Int32) (n0 s0 u : Nat) : Nat → Nat → Int32 := if A 2 n0 = 46 then (if A 3 n0 = 46 then (up2 (up2 (up2 (up2 (up2 (up2 (up2 A 34 (upd (A 34) n0 (yTa s0 (2 * (ms (ms (((A 26) u) - (yX s0)) (((A 27) u) + (yX s0))) (4 * (yS s0))))))) 35 (upd (A 35) n0 ((yX s0) - ((yTa s0 (2 * (ms (ms (((A 26) u) - (yX s0)) (((A 27) u) + (yX s0))) (4 * (yS s0))))) / 2)))) 29 (upd (A 29) u 0)) 30 (upd (A 30) u 0)) 22 (upd (A 22) n0 ((0 + ((A 25) u)) + 0))) 23 (upd (A 23) n0 ((A 26) u))) 24 (upd (A 24) n0 ((A 27) u))) else (up2 (up2 (up2 (up2 (up2 (up2 (up2 A 34 (upd (A 34) n0 (yTa s0 (2 * (ms (ms (((A 26) u) - (yX s0)) (((A 27) u) + (yX s0))) (4 * (yS s0))))))) 35 (upd (A 35) n0 ((yX s0) - ((yTa s0 (2 * (ms (ms (((A 26) u) - (yX s0)) (((A 27) u) + (yX s0))) (4 * (yS s0))))) / 2)))) 29 (upd (A 29) u 0)) 30 (upd (A 30) u 0)) 22 (upd (A 22) n0 ((0 + ((A 25) u)) + (4 * (yS s0))))) 23 (upd (A 23) n0 (ms ((A 26) u) ((yX s0) + ((yTa s0 (2 * (ms (ms (((A 26) u) - (yX s0)) (((A 27) u) + (yX s0))) (4 * (yS s0))))) / 2))))) 24 (upd (A 24) n0 (ms ((A 27) u) (((yTa s0 (2 * (ms (ms (((A 26) u) - (yX s0)) (((A 27) u) + (yX s0))) (4 * (yS s0))))) / 2) - (yX s0)))))) else (if A 3 n0 = 46 then (up2 (up2 (up2 (up2 (up2 (up2 (up2 A 34 (upd (A 34) n0 (yTa s0 (2 * (ms (ms (((A 26) u) - (yX s0)) (((A 27) u) + (yX s0))) (4 * (yS s0))))))) 35 (upd (A 35) n0 ((yX s0) - ((yTa s0 (2 * (ms (ms (((A 26) u) - (yX s0)) (((A 27) u) + (yX s0))) (4 * (yS s0))))) / 2)))) 29 (upd (A 29) u (4 * (yS s0)))) 30 (upd (A 30) u 0)) 22 (upd (A 22) n0 (((4 * (yS s0)) + ((A 25) u)) + 0))) 23 (upd (A 23) n0 (ms ((A 26) u) ((yX s0) + ((yTa s0 (2 * (ms (ms (((A 26) u) - (yX s0)) (((A 27) u) + (yX s0))) (4 * (yS s0))))) / 2))))) 24 (upd (A 24) n0 (ms ((A 27) u) (((yTa s0 (2 * (ms (ms (((A 26) u) - (yX s0)) (((A 27) u) + (yX s0))) (4 * (yS s0))))) / 2) - (yX s0))))) else (up2 (up2 (up2 (up2 (up2 (up2 (up2 A 34 (upd (A 34) n0 (yTa s0 (2 * (ms (ms (((A 26) u) - (yX s0)) (((A 27) u) + (yX s0))) (4 * (yS s0))))))) 35 (upd (A 35) n0 ((yX s0) - ((yTa s0 (2 * (ms (ms (((A 26) u) - (yX s0)) (((A 27) u) + (yX s0))) (4 * (yS s0))))) / 2)))) 29 (upd (A 29) u (4 * (yS s0)))) 30 (upd (A 30) u 0)) 22 (upd (A 22) n0 (((4 * (yS s0)) + ((A 25) u)) + (4 * (yS s0))))) 23 (upd (A 23) n0 (ms ((A 26) u) ((yX s0) + ((yTa s0 (2 * (ms (ms (((A 26) u) - (yX s0)) (((A 27) u) + (yX s0))) (4 * (yS s0))))) / 2))))) 24 (upd (A 24) n0 (ms ((A 27) u) (((yTa s0 (2 * (ms (ms (((A 26) u) - (yX s0)) (((A 27) u) + (yX s0))) (4 * (yS s0))))) / 2) - (yX s0))))))
set_option maxHeartbeats 4000000 in
set_option maxRecDepth 100000 in
theorem m_Mo_setLeft (l : Launch) (D : va_G) (ct : Nat → ClassId) (b : Nat) (RO : State → Prop) (hR : fh_R b RO) (r : Nat) (hr : 2 ≤ r) (n x : Nat) (g : fh_H) (A : Nat → Nat → Int32) (th co at_ wr no nu op pi wi he de : Int32) (n0 : Nat) (hn0 : n0 < 400) (s0 : Nat) (hs0 : s0 < 4) (h20 : A 20 n0 = nI s0) (u : Nat) (hu : u < 400) (h10 : A 10 n0 = nI u) (kT : Nat) (hkT : kT ≤ 1000000000) (hTl : 2 * ms (ms (A 26 u - yX s0) (A 27 u + yX s0)) (4 * yS s0) = nI kT) : fh_C l D fh_cl (fh_tys ct) b RO y_Mo_setLeft (Cond.code y_Mo_setLeft c_Mo_setLeft 7 (Option.none : Option FieldType) :: fh_T) (fh_rm r 0 0) [.ref x, .int (nI n0)] (mkM ct x g A th co at_ wr no nu op pi wi he de) n (fun v h' n' => v = none ∧ h' = mkM ct x g (rf_lf A n0 s0 u) th co at_ wr no nu op pi wi he de ∧ n' = n) 0 0 := by
  refine fh_enter (by decide) (Nat.le_of_ble_eq_true rfl) [(0, .ref x), (1, .int (nI n0))] rfl ?_
  intro p e s m args below meth c H ls X hP hS hl
  have hx := X.1
  have hb := X.2.1
  have hml := X.2.2.1
  have hown : s.vm.findClass "FormulaSetterModel" = some m.cls := X.2.2.2.1
  have hT := X.2.2.2.2.1
  have hK := X.2.2.2.2.2.1
  have hRO := X.2.2.2.2.2.2.1
  have hnm : meth.name = "setLeft" := X.2.2.2.2.2.2.2.2.2.2
  by_cases ha9 : A 2 n0 = 46
  · skip
    by_cases hb9 : A 3 n0 = 46
    · skip
      refine lv_aload_n hx hb (fh_d d_Mo_setLeft 0 rfl) rfl (lv_at hl 0 rfl) ?_
      refine fh_get (own := "FormulaSetterModel") (ref := "FormulaSetterModel") (C := "FormulaSetterModel") (T := T_Mo) (N := 53) (v := .ref (x + 21)) hx hb hT i_Mo hown hK hP mkM_o rfl 27 (by decide) (hT _ w887) (fun _ h9 => h9) rfl (fh_d d_Mo_setLeft 1 rfl) ?_
      refine lv_iload_n hx hb (fh_d d_Mo_setLeft 2 rfl) rfl (lv_at hl 1 rfl) ?_
      refine fn_iald (f := A 20) (k := n0) hx hb hK hP 0 mkM_a20 rfl (rfl) (by omega) (by decide) (fh_d d_Mo_setLeft 3 rfl) ?_
      rw [show ((A 20) n0) = nI s0 from h20]
      refine fh_callS (cc' := c_Mo_zOf) (nL' := 1) (rest := []) (av := [.int (nI s0)]) X hR (m_Mo_zO l D ct b RO hR (r - 1) (by omega) n s0 hs0 (mkM ct x g A th co at_ wr no nu op pi wi he de)) w1139 w1137 w1138 w9 ⟨by decide, by decide, by show _ = some 1; decide +kernel⟩ (by omega) (by decide) hP hS hl.1 rfl (by exact Nat.le_of_ble_eq_true rfl) (fh_d d_Mo_setLeft 4 rfl) ⟨Nat.le_refl _, Nat.le_refl _⟩ (fun v9 h9 n9 H locs hq hP hS => ?_)
      obtain ⟨rfl, q1a, q1b⟩ := hq
      rw [q1a, q1b] at hP
      refine W.eq (g2 := F0 m 9 ls [.int (yS s0)]) rfl ?_
      refine lv_istore_n (lv' := [(2, .int (yS s0)), (0, .ref x), (1, .int (nI n0))]) hx hb (fh_d d_Mo_setLeft 5 rfl) rfl hl (by decide) rfl (fun ls hl => ?_)
      refine lv_aload_n hx hb (fh_d d_Mo_setLeft 6 rfl) rfl (lv_at hl 1 rfl) ?_
      refine fh_get (own := "FormulaSetterModel") (ref := "FormulaSetterModel") (C := "FormulaSetterModel") (T := T_Mo) (N := 53) (v := .ref (x + 21)) hx hb hT i_Mo hown hK hP mkM_o rfl 27 (by decide) (hT _ w887) (fun _ h9 => h9) rfl (fh_d d_Mo_setLeft 7 rfl) ?_
      refine lv_iload_n hx hb (fh_d d_Mo_setLeft 8 rfl) rfl (lv_at hl 2 rfl) ?_
      refine fn_iald (f := A 20) (k := n0) hx hb hK hP 0 mkM_a20 rfl (rfl) (by omega) (by decide) (fh_d d_Mo_setLeft 9 rfl) ?_
      rw [show ((A 20) n0) = nI s0 from h20]
      refine fh_callS (cc' := c_Mo_axisOf) (nL' := 1) (rest := []) (av := [.int (nI s0)]) X hR (m_Mo_xO l D ct b RO hR (r - 1) (by omega) n s0 hs0 (mkM ct x g A th co at_ wr no nu op pi wi he de)) w1167 w1165 w1166 w9 ⟨by decide, by decide, by show _ = some 1; decide +kernel⟩ (by omega) (by decide) hP hS hl.1 rfl (by exact Nat.le_of_ble_eq_true rfl) (fh_d d_Mo_setLeft 10 rfl) ⟨Nat.le_refl _, Nat.le_refl _⟩ (fun v9 h9 n9 H locs hq hP hS => ?_)
      obtain ⟨rfl, q2a, q2b⟩ := hq
      rw [q2a, q2b] at hP
      refine W.eq (g2 := F0 m 19 ls [.int (yX s0)]) rfl ?_
      refine lv_istore_n (lv' := [(3, .int (yX s0)), (2, .int (yS s0)), (0, .ref x), (1, .int (nI n0))]) hx hb (fh_d d_Mo_setLeft 11 rfl) rfl hl (by decide) rfl (fun ls hl => ?_)
      refine lv_aload_n hx hb (fh_d d_Mo_setLeft 12 rfl) rfl (lv_at hl 2 rfl) ?_
      refine fh_get (own := "FormulaSetterModel") (ref := "FormulaSetterModel") (C := "FormulaSetterModel") (T := T_Mo) (N := 53) (v := .ref (x + 11)) hx hb hT i_Mo hown hK hP mkM_o rfl 16 (by decide) (hT _ w876) (fun _ h9 => h9) rfl (fh_d d_Mo_setLeft 13 rfl) ?_
      refine lv_iload_n hx hb (fh_d d_Mo_setLeft 14 rfl) rfl (lv_at hl 3 rfl) ?_
      refine fn_iald (f := A 10) (k := n0) hx hb hK hP 0 mkM_a10 rfl (rfl) (by omega) (by decide) (fh_d d_Mo_setLeft 15 rfl) ?_
      rw [show ((A 10) n0) = nI u from h10]
      refine lv_istore (lv' := [(4, .int (nI u)), (3, .int (yX s0)), (2, .int (yS s0)), (0, .ref x), (1, .int (nI n0))]) hx hb (fh_d d_Mo_setLeft 16 rfl) hl (by decide) rfl (fun ls hl => ?_)
      refine lv_aload_n hx hb (fh_d d_Mo_setLeft 17 rfl) rfl (lv_at hl 3 rfl) ?_
      refine fh_get (own := "FormulaSetterModel") (ref := "FormulaSetterModel") (C := "FormulaSetterModel") (T := T_Mo) (N := 53) (v := .ref (x + 35)) hx hb hT i_Mo hown hK hP mkM_o rfl 41 (by decide) (hT _ w901) (fun _ h9 => h9) rfl (fh_d d_Mo_setLeft 18 rfl) ?_
      refine lv_iload_n hx hb (fh_d d_Mo_setLeft 19 rfl) rfl (lv_at hl 4 rfl) ?_
      refine lv_iconst (v := 2) hx hb (fh_d d_Mo_setLeft 20 rfl) (by decide) ?_
      refine lv_aload_n hx hb (fh_d d_Mo_setLeft 21 rfl) rfl (lv_at hl 3 rfl) ?_
      refine fh_get (own := "FormulaSetterModel") (ref := "FormulaSetterModel") (C := "FormulaSetterModel") (T := T_Mo) (N := 53) (v := .ref (x + 27)) hx hb hT i_Mo hown hK hP mkM_o rfl 33 (by decide) (hT _ w893) (fun _ h9 => h9) rfl (fh_d d_Mo_setLeft 22 rfl) ?_
      refine lv_iload hx hb (fh_d d_Mo_setLeft 23 rfl) (lv_at hl 0 rfl) ?_
      refine fn_iald (f := A 26) (k := u) hx hb hK hP 0 mkM_a26 rfl (rfl) (by omega) (by decide) (fh_d d_Mo_setLeft 24 rfl) ?_
      refine lv_iload_n hx hb (fh_d d_Mo_setLeft 25 rfl) rfl (lv_at hl 1 rfl) ?_
      refine lv_isub hx hb (fh_d d_Mo_setLeft 26 rfl) ?_
      refine lv_aload_n hx hb (fh_d d_Mo_setLeft 27 rfl) rfl (lv_at hl 3 rfl) ?_
      refine fh_get (own := "FormulaSetterModel") (ref := "FormulaSetterModel") (C := "FormulaSetterModel") (T := T_Mo) (N := 53) (v := .ref (x + 28)) hx hb hT i_Mo hown hK hP mkM_o rfl 34 (by decide) (hT _ w894) (fun _ h9 => h9) rfl (fh_d d_Mo_setLeft 28 rfl) ?_
      refine lv_iload hx hb (fh_d d_Mo_setLeft 29 rfl) (lv_at hl 0 rfl) ?_
      refine fn_iald (f := A 27) (k := u) hx hb hK hP 0 mkM_a27 rfl (rfl) (by omega) (by decide) (fh_d d_Mo_setLeft 30 rfl) ?_
      refine lv_iload_n hx hb (fh_d d_Mo_setLeft 31 rfl) rfl (lv_at hl 1 rfl) ?_
      refine lv_iadd hx hb (fh_d d_Mo_setLeft 32 rfl) ?_
      refine fh_callS (cc' := c_Mo_most) (nL' := 2) (rest := [.int 2, .int (nI n0), .ref (x + 35)]) (av := [.int (((A 26) u) - (yX s0)), .int (((A 27) u) + (yX s0))]) X hR (m_Mo_most l D ct b RO (r - 1) n (((A 26) u) - (yX s0)) (((A 27) u) + (yX s0)) (mkM ct x g A th co at_ wr no nu op pi wi he de)) w1151 w1149 w1150 w9 ⟨by decide, by decide, by show _ = some 2; decide +kernel⟩ (by omega) (by decide) hP hS hl.1 rfl (by exact Nat.le_of_ble_eq_true rfl) (fh_d d_Mo_setLeft 33 rfl) ⟨Nat.le_refl _, Nat.le_refl _⟩ (fun v9 h9 n9 H locs hq hP hS => ?_)
      obtain ⟨rfl, q3a, q3b⟩ := hq
      rw [q3a, q3b] at hP
      refine W.eq (g2 := F0 m 55 ls [.int (ms (((A 26) u) - (yX s0)) (((A 27) u) + (yX s0))), .int 2, .int (nI n0), .ref (x + 35)]) rfl ?_
      refine lv_iconst (v := 4) hx hb (fh_d d_Mo_setLeft 34 rfl) (by decide) ?_
      refine lv_iload_n hx hb (fh_d d_Mo_setLeft 35 rfl) rfl (lv_at hl 2 rfl) ?_
      refine lv_imul hx hb (fh_d d_Mo_setLeft 36 rfl) ?_
      refine fh_callS (cc' := c_Mo_most) (nL' := 2) (rest := [.int 2, .int (nI n0), .ref (x + 35)]) (av := [.int (ms (((A 26) u) - (yX s0)) (((A 27) u) + (yX s0))), .int (4 * (yS s0))]) X hR (m_Mo_most l D ct b RO (r - 1) n (ms (((A 26) u) - (yX s0)) (((A 27) u) + (yX s0))) (4 * (yS s0)) (mkM ct x g A th co at_ wr no nu op pi wi he de)) w1151 w1149 w1150 w9 ⟨by decide, by decide, by show _ = some 2; decide +kernel⟩ (by omega) (by decide) hP hS hl.1 rfl (by exact Nat.le_of_ble_eq_true rfl) (fh_d d_Mo_setLeft 37 rfl) ⟨Nat.le_refl _, Nat.le_refl _⟩ (fun v9 h9 n9 H locs hq hP hS => ?_)
      obtain ⟨rfl, q4a, q4b⟩ := hq
      rw [q4a, q4b] at hP
      refine W.eq (g2 := F0 m 61 ls [.int (ms (ms (((A 26) u) - (yX s0)) (((A 27) u) + (yX s0))) (4 * (yS s0))), .int 2, .int (nI n0), .ref (x + 35)]) rfl ?_
      refine lv_imul hx hb (fh_d d_Mo_setLeft 38 rfl) ?_
      refine lv_iload_n hx hb (fh_d d_Mo_setLeft 39 rfl) rfl (lv_at hl 2 rfl) ?_
      have hT9 : 2 * (ms (ms (((A 26) u) - (yX s0)) (((A 27) u) + (yX s0))) (4 * (yS s0))) = nI kT := by exact hTl
      rw [hT9]
      refine fh_callS (cc' := c_Mo_tallFor) (nL' := 3) (rest := [.int (nI n0), .ref (x + 35)]) (av := [.int (nI kT), .int (yS s0)]) X hR (m_Mo_tallFor l D ct b RO (r - 1) n s0 hs0 kT hkT (mkM ct x g A th co at_ wr no nu op pi wi he de)) w1181 w1179 w1180 w9 ⟨by decide, by decide, by show _ = some 2; decide +kernel⟩ (by omega) (by decide) hP hS hl.1 rfl (by exact Nat.le_of_ble_eq_true rfl) (fh_d d_Mo_setLeft 40 rfl) ⟨Nat.le_refl _, Nat.le_refl _⟩ (fun v9 h9 n9 H locs hq hP hS => ?_)
      obtain ⟨rfl, q5a, q5b⟩ := hq
      rw [q5a, q5b] at hP
      refine W.eq (g2 := F0 m 66 ls [.int (yTa s0 (nI kT)), .int (nI n0), .ref (x + 35)]) rfl ?_
      rw [← hT9]
      refine W.eq (g2 := F0 m 66 ls [.int (yTa s0 (2 * (ms (ms (((A 26) u) - (yX s0)) (((A 27) u) + (yX s0))) (4 * (yS s0))))), .int (nI n0), .ref (x + 35)]) rfl ?_
      refine fn_iast (f := A 34) (k := n0) hx hb hK hP hS 0 mkM_a34 rfl (rfl) (by omega) (by decide) (fh_d d_Mo_setLeft 41 rfl) (fun H locs hP hS => ?_)
      replace hP := fh_P.eq (h' := mkM ct x g (up2 A 34 (upd (A 34) n0 (yTa s0 (2 * (ms (ms (((A 26) u) - (yX s0)) (((A 27) u) + (yX s0))) (4 * (yS s0))))))) th co at_ wr no nu op pi wi he de) hP mkM_u34
      refine lv_aload_n hx hb (fh_d d_Mo_setLeft 42 rfl) rfl (lv_at hl 3 rfl) ?_
      refine fh_get (own := "FormulaSetterModel") (ref := "FormulaSetterModel") (C := "FormulaSetterModel") (T := T_Mo) (N := 53) (v := .ref (x + 36)) hx hb hT i_Mo hown hK hP mkM_o rfl 42 (by decide) (hT _ w902) (fun _ h9 => h9) rfl (fh_d d_Mo_setLeft 43 rfl) ?_
      refine lv_iload_n hx hb (fh_d d_Mo_setLeft 44 rfl) rfl (lv_at hl 4 rfl) ?_
      refine lv_iload_n hx hb (fh_d d_Mo_setLeft 45 rfl) rfl (lv_at hl 1 rfl) ?_
      refine lv_aload_n hx hb (fh_d d_Mo_setLeft 46 rfl) rfl (lv_at hl 3 rfl) ?_
      refine fh_get (own := "FormulaSetterModel") (ref := "FormulaSetterModel") (C := "FormulaSetterModel") (T := T_Mo) (N := 53) (v := .ref (x + 35)) hx hb hT i_Mo hown hK hP mkM_o rfl 41 (by decide) (hT _ w901) (fun _ h9 => h9) rfl (fh_d d_Mo_setLeft 47 rfl) ?_
      refine lv_iload_n hx hb (fh_d d_Mo_setLeft 48 rfl) rfl (lv_at hl 4 rfl) ?_
      refine fn_iald (f := upd (A 34) n0 (yTa s0 (2 * (ms (ms (((A 26) u) - (yX s0)) (((A 27) u) + (yX s0))) (4 * (yS s0)))))) (k := n0) hx hb hK hP 0 mkM_a34 rfl (rfl) (by omega) (by decide) (fh_d d_Mo_setLeft 49 rfl) ?_
      rw [show ((upd (A 34) n0 (yTa s0 (2 * (ms (ms (((A 26) u) - (yX s0)) (((A 27) u) + (yX s0))) (4 * (yS s0)))))) n0) = (yTa s0 (2 * (ms (ms (((A 26) u) - (yX s0)) (((A 27) u) + (yX s0))) (4 * (yS s0))))) from upd_s]
      refine lv_iconst (v := 2) hx hb (fh_d d_Mo_setLeft 50 rfl) (by decide) ?_
      refine lv_idiv hx hb (fh_d d_Mo_setLeft 51 rfl) (by decide) ?_
      refine lv_isub hx hb (fh_d d_Mo_setLeft 52 rfl) ?_
      refine fn_iast (f := A 35) (k := n0) hx hb hK hP hS 0 mkM_a35 rfl (rfl) (by omega) (by decide) (fh_d d_Mo_setLeft 53 rfl) (fun H locs hP hS => ?_)
      replace hP := fh_P.eq (h' := mkM ct x g (up2 (up2 A 34 (upd (A 34) n0 (yTa s0 (2 * (ms (ms (((A 26) u) - (yX s0)) (((A 27) u) + (yX s0))) (4 * (yS s0))))))) 35 (upd (A 35) n0 ((yX s0) - ((yTa s0 (2 * (ms (ms (((A 26) u) - (yX s0)) (((A 27) u) + (yX s0))) (4 * (yS s0))))) / 2)))) th co at_ wr no nu op pi wi he de) hP mkM_u35
      refine lv_aload_n hx hb (fh_d d_Mo_setLeft 54 rfl) rfl (lv_at hl 3 rfl) ?_
      refine fh_get (own := "FormulaSetterModel") (ref := "FormulaSetterModel") (C := "FormulaSetterModel") (T := T_Mo) (N := 53) (v := .ref (x + 3)) hx hb hT i_Mo hown hK hP mkM_o rfl 8 (by decide) (hT _ w868) (fun _ h9 => h9) rfl (fh_d d_Mo_setLeft 55 rfl) ?_
      refine lv_iload_n hx hb (fh_d d_Mo_setLeft 56 rfl) rfl (lv_at hl 4 rfl) ?_
      refine fn_iald (f := A 2) (k := n0) hx hb hK hP 0 mkM_a2 rfl (rfl) (by omega) (by decide) (fh_d d_Mo_setLeft 57 rfl) ?_
      refine lv_bipush (v := 46) hx hb (fh_d d_Mo_setLeft 58 rfl) (by decide) ?_
      refine lv_icmp_eq (tgt := 98) hx hb (fh_d d_Mo_setLeft 59 rfl) rfl (fun c6 => ?_) (fun c6 => absurd c6 (Classical.not_not.mpr (ha9)))
      refine lv_iconst (v := 0) hx hb (fh_d d_Mo_setLeft 62 rfl) (by decide) ?_
      refine lv_istore (lv' := [(5, .int 0), (4, .int (nI u)), (3, .int (yX s0)), (2, .int (yS s0)), (0, .ref x), (1, .int (nI n0))]) hx hb (fh_d d_Mo_setLeft 63 rfl) hl (by decide) rfl (fun ls hl => ?_)
      refine lv_aload_n hx hb (fh_d d_Mo_setLeft 64 rfl) rfl (lv_at hl 4 rfl) ?_
      refine fh_get (own := "FormulaSetterModel") (ref := "FormulaSetterModel") (C := "FormulaSetterModel") (T := T_Mo) (N := 53) (v := .ref (x + 4)) hx hb hT i_Mo hown hK hP mkM_o rfl 9 (by decide) (hT _ w869) (fun _ h9 => h9) rfl (fh_d d_Mo_setLeft 65 rfl) ?_
      refine lv_iload_n hx hb (fh_d d_Mo_setLeft 66 rfl) rfl (lv_at hl 5 rfl) ?_
      refine fn_iald (f := A 3) (k := n0) hx hb hK hP 0 mkM_a3 rfl (rfl) (by omega) (by decide) (fh_d d_Mo_setLeft 67 rfl) ?_
      refine lv_bipush (v := 46) hx hb (fh_d d_Mo_setLeft 68 rfl) (by decide) ?_
      refine lv_icmp_eq (tgt := 116) hx hb (fh_d d_Mo_setLeft 69 rfl) rfl (fun c7 => ?_) (fun c7 => absurd c7 (Classical.not_not.mpr (hb9)))
      refine lv_iconst (v := 0) hx hb (fh_d d_Mo_setLeft 72 rfl) (by decide) ?_
      refine lv_istore (lv' := [(6, .int 0), (5, .int 0), (4, .int (nI u)), (3, .int (yX s0)), (2, .int (yS s0)), (0, .ref x), (1, .int (nI n0))]) hx hb (fh_d d_Mo_setLeft 73 rfl) hl (by decide) rfl (fun ls hl => ?_)
      refine lv_aload_n hx hb (fh_d d_Mo_setLeft 74 rfl) rfl (lv_at hl 5 rfl) ?_
      refine fh_get (own := "FormulaSetterModel") (ref := "FormulaSetterModel") (C := "FormulaSetterModel") (T := T_Mo) (N := 53) (v := .ref (x + 30)) hx hb hT i_Mo hown hK hP mkM_o rfl 36 (by decide) (hT _ w896) (fun _ h9 => h9) rfl (fh_d d_Mo_setLeft 75 rfl) ?_
      refine lv_iload hx hb (fh_d d_Mo_setLeft 76 rfl) (lv_at hl 2 rfl) ?_
      refine lv_iload hx hb (fh_d d_Mo_setLeft 77 rfl) (lv_at hl 1 rfl) ?_
      refine lv_if_eq (tgt := 136) hx hb (fh_d d_Mo_setLeft 78 rfl) rfl (fun c8 => ?_) (fun c8 => absurd c8 (Classical.not_not.mpr (by decide)))
      refine lv_iconst (v := 0) hx hb (fh_d d_Mo_setLeft 83 rfl) (by decide) ?_
      refine fn_iast (f := A 29) (k := u) hx hb hK hP hS 0 mkM_a29 rfl (rfl) (by omega) (by decide) (fh_d d_Mo_setLeft 84 rfl) (fun H locs hP hS => ?_)
      replace hP := fh_P.eq (h' := mkM ct x g (up2 (up2 (up2 A 34 (upd (A 34) n0 (yTa s0 (2 * (ms (ms (((A 26) u) - (yX s0)) (((A 27) u) + (yX s0))) (4 * (yS s0))))))) 35 (upd (A 35) n0 ((yX s0) - ((yTa s0 (2 * (ms (ms (((A 26) u) - (yX s0)) (((A 27) u) + (yX s0))) (4 * (yS s0))))) / 2)))) 29 (upd (A 29) u 0)) th co at_ wr no nu op pi wi he de) hP mkM_u29
      refine lv_aload_n hx hb (fh_d d_Mo_setLeft 85 rfl) rfl (lv_at hl 5 rfl) ?_
      refine fh_get (own := "FormulaSetterModel") (ref := "FormulaSetterModel") (C := "FormulaSetterModel") (T := T_Mo) (N := 53) (v := .ref (x + 31)) hx hb hT i_Mo hown hK hP mkM_o rfl 37 (by decide) (hT _ w897) (fun _ h9 => h9) rfl (fh_d d_Mo_setLeft 86 rfl) ?_
      refine lv_iload hx hb (fh_d d_Mo_setLeft 87 rfl) (lv_at hl 2 rfl) ?_
      refine lv_iconst (v := 0) hx hb (fh_d d_Mo_setLeft 88 rfl) (by decide) ?_
      refine fn_iast (f := A 30) (k := u) hx hb hK hP hS 0 mkM_a30 rfl (rfl) (by omega) (by decide) (fh_d d_Mo_setLeft 89 rfl) (fun H locs hP hS => ?_)
      replace hP := fh_P.eq (h' := mkM ct x g (up2 (up2 (up2 (up2 A 34 (upd (A 34) n0 (yTa s0 (2 * (ms (ms (((A 26) u) - (yX s0)) (((A 27) u) + (yX s0))) (4 * (yS s0))))))) 35 (upd (A 35) n0 ((yX s0) - ((yTa s0 (2 * (ms (ms (((A 26) u) - (yX s0)) (((A 27) u) + (yX s0))) (4 * (yS s0))))) / 2)))) 29 (upd (A 29) u 0)) 30 (upd (A 30) u 0)) th co at_ wr no nu op pi wi he de) hP mkM_u30
      refine lv_aload_n hx hb (fh_d d_Mo_setLeft 90 rfl) rfl (lv_at hl 5 rfl) ?_
      refine fh_get (own := "FormulaSetterModel") (ref := "FormulaSetterModel") (C := "FormulaSetterModel") (T := T_Mo) (N := 53) (v := .ref (x + 23)) hx hb hT i_Mo hown hK hP mkM_o rfl 29 (by decide) (hT _ w889) (fun _ h9 => h9) rfl (fh_d d_Mo_setLeft 91 rfl) ?_
      refine lv_iload_n hx hb (fh_d d_Mo_setLeft 92 rfl) rfl (lv_at hl 6 rfl) ?_
      refine lv_aload_n hx hb (fh_d d_Mo_setLeft 93 rfl) rfl (lv_at hl 5 rfl) ?_
      refine fh_get (own := "FormulaSetterModel") (ref := "FormulaSetterModel") (C := "FormulaSetterModel") (T := T_Mo) (N := 53) (v := .ref (x + 30)) hx hb hT i_Mo hown hK hP mkM_o rfl 36 (by decide) (hT _ w896) (fun _ h9 => h9) rfl (fh_d d_Mo_setLeft 94 rfl) ?_
      refine lv_iload hx hb (fh_d d_Mo_setLeft 95 rfl) (lv_at hl 2 rfl) ?_
      refine fn_iald (f := upd (A 29) u 0) (k := u) hx hb hK hP 0 mkM_a29 rfl (rfl) (by omega) (by decide) (fh_d d_Mo_setLeft 96 rfl) ?_
      rw [show ((upd (A 29) u 0) u) = 0 from upd_s]
      refine lv_aload_n hx hb (fh_d d_Mo_setLeft 97 rfl) rfl (lv_at hl 5 rfl) ?_
      refine fh_get (own := "FormulaSetterModel") (ref := "FormulaSetterModel") (C := "FormulaSetterModel") (T := T_Mo) (N := 53) (v := .ref (x + 26)) hx hb hT i_Mo hown hK hP mkM_o rfl 32 (by decide) (hT _ w892) (fun _ h9 => h9) rfl (fh_d d_Mo_setLeft 98 rfl) ?_
      refine lv_iload hx hb (fh_d d_Mo_setLeft 99 rfl) (lv_at hl 2 rfl) ?_
      refine fn_iald (f := A 25) (k := u) hx hb hK hP 0 mkM_a25 rfl (rfl) (by omega) (by decide) (fh_d d_Mo_setLeft 100 rfl) ?_
      refine lv_iadd hx hb (fh_d d_Mo_setLeft 101 rfl) ?_
      refine lv_iload hx hb (fh_d d_Mo_setLeft 102 rfl) (lv_at hl 0 rfl) ?_
      refine lv_if_eq (tgt := 177) hx hb (fh_d d_Mo_setLeft 103 rfl) rfl (fun c9 => ?_) (fun c9 => absurd c9 (Classical.not_not.mpr (by decide)))
      refine lv_iconst (v := 0) hx hb (fh_d d_Mo_setLeft 108 rfl) (by decide) ?_
      refine lv_iadd hx hb (fh_d d_Mo_setLeft 109 rfl) ?_
      refine fn_iast (f := A 22) (k := n0) hx hb hK hP hS 0 mkM_a22 rfl (rfl) (by omega) (by decide) (fh_d d_Mo_setLeft 110 rfl) (fun H locs hP hS => ?_)
      replace hP := fh_P.eq (h' := mkM ct x g (up2 (up2 (up2 (up2 (up2 A 34 (upd (A 34) n0 (yTa s0 (2 * (ms (ms (((A 26) u) - (yX s0)) (((A 27) u) + (yX s0))) (4 * (yS s0))))))) 35 (upd (A 35) n0 ((yX s0) - ((yTa s0 (2 * (ms (ms (((A 26) u) - (yX s0)) (((A 27) u) + (yX s0))) (4 * (yS s0))))) / 2)))) 29 (upd (A 29) u 0)) 30 (upd (A 30) u 0)) 22 (upd (A 22) n0 ((0 + ((A 25) u)) + 0))) th co at_ wr no nu op pi wi he de) hP mkM_u22
      refine lv_aload_n hx hb (fh_d d_Mo_setLeft 111 rfl) rfl (lv_at hl 5 rfl) ?_
      refine fh_get (own := "FormulaSetterModel") (ref := "FormulaSetterModel") (C := "FormulaSetterModel") (T := T_Mo) (N := 53) (v := .ref (x + 24)) hx hb hT i_Mo hown hK hP mkM_o rfl 30 (by decide) (hT _ w890) (fun _ h9 => h9) rfl (fh_d d_Mo_setLeft 112 rfl) ?_
      refine lv_iload_n hx hb (fh_d d_Mo_setLeft 113 rfl) rfl (lv_at hl 6 rfl) ?_
      refine lv_iload hx hb (fh_d d_Mo_setLeft 114 rfl) (lv_at hl 1 rfl) ?_
      refine lv_if_ne (tgt := 195) hx hb (fh_d d_Mo_setLeft 115 rfl) rfl (fun c10 => absurd c10 (Classical.not_not.mpr (by decide))) (fun c10 => ?_)
      refine lv_iload hx hb (fh_d d_Mo_setLeft 116 rfl) (lv_at hl 0 rfl) ?_
      refine lv_if_eq (tgt := 218) hx hb (fh_d d_Mo_setLeft 117 rfl) rfl (fun c11 => ?_) (fun c11 => absurd c11 (Classical.not_not.mpr (by decide)))
      refine lv_aload_n hx hb (fh_d d_Mo_setLeft 132 rfl) rfl (lv_at hl 5 rfl) ?_
      refine fh_get (own := "FormulaSetterModel") (ref := "FormulaSetterModel") (C := "FormulaSetterModel") (T := T_Mo) (N := 53) (v := .ref (x + 27)) hx hb hT i_Mo hown hK hP mkM_o rfl 33 (by decide) (hT _ w893) (fun _ h9 => h9) rfl (fh_d d_Mo_setLeft 133 rfl) ?_
      refine lv_iload hx hb (fh_d d_Mo_setLeft 134 rfl) (lv_at hl 2 rfl) ?_
      refine fn_iald (f := A 26) (k := u) hx hb hK hP 0 mkM_a26 rfl (rfl) (by omega) (by decide) (fh_d d_Mo_setLeft 135 rfl) ?_
      refine fn_iast (f := A 23) (k := n0) hx hb hK hP hS 0 mkM_a23 rfl (rfl) (by omega) (by decide) (fh_d d_Mo_setLeft 136 rfl) (fun H locs hP hS => ?_)
      replace hP := fh_P.eq (h' := mkM ct x g (up2 (up2 (up2 (up2 (up2 (up2 A 34 (upd (A 34) n0 (yTa s0 (2 * (ms (ms (((A 26) u) - (yX s0)) (((A 27) u) + (yX s0))) (4 * (yS s0))))))) 35 (upd (A 35) n0 ((yX s0) - ((yTa s0 (2 * (ms (ms (((A 26) u) - (yX s0)) (((A 27) u) + (yX s0))) (4 * (yS s0))))) / 2)))) 29 (upd (A 29) u 0)) 30 (upd (A 30) u 0)) 22 (upd (A 22) n0 ((0 + ((A 25) u)) + 0))) 23 (upd (A 23) n0 ((A 26) u))) th co at_ wr no nu op pi wi he de) hP mkM_u23
      refine lv_aload_n hx hb (fh_d d_Mo_setLeft 137 rfl) rfl (lv_at hl 5 rfl) ?_
      refine fh_get (own := "FormulaSetterModel") (ref := "FormulaSetterModel") (C := "FormulaSetterModel") (T := T_Mo) (N := 53) (v := .ref (x + 25)) hx hb hT i_Mo hown hK hP mkM_o rfl 31 (by decide) (hT _ w891) (fun _ h9 => h9) rfl (fh_d d_Mo_setLeft 138 rfl) ?_
      refine lv_iload_n hx hb (fh_d d_Mo_setLeft 139 rfl) rfl (lv_at hl 6 rfl) ?_
      refine lv_iload hx hb (fh_d d_Mo_setLeft 140 rfl) (lv_at hl 1 rfl) ?_
      refine lv_if_ne (tgt := 241) hx hb (fh_d d_Mo_setLeft 141 rfl) rfl (fun c12 => absurd c12 (Classical.not_not.mpr (by decide))) (fun c12 => ?_)
      refine lv_iload hx hb (fh_d d_Mo_setLeft 142 rfl) (lv_at hl 0 rfl) ?_
      refine lv_if_eq (tgt := 264) hx hb (fh_d d_Mo_setLeft 143 rfl) rfl (fun c13 => ?_) (fun c13 => absurd c13 (Classical.not_not.mpr (by decide)))
      refine lv_aload_n hx hb (fh_d d_Mo_setLeft 158 rfl) rfl (lv_at hl 5 rfl) ?_
      refine fh_get (own := "FormulaSetterModel") (ref := "FormulaSetterModel") (C := "FormulaSetterModel") (T := T_Mo) (N := 53) (v := .ref (x + 28)) hx hb hT i_Mo hown hK hP mkM_o rfl 34 (by decide) (hT _ w894) (fun _ h9 => h9) rfl (fh_d d_Mo_setLeft 159 rfl) ?_
      refine lv_iload hx hb (fh_d d_Mo_setLeft 160 rfl) (lv_at hl 2 rfl) ?_
      refine fn_iald (f := A 27) (k := u) hx hb hK hP 0 mkM_a27 rfl (rfl) (by omega) (by decide) (fh_d d_Mo_setLeft 161 rfl) ?_
      refine fn_iast (f := A 24) (k := n0) hx hb hK hP hS 0 mkM_a24 rfl (rfl) (by omega) (by decide) (fh_d d_Mo_setLeft 162 rfl) (fun H locs hP hS => ?_)
      replace hP := fh_P.eq (h' := mkM ct x g (up2 (up2 (up2 (up2 (up2 (up2 (up2 A 34 (upd (A 34) n0 (yTa s0 (2 * (ms (ms (((A 26) u) - (yX s0)) (((A 27) u) + (yX s0))) (4 * (yS s0))))))) 35 (upd (A 35) n0 ((yX s0) - ((yTa s0 (2 * (ms (ms (((A 26) u) - (yX s0)) (((A 27) u) + (yX s0))) (4 * (yS s0))))) / 2)))) 29 (upd (A 29) u 0)) 30 (upd (A 30) u 0)) 22 (upd (A 22) n0 ((0 + ((A 25) u)) + 0))) 23 (upd (A 23) n0 ((A 26) u))) 24 (upd (A 24) n0 ((A 27) u))) th co at_ wr no nu op pi wi he de) hP mkM_u24
      exact fh_vret X hP hS (fh_d d_Mo_setLeft 163 rfl) ⟨rfl, by unfold rf_lf; rw [if_pos ha9, if_pos hb9]; (try rfl), rfl⟩
    · skip
      refine lv_aload_n hx hb (fh_d d_Mo_setLeft 0 rfl) rfl (lv_at hl 0 rfl) ?_
      refine fh_get (own := "FormulaSetterModel") (ref := "FormulaSetterModel") (C := "FormulaSetterModel") (T := T_Mo) (N := 53) (v := .ref (x + 21)) hx hb hT i_Mo hown hK hP mkM_o rfl 27 (by decide) (hT _ w887) (fun _ h9 => h9) rfl (fh_d d_Mo_setLeft 1 rfl) ?_
      refine lv_iload_n hx hb (fh_d d_Mo_setLeft 2 rfl) rfl (lv_at hl 1 rfl) ?_
      refine fn_iald (f := A 20) (k := n0) hx hb hK hP 0 mkM_a20 rfl (rfl) (by omega) (by decide) (fh_d d_Mo_setLeft 3 rfl) ?_
      rw [show ((A 20) n0) = nI s0 from h20]
      refine fh_callS (cc' := c_Mo_zOf) (nL' := 1) (rest := []) (av := [.int (nI s0)]) X hR (m_Mo_zO l D ct b RO hR (r - 1) (by omega) n s0 hs0 (mkM ct x g A th co at_ wr no nu op pi wi he de)) w1139 w1137 w1138 w9 ⟨by decide, by decide, by show _ = some 1; decide +kernel⟩ (by omega) (by decide) hP hS hl.1 rfl (by exact Nat.le_of_ble_eq_true rfl) (fh_d d_Mo_setLeft 4 rfl) ⟨Nat.le_refl _, Nat.le_refl _⟩ (fun v9 h9 n9 H locs hq hP hS => ?_)
      obtain ⟨rfl, q14a, q14b⟩ := hq
      rw [q14a, q14b] at hP
      refine W.eq (g2 := F0 m 9 ls [.int (yS s0)]) rfl ?_
      refine lv_istore_n (lv' := [(2, .int (yS s0)), (0, .ref x), (1, .int (nI n0))]) hx hb (fh_d d_Mo_setLeft 5 rfl) rfl hl (by decide) rfl (fun ls hl => ?_)
      refine lv_aload_n hx hb (fh_d d_Mo_setLeft 6 rfl) rfl (lv_at hl 1 rfl) ?_
      refine fh_get (own := "FormulaSetterModel") (ref := "FormulaSetterModel") (C := "FormulaSetterModel") (T := T_Mo) (N := 53) (v := .ref (x + 21)) hx hb hT i_Mo hown hK hP mkM_o rfl 27 (by decide) (hT _ w887) (fun _ h9 => h9) rfl (fh_d d_Mo_setLeft 7 rfl) ?_
      refine lv_iload_n hx hb (fh_d d_Mo_setLeft 8 rfl) rfl (lv_at hl 2 rfl) ?_
      refine fn_iald (f := A 20) (k := n0) hx hb hK hP 0 mkM_a20 rfl (rfl) (by omega) (by decide) (fh_d d_Mo_setLeft 9 rfl) ?_
      rw [show ((A 20) n0) = nI s0 from h20]
      refine fh_callS (cc' := c_Mo_axisOf) (nL' := 1) (rest := []) (av := [.int (nI s0)]) X hR (m_Mo_xO l D ct b RO hR (r - 1) (by omega) n s0 hs0 (mkM ct x g A th co at_ wr no nu op pi wi he de)) w1167 w1165 w1166 w9 ⟨by decide, by decide, by show _ = some 1; decide +kernel⟩ (by omega) (by decide) hP hS hl.1 rfl (by exact Nat.le_of_ble_eq_true rfl) (fh_d d_Mo_setLeft 10 rfl) ⟨Nat.le_refl _, Nat.le_refl _⟩ (fun v9 h9 n9 H locs hq hP hS => ?_)
      obtain ⟨rfl, q15a, q15b⟩ := hq
      rw [q15a, q15b] at hP
      refine W.eq (g2 := F0 m 19 ls [.int (yX s0)]) rfl ?_
      refine lv_istore_n (lv' := [(3, .int (yX s0)), (2, .int (yS s0)), (0, .ref x), (1, .int (nI n0))]) hx hb (fh_d d_Mo_setLeft 11 rfl) rfl hl (by decide) rfl (fun ls hl => ?_)
      refine lv_aload_n hx hb (fh_d d_Mo_setLeft 12 rfl) rfl (lv_at hl 2 rfl) ?_
      refine fh_get (own := "FormulaSetterModel") (ref := "FormulaSetterModel") (C := "FormulaSetterModel") (T := T_Mo) (N := 53) (v := .ref (x + 11)) hx hb hT i_Mo hown hK hP mkM_o rfl 16 (by decide) (hT _ w876) (fun _ h9 => h9) rfl (fh_d d_Mo_setLeft 13 rfl) ?_
      refine lv_iload_n hx hb (fh_d d_Mo_setLeft 14 rfl) rfl (lv_at hl 3 rfl) ?_
      refine fn_iald (f := A 10) (k := n0) hx hb hK hP 0 mkM_a10 rfl (rfl) (by omega) (by decide) (fh_d d_Mo_setLeft 15 rfl) ?_
      rw [show ((A 10) n0) = nI u from h10]
      refine lv_istore (lv' := [(4, .int (nI u)), (3, .int (yX s0)), (2, .int (yS s0)), (0, .ref x), (1, .int (nI n0))]) hx hb (fh_d d_Mo_setLeft 16 rfl) hl (by decide) rfl (fun ls hl => ?_)
      refine lv_aload_n hx hb (fh_d d_Mo_setLeft 17 rfl) rfl (lv_at hl 3 rfl) ?_
      refine fh_get (own := "FormulaSetterModel") (ref := "FormulaSetterModel") (C := "FormulaSetterModel") (T := T_Mo) (N := 53) (v := .ref (x + 35)) hx hb hT i_Mo hown hK hP mkM_o rfl 41 (by decide) (hT _ w901) (fun _ h9 => h9) rfl (fh_d d_Mo_setLeft 18 rfl) ?_
      refine lv_iload_n hx hb (fh_d d_Mo_setLeft 19 rfl) rfl (lv_at hl 4 rfl) ?_
      refine lv_iconst (v := 2) hx hb (fh_d d_Mo_setLeft 20 rfl) (by decide) ?_
      refine lv_aload_n hx hb (fh_d d_Mo_setLeft 21 rfl) rfl (lv_at hl 3 rfl) ?_
      refine fh_get (own := "FormulaSetterModel") (ref := "FormulaSetterModel") (C := "FormulaSetterModel") (T := T_Mo) (N := 53) (v := .ref (x + 27)) hx hb hT i_Mo hown hK hP mkM_o rfl 33 (by decide) (hT _ w893) (fun _ h9 => h9) rfl (fh_d d_Mo_setLeft 22 rfl) ?_
      refine lv_iload hx hb (fh_d d_Mo_setLeft 23 rfl) (lv_at hl 0 rfl) ?_
      refine fn_iald (f := A 26) (k := u) hx hb hK hP 0 mkM_a26 rfl (rfl) (by omega) (by decide) (fh_d d_Mo_setLeft 24 rfl) ?_
      refine lv_iload_n hx hb (fh_d d_Mo_setLeft 25 rfl) rfl (lv_at hl 1 rfl) ?_
      refine lv_isub hx hb (fh_d d_Mo_setLeft 26 rfl) ?_
      refine lv_aload_n hx hb (fh_d d_Mo_setLeft 27 rfl) rfl (lv_at hl 3 rfl) ?_
      refine fh_get (own := "FormulaSetterModel") (ref := "FormulaSetterModel") (C := "FormulaSetterModel") (T := T_Mo) (N := 53) (v := .ref (x + 28)) hx hb hT i_Mo hown hK hP mkM_o rfl 34 (by decide) (hT _ w894) (fun _ h9 => h9) rfl (fh_d d_Mo_setLeft 28 rfl) ?_
      refine lv_iload hx hb (fh_d d_Mo_setLeft 29 rfl) (lv_at hl 0 rfl) ?_
      refine fn_iald (f := A 27) (k := u) hx hb hK hP 0 mkM_a27 rfl (rfl) (by omega) (by decide) (fh_d d_Mo_setLeft 30 rfl) ?_
      refine lv_iload_n hx hb (fh_d d_Mo_setLeft 31 rfl) rfl (lv_at hl 1 rfl) ?_
      refine lv_iadd hx hb (fh_d d_Mo_setLeft 32 rfl) ?_
      refine fh_callS (cc' := c_Mo_most) (nL' := 2) (rest := [.int 2, .int (nI n0), .ref (x + 35)]) (av := [.int (((A 26) u) - (yX s0)), .int (((A 27) u) + (yX s0))]) X hR (m_Mo_most l D ct b RO (r - 1) n (((A 26) u) - (yX s0)) (((A 27) u) + (yX s0)) (mkM ct x g A th co at_ wr no nu op pi wi he de)) w1151 w1149 w1150 w9 ⟨by decide, by decide, by show _ = some 2; decide +kernel⟩ (by omega) (by decide) hP hS hl.1 rfl (by exact Nat.le_of_ble_eq_true rfl) (fh_d d_Mo_setLeft 33 rfl) ⟨Nat.le_refl _, Nat.le_refl _⟩ (fun v9 h9 n9 H locs hq hP hS => ?_)
      obtain ⟨rfl, q16a, q16b⟩ := hq
      rw [q16a, q16b] at hP
      refine W.eq (g2 := F0 m 55 ls [.int (ms (((A 26) u) - (yX s0)) (((A 27) u) + (yX s0))), .int 2, .int (nI n0), .ref (x + 35)]) rfl ?_
      refine lv_iconst (v := 4) hx hb (fh_d d_Mo_setLeft 34 rfl) (by decide) ?_
      refine lv_iload_n hx hb (fh_d d_Mo_setLeft 35 rfl) rfl (lv_at hl 2 rfl) ?_
      refine lv_imul hx hb (fh_d d_Mo_setLeft 36 rfl) ?_
      refine fh_callS (cc' := c_Mo_most) (nL' := 2) (rest := [.int 2, .int (nI n0), .ref (x + 35)]) (av := [.int (ms (((A 26) u) - (yX s0)) (((A 27) u) + (yX s0))), .int (4 * (yS s0))]) X hR (m_Mo_most l D ct b RO (r - 1) n (ms (((A 26) u) - (yX s0)) (((A 27) u) + (yX s0))) (4 * (yS s0)) (mkM ct x g A th co at_ wr no nu op pi wi he de)) w1151 w1149 w1150 w9 ⟨by decide, by decide, by show _ = some 2; decide +kernel⟩ (by omega) (by decide) hP hS hl.1 rfl (by exact Nat.le_of_ble_eq_true rfl) (fh_d d_Mo_setLeft 37 rfl) ⟨Nat.le_refl _, Nat.le_refl _⟩ (fun v9 h9 n9 H locs hq hP hS => ?_)
      obtain ⟨rfl, q17a, q17b⟩ := hq
      rw [q17a, q17b] at hP
      refine W.eq (g2 := F0 m 61 ls [.int (ms (ms (((A 26) u) - (yX s0)) (((A 27) u) + (yX s0))) (4 * (yS s0))), .int 2, .int (nI n0), .ref (x + 35)]) rfl ?_
      refine lv_imul hx hb (fh_d d_Mo_setLeft 38 rfl) ?_
      refine lv_iload_n hx hb (fh_d d_Mo_setLeft 39 rfl) rfl (lv_at hl 2 rfl) ?_
      have hT9 : 2 * (ms (ms (((A 26) u) - (yX s0)) (((A 27) u) + (yX s0))) (4 * (yS s0))) = nI kT := by exact hTl
      rw [hT9]
      refine fh_callS (cc' := c_Mo_tallFor) (nL' := 3) (rest := [.int (nI n0), .ref (x + 35)]) (av := [.int (nI kT), .int (yS s0)]) X hR (m_Mo_tallFor l D ct b RO (r - 1) n s0 hs0 kT hkT (mkM ct x g A th co at_ wr no nu op pi wi he de)) w1181 w1179 w1180 w9 ⟨by decide, by decide, by show _ = some 2; decide +kernel⟩ (by omega) (by decide) hP hS hl.1 rfl (by exact Nat.le_of_ble_eq_true rfl) (fh_d d_Mo_setLeft 40 rfl) ⟨Nat.le_refl _, Nat.le_refl _⟩ (fun v9 h9 n9 H locs hq hP hS => ?_)
      obtain ⟨rfl, q18a, q18b⟩ := hq
      rw [q18a, q18b] at hP
      refine W.eq (g2 := F0 m 66 ls [.int (yTa s0 (nI kT)), .int (nI n0), .ref (x + 35)]) rfl ?_
      rw [← hT9]
      refine W.eq (g2 := F0 m 66 ls [.int (yTa s0 (2 * (ms (ms (((A 26) u) - (yX s0)) (((A 27) u) + (yX s0))) (4 * (yS s0))))), .int (nI n0), .ref (x + 35)]) rfl ?_
      refine fn_iast (f := A 34) (k := n0) hx hb hK hP hS 0 mkM_a34 rfl (rfl) (by omega) (by decide) (fh_d d_Mo_setLeft 41 rfl) (fun H locs hP hS => ?_)
      replace hP := fh_P.eq (h' := mkM ct x g (up2 A 34 (upd (A 34) n0 (yTa s0 (2 * (ms (ms (((A 26) u) - (yX s0)) (((A 27) u) + (yX s0))) (4 * (yS s0))))))) th co at_ wr no nu op pi wi he de) hP mkM_u34
      refine lv_aload_n hx hb (fh_d d_Mo_setLeft 42 rfl) rfl (lv_at hl 3 rfl) ?_
      refine fh_get (own := "FormulaSetterModel") (ref := "FormulaSetterModel") (C := "FormulaSetterModel") (T := T_Mo) (N := 53) (v := .ref (x + 36)) hx hb hT i_Mo hown hK hP mkM_o rfl 42 (by decide) (hT _ w902) (fun _ h9 => h9) rfl (fh_d d_Mo_setLeft 43 rfl) ?_
      refine lv_iload_n hx hb (fh_d d_Mo_setLeft 44 rfl) rfl (lv_at hl 4 rfl) ?_
      refine lv_iload_n hx hb (fh_d d_Mo_setLeft 45 rfl) rfl (lv_at hl 1 rfl) ?_
      refine lv_aload_n hx hb (fh_d d_Mo_setLeft 46 rfl) rfl (lv_at hl 3 rfl) ?_
      refine fh_get (own := "FormulaSetterModel") (ref := "FormulaSetterModel") (C := "FormulaSetterModel") (T := T_Mo) (N := 53) (v := .ref (x + 35)) hx hb hT i_Mo hown hK hP mkM_o rfl 41 (by decide) (hT _ w901) (fun _ h9 => h9) rfl (fh_d d_Mo_setLeft 47 rfl) ?_
      refine lv_iload_n hx hb (fh_d d_Mo_setLeft 48 rfl) rfl (lv_at hl 4 rfl) ?_
      refine fn_iald (f := upd (A 34) n0 (yTa s0 (2 * (ms (ms (((A 26) u) - (yX s0)) (((A 27) u) + (yX s0))) (4 * (yS s0)))))) (k := n0) hx hb hK hP 0 mkM_a34 rfl (rfl) (by omega) (by decide) (fh_d d_Mo_setLeft 49 rfl) ?_
      rw [show ((upd (A 34) n0 (yTa s0 (2 * (ms (ms (((A 26) u) - (yX s0)) (((A 27) u) + (yX s0))) (4 * (yS s0)))))) n0) = (yTa s0 (2 * (ms (ms (((A 26) u) - (yX s0)) (((A 27) u) + (yX s0))) (4 * (yS s0))))) from upd_s]
      refine lv_iconst (v := 2) hx hb (fh_d d_Mo_setLeft 50 rfl) (by decide) ?_
      refine lv_idiv hx hb (fh_d d_Mo_setLeft 51 rfl) (by decide) ?_
      refine lv_isub hx hb (fh_d d_Mo_setLeft 52 rfl) ?_
      refine fn_iast (f := A 35) (k := n0) hx hb hK hP hS 0 mkM_a35 rfl (rfl) (by omega) (by decide) (fh_d d_Mo_setLeft 53 rfl) (fun H locs hP hS => ?_)
      replace hP := fh_P.eq (h' := mkM ct x g (up2 (up2 A 34 (upd (A 34) n0 (yTa s0 (2 * (ms (ms (((A 26) u) - (yX s0)) (((A 27) u) + (yX s0))) (4 * (yS s0))))))) 35 (upd (A 35) n0 ((yX s0) - ((yTa s0 (2 * (ms (ms (((A 26) u) - (yX s0)) (((A 27) u) + (yX s0))) (4 * (yS s0))))) / 2)))) th co at_ wr no nu op pi wi he de) hP mkM_u35
      refine lv_aload_n hx hb (fh_d d_Mo_setLeft 54 rfl) rfl (lv_at hl 3 rfl) ?_
      refine fh_get (own := "FormulaSetterModel") (ref := "FormulaSetterModel") (C := "FormulaSetterModel") (T := T_Mo) (N := 53) (v := .ref (x + 3)) hx hb hT i_Mo hown hK hP mkM_o rfl 8 (by decide) (hT _ w868) (fun _ h9 => h9) rfl (fh_d d_Mo_setLeft 55 rfl) ?_
      refine lv_iload_n hx hb (fh_d d_Mo_setLeft 56 rfl) rfl (lv_at hl 4 rfl) ?_
      refine fn_iald (f := A 2) (k := n0) hx hb hK hP 0 mkM_a2 rfl (rfl) (by omega) (by decide) (fh_d d_Mo_setLeft 57 rfl) ?_
      refine lv_bipush (v := 46) hx hb (fh_d d_Mo_setLeft 58 rfl) (by decide) ?_
      refine lv_icmp_eq (tgt := 98) hx hb (fh_d d_Mo_setLeft 59 rfl) rfl (fun c19 => ?_) (fun c19 => absurd c19 (Classical.not_not.mpr (ha9)))
      refine lv_iconst (v := 0) hx hb (fh_d d_Mo_setLeft 62 rfl) (by decide) ?_
      refine lv_istore (lv' := [(5, .int 0), (4, .int (nI u)), (3, .int (yX s0)), (2, .int (yS s0)), (0, .ref x), (1, .int (nI n0))]) hx hb (fh_d d_Mo_setLeft 63 rfl) hl (by decide) rfl (fun ls hl => ?_)
      refine lv_aload_n hx hb (fh_d d_Mo_setLeft 64 rfl) rfl (lv_at hl 4 rfl) ?_
      refine fh_get (own := "FormulaSetterModel") (ref := "FormulaSetterModel") (C := "FormulaSetterModel") (T := T_Mo) (N := 53) (v := .ref (x + 4)) hx hb hT i_Mo hown hK hP mkM_o rfl 9 (by decide) (hT _ w869) (fun _ h9 => h9) rfl (fh_d d_Mo_setLeft 65 rfl) ?_
      refine lv_iload_n hx hb (fh_d d_Mo_setLeft 66 rfl) rfl (lv_at hl 5 rfl) ?_
      refine fn_iald (f := A 3) (k := n0) hx hb hK hP 0 mkM_a3 rfl (rfl) (by omega) (by decide) (fh_d d_Mo_setLeft 67 rfl) ?_
      refine lv_bipush (v := 46) hx hb (fh_d d_Mo_setLeft 68 rfl) (by decide) ?_
      refine lv_icmp_eq (tgt := 116) hx hb (fh_d d_Mo_setLeft 69 rfl) rfl (fun c20 => absurd c20 (hb9)) (fun c20 => ?_)
      refine lv_iconst (v := 1) hx hb (fh_d d_Mo_setLeft 70 rfl) (by decide) ?_
      refine lv_goto (tgt := 117) hx hb (fh_d d_Mo_setLeft 71 rfl) rfl ?_
      refine lv_istore (lv' := [(6, .int 1), (5, .int 0), (4, .int (nI u)), (3, .int (yX s0)), (2, .int (yS s0)), (0, .ref x), (1, .int (nI n0))]) hx hb (fh_d d_Mo_setLeft 73 rfl) hl (by decide) rfl (fun ls hl => ?_)
      refine lv_aload_n hx hb (fh_d d_Mo_setLeft 74 rfl) rfl (lv_at hl 5 rfl) ?_
      refine fh_get (own := "FormulaSetterModel") (ref := "FormulaSetterModel") (C := "FormulaSetterModel") (T := T_Mo) (N := 53) (v := .ref (x + 30)) hx hb hT i_Mo hown hK hP mkM_o rfl 36 (by decide) (hT _ w896) (fun _ h9 => h9) rfl (fh_d d_Mo_setLeft 75 rfl) ?_
      refine lv_iload hx hb (fh_d d_Mo_setLeft 76 rfl) (lv_at hl 2 rfl) ?_
      refine lv_iload hx hb (fh_d d_Mo_setLeft 77 rfl) (lv_at hl 1 rfl) ?_
      refine lv_if_eq (tgt := 136) hx hb (fh_d d_Mo_setLeft 78 rfl) rfl (fun c21 => ?_) (fun c21 => absurd c21 (Classical.not_not.mpr (by decide)))
      refine lv_iconst (v := 0) hx hb (fh_d d_Mo_setLeft 83 rfl) (by decide) ?_
      refine fn_iast (f := A 29) (k := u) hx hb hK hP hS 0 mkM_a29 rfl (rfl) (by omega) (by decide) (fh_d d_Mo_setLeft 84 rfl) (fun H locs hP hS => ?_)
      replace hP := fh_P.eq (h' := mkM ct x g (up2 (up2 (up2 A 34 (upd (A 34) n0 (yTa s0 (2 * (ms (ms (((A 26) u) - (yX s0)) (((A 27) u) + (yX s0))) (4 * (yS s0))))))) 35 (upd (A 35) n0 ((yX s0) - ((yTa s0 (2 * (ms (ms (((A 26) u) - (yX s0)) (((A 27) u) + (yX s0))) (4 * (yS s0))))) / 2)))) 29 (upd (A 29) u 0)) th co at_ wr no nu op pi wi he de) hP mkM_u29
      refine lv_aload_n hx hb (fh_d d_Mo_setLeft 85 rfl) rfl (lv_at hl 5 rfl) ?_
      refine fh_get (own := "FormulaSetterModel") (ref := "FormulaSetterModel") (C := "FormulaSetterModel") (T := T_Mo) (N := 53) (v := .ref (x + 31)) hx hb hT i_Mo hown hK hP mkM_o rfl 37 (by decide) (hT _ w897) (fun _ h9 => h9) rfl (fh_d d_Mo_setLeft 86 rfl) ?_
      refine lv_iload hx hb (fh_d d_Mo_setLeft 87 rfl) (lv_at hl 2 rfl) ?_
      refine lv_iconst (v := 0) hx hb (fh_d d_Mo_setLeft 88 rfl) (by decide) ?_
      refine fn_iast (f := A 30) (k := u) hx hb hK hP hS 0 mkM_a30 rfl (rfl) (by omega) (by decide) (fh_d d_Mo_setLeft 89 rfl) (fun H locs hP hS => ?_)
      replace hP := fh_P.eq (h' := mkM ct x g (up2 (up2 (up2 (up2 A 34 (upd (A 34) n0 (yTa s0 (2 * (ms (ms (((A 26) u) - (yX s0)) (((A 27) u) + (yX s0))) (4 * (yS s0))))))) 35 (upd (A 35) n0 ((yX s0) - ((yTa s0 (2 * (ms (ms (((A 26) u) - (yX s0)) (((A 27) u) + (yX s0))) (4 * (yS s0))))) / 2)))) 29 (upd (A 29) u 0)) 30 (upd (A 30) u 0)) th co at_ wr no nu op pi wi he de) hP mkM_u30
      refine lv_aload_n hx hb (fh_d d_Mo_setLeft 90 rfl) rfl (lv_at hl 5 rfl) ?_
      refine fh_get (own := "FormulaSetterModel") (ref := "FormulaSetterModel") (C := "FormulaSetterModel") (T := T_Mo) (N := 53) (v := .ref (x + 23)) hx hb hT i_Mo hown hK hP mkM_o rfl 29 (by decide) (hT _ w889) (fun _ h9 => h9) rfl (fh_d d_Mo_setLeft 91 rfl) ?_
      refine lv_iload_n hx hb (fh_d d_Mo_setLeft 92 rfl) rfl (lv_at hl 6 rfl) ?_
      refine lv_aload_n hx hb (fh_d d_Mo_setLeft 93 rfl) rfl (lv_at hl 5 rfl) ?_
      refine fh_get (own := "FormulaSetterModel") (ref := "FormulaSetterModel") (C := "FormulaSetterModel") (T := T_Mo) (N := 53) (v := .ref (x + 30)) hx hb hT i_Mo hown hK hP mkM_o rfl 36 (by decide) (hT _ w896) (fun _ h9 => h9) rfl (fh_d d_Mo_setLeft 94 rfl) ?_
      refine lv_iload hx hb (fh_d d_Mo_setLeft 95 rfl) (lv_at hl 2 rfl) ?_
      refine fn_iald (f := upd (A 29) u 0) (k := u) hx hb hK hP 0 mkM_a29 rfl (rfl) (by omega) (by decide) (fh_d d_Mo_setLeft 96 rfl) ?_
      rw [show ((upd (A 29) u 0) u) = 0 from upd_s]
      refine lv_aload_n hx hb (fh_d d_Mo_setLeft 97 rfl) rfl (lv_at hl 5 rfl) ?_
      refine fh_get (own := "FormulaSetterModel") (ref := "FormulaSetterModel") (C := "FormulaSetterModel") (T := T_Mo) (N := 53) (v := .ref (x + 26)) hx hb hT i_Mo hown hK hP mkM_o rfl 32 (by decide) (hT _ w892) (fun _ h9 => h9) rfl (fh_d d_Mo_setLeft 98 rfl) ?_
      refine lv_iload hx hb (fh_d d_Mo_setLeft 99 rfl) (lv_at hl 2 rfl) ?_
      refine fn_iald (f := A 25) (k := u) hx hb hK hP 0 mkM_a25 rfl (rfl) (by omega) (by decide) (fh_d d_Mo_setLeft 100 rfl) ?_
      refine lv_iadd hx hb (fh_d d_Mo_setLeft 101 rfl) ?_
      refine lv_iload hx hb (fh_d d_Mo_setLeft 102 rfl) (lv_at hl 0 rfl) ?_
      refine lv_if_eq (tgt := 177) hx hb (fh_d d_Mo_setLeft 103 rfl) rfl (fun c22 => absurd c22 (by decide)) (fun c22 => ?_)
      refine lv_iconst (v := 4) hx hb (fh_d d_Mo_setLeft 104 rfl) (by decide) ?_
      refine lv_iload_n hx hb (fh_d d_Mo_setLeft 105 rfl) rfl (lv_at hl 4 rfl) ?_
      refine lv_imul hx hb (fh_d d_Mo_setLeft 106 rfl) ?_
      refine lv_goto (tgt := 178) hx hb (fh_d d_Mo_setLeft 107 rfl) rfl ?_
      refine lv_iadd hx hb (fh_d d_Mo_setLeft 109 rfl) ?_
      refine fn_iast (f := A 22) (k := n0) hx hb hK hP hS 0 mkM_a22 rfl (rfl) (by omega) (by decide) (fh_d d_Mo_setLeft 110 rfl) (fun H locs hP hS => ?_)
      replace hP := fh_P.eq (h' := mkM ct x g (up2 (up2 (up2 (up2 (up2 A 34 (upd (A 34) n0 (yTa s0 (2 * (ms (ms (((A 26) u) - (yX s0)) (((A 27) u) + (yX s0))) (4 * (yS s0))))))) 35 (upd (A 35) n0 ((yX s0) - ((yTa s0 (2 * (ms (ms (((A 26) u) - (yX s0)) (((A 27) u) + (yX s0))) (4 * (yS s0))))) / 2)))) 29 (upd (A 29) u 0)) 30 (upd (A 30) u 0)) 22 (upd (A 22) n0 ((0 + ((A 25) u)) + (4 * (yS s0))))) th co at_ wr no nu op pi wi he de) hP mkM_u22
      refine lv_aload_n hx hb (fh_d d_Mo_setLeft 111 rfl) rfl (lv_at hl 5 rfl) ?_
      refine fh_get (own := "FormulaSetterModel") (ref := "FormulaSetterModel") (C := "FormulaSetterModel") (T := T_Mo) (N := 53) (v := .ref (x + 24)) hx hb hT i_Mo hown hK hP mkM_o rfl 30 (by decide) (hT _ w890) (fun _ h9 => h9) rfl (fh_d d_Mo_setLeft 112 rfl) ?_
      refine lv_iload_n hx hb (fh_d d_Mo_setLeft 113 rfl) rfl (lv_at hl 6 rfl) ?_
      refine lv_iload hx hb (fh_d d_Mo_setLeft 114 rfl) (lv_at hl 1 rfl) ?_
      refine lv_if_ne (tgt := 195) hx hb (fh_d d_Mo_setLeft 115 rfl) rfl (fun c23 => absurd c23 (Classical.not_not.mpr (by decide))) (fun c23 => ?_)
      refine lv_iload hx hb (fh_d d_Mo_setLeft 116 rfl) (lv_at hl 0 rfl) ?_
      refine lv_if_eq (tgt := 218) hx hb (fh_d d_Mo_setLeft 117 rfl) rfl (fun c24 => absurd c24 (by decide)) (fun c24 => ?_)
      refine lv_aload_n hx hb (fh_d d_Mo_setLeft 118 rfl) rfl (lv_at hl 5 rfl) ?_
      refine fh_get (own := "FormulaSetterModel") (ref := "FormulaSetterModel") (C := "FormulaSetterModel") (T := T_Mo) (N := 53) (v := .ref (x + 27)) hx hb hT i_Mo hown hK hP mkM_o rfl 33 (by decide) (hT _ w893) (fun _ h9 => h9) rfl (fh_d d_Mo_setLeft 119 rfl) ?_
      refine lv_iload hx hb (fh_d d_Mo_setLeft 120 rfl) (lv_at hl 2 rfl) ?_
      refine fn_iald (f := A 26) (k := u) hx hb hK hP 0 mkM_a26 rfl (rfl) (by omega) (by decide) (fh_d d_Mo_setLeft 121 rfl) ?_
      refine lv_iload_n hx hb (fh_d d_Mo_setLeft 122 rfl) rfl (lv_at hl 3 rfl) ?_
      refine lv_aload_n hx hb (fh_d d_Mo_setLeft 123 rfl) rfl (lv_at hl 5 rfl) ?_
      refine fh_get (own := "FormulaSetterModel") (ref := "FormulaSetterModel") (C := "FormulaSetterModel") (T := T_Mo) (N := 53) (v := .ref (x + 35)) hx hb hT i_Mo hown hK hP mkM_o rfl 41 (by decide) (hT _ w901) (fun _ h9 => h9) rfl (fh_d d_Mo_setLeft 124 rfl) ?_
      refine lv_iload_n hx hb (fh_d d_Mo_setLeft 125 rfl) rfl (lv_at hl 6 rfl) ?_
      refine fn_iald (f := upd (A 34) n0 (yTa s0 (2 * (ms (ms (((A 26) u) - (yX s0)) (((A 27) u) + (yX s0))) (4 * (yS s0)))))) (k := n0) hx hb hK hP 0 mkM_a34 rfl (rfl) (by omega) (by decide) (fh_d d_Mo_setLeft 126 rfl) ?_
      rw [show ((upd (A 34) n0 (yTa s0 (2 * (ms (ms (((A 26) u) - (yX s0)) (((A 27) u) + (yX s0))) (4 * (yS s0)))))) n0) = (yTa s0 (2 * (ms (ms (((A 26) u) - (yX s0)) (((A 27) u) + (yX s0))) (4 * (yS s0))))) from upd_s]
      refine lv_iconst (v := 2) hx hb (fh_d d_Mo_setLeft 127 rfl) (by decide) ?_
      refine lv_idiv hx hb (fh_d d_Mo_setLeft 128 rfl) (by decide) ?_
      refine lv_iadd hx hb (fh_d d_Mo_setLeft 129 rfl) ?_
      refine fh_callS (cc' := c_Mo_most) (nL' := 2) (rest := [.int (nI n0), .ref (x + 24)]) (av := [.int ((A 26) u), .int ((yX s0) + ((yTa s0 (2 * (ms (ms (((A 26) u) - (yX s0)) (((A 27) u) + (yX s0))) (4 * (yS s0))))) / 2))]) X hR (m_Mo_most l D ct b RO (r - 1) n ((A 26) u) ((yX s0) + ((yTa s0 (2 * (ms (ms (((A 26) u) - (yX s0)) (((A 27) u) + (yX s0))) (4 * (yS s0))))) / 2)) (mkM ct x g (up2 (up2 (up2 (up2 (up2 A 34 (upd (A 34) n0 (yTa s0 (2 * (ms (ms (((A 26) u) - (yX s0)) (((A 27) u) + (yX s0))) (4 * (yS s0))))))) 35 (upd (A 35) n0 ((yX s0) - ((yTa s0 (2 * (ms (ms (((A 26) u) - (yX s0)) (((A 27) u) + (yX s0))) (4 * (yS s0))))) / 2)))) 29 (upd (A 29) u 0)) 30 (upd (A 30) u 0)) 22 (upd (A 22) n0 ((0 + ((A 25) u)) + (4 * (yS s0))))) th co at_ wr no nu op pi wi he de)) w1151 w1149 w1150 w9 ⟨by decide, by decide, by show _ = some 2; decide +kernel⟩ (by omega) (by decide) hP hS hl.1 rfl (by exact Nat.le_of_ble_eq_true rfl) (fh_d d_Mo_setLeft 130 rfl) ⟨Nat.le_refl _, Nat.le_refl _⟩ (fun v9 h9 n9 H locs hq hP hS => ?_)
      obtain ⟨rfl, q25a, q25b⟩ := hq
      rw [q25a, q25b] at hP
      refine W.eq (g2 := F0 m 215 ls [.int (ms ((A 26) u) ((yX s0) + ((yTa s0 (2 * (ms (ms (((A 26) u) - (yX s0)) (((A 27) u) + (yX s0))) (4 * (yS s0))))) / 2))), .int (nI n0), .ref (x + 24)]) rfl ?_
      refine lv_goto (tgt := 225) hx hb (fh_d d_Mo_setLeft 131 rfl) rfl ?_
      refine fn_iast (f := A 23) (k := n0) hx hb hK hP hS 0 mkM_a23 rfl (rfl) (by omega) (by decide) (fh_d d_Mo_setLeft 136 rfl) (fun H locs hP hS => ?_)
      replace hP := fh_P.eq (h' := mkM ct x g (up2 (up2 (up2 (up2 (up2 (up2 A 34 (upd (A 34) n0 (yTa s0 (2 * (ms (ms (((A 26) u) - (yX s0)) (((A 27) u) + (yX s0))) (4 * (yS s0))))))) 35 (upd (A 35) n0 ((yX s0) - ((yTa s0 (2 * (ms (ms (((A 26) u) - (yX s0)) (((A 27) u) + (yX s0))) (4 * (yS s0))))) / 2)))) 29 (upd (A 29) u 0)) 30 (upd (A 30) u 0)) 22 (upd (A 22) n0 ((0 + ((A 25) u)) + (4 * (yS s0))))) 23 (upd (A 23) n0 (ms ((A 26) u) ((yX s0) + ((yTa s0 (2 * (ms (ms (((A 26) u) - (yX s0)) (((A 27) u) + (yX s0))) (4 * (yS s0))))) / 2))))) th co at_ wr no nu op pi wi he de) hP mkM_u23
      refine lv_aload_n hx hb (fh_d d_Mo_setLeft 137 rfl) rfl (lv_at hl 5 rfl) ?_
      refine fh_get (own := "FormulaSetterModel") (ref := "FormulaSetterModel") (C := "FormulaSetterModel") (T := T_Mo) (N := 53) (v := .ref (x + 25)) hx hb hT i_Mo hown hK hP mkM_o rfl 31 (by decide) (hT _ w891) (fun _ h9 => h9) rfl (fh_d d_Mo_setLeft 138 rfl) ?_
      refine lv_iload_n hx hb (fh_d d_Mo_setLeft 139 rfl) rfl (lv_at hl 6 rfl) ?_
      refine lv_iload hx hb (fh_d d_Mo_setLeft 140 rfl) (lv_at hl 1 rfl) ?_
      refine lv_if_ne (tgt := 241) hx hb (fh_d d_Mo_setLeft 141 rfl) rfl (fun c26 => absurd c26 (Classical.not_not.mpr (by decide))) (fun c26 => ?_)
      refine lv_iload hx hb (fh_d d_Mo_setLeft 142 rfl) (lv_at hl 0 rfl) ?_
      refine lv_if_eq (tgt := 264) hx hb (fh_d d_Mo_setLeft 143 rfl) rfl (fun c27 => absurd c27 (by decide)) (fun c27 => ?_)
      refine lv_aload_n hx hb (fh_d d_Mo_setLeft 144 rfl) rfl (lv_at hl 5 rfl) ?_
      refine fh_get (own := "FormulaSetterModel") (ref := "FormulaSetterModel") (C := "FormulaSetterModel") (T := T_Mo) (N := 53) (v := .ref (x + 28)) hx hb hT i_Mo hown hK hP mkM_o rfl 34 (by decide) (hT _ w894) (fun _ h9 => h9) rfl (fh_d d_Mo_setLeft 145 rfl) ?_
      refine lv_iload hx hb (fh_d d_Mo_setLeft 146 rfl) (lv_at hl 2 rfl) ?_
      refine fn_iald (f := A 27) (k := u) hx hb hK hP 0 mkM_a27 rfl (rfl) (by omega) (by decide) (fh_d d_Mo_setLeft 147 rfl) ?_
      refine lv_aload_n hx hb (fh_d d_Mo_setLeft 148 rfl) rfl (lv_at hl 5 rfl) ?_
      refine fh_get (own := "FormulaSetterModel") (ref := "FormulaSetterModel") (C := "FormulaSetterModel") (T := T_Mo) (N := 53) (v := .ref (x + 35)) hx hb hT i_Mo hown hK hP mkM_o rfl 41 (by decide) (hT _ w901) (fun _ h9 => h9) rfl (fh_d d_Mo_setLeft 149 rfl) ?_
      refine lv_iload_n hx hb (fh_d d_Mo_setLeft 150 rfl) rfl (lv_at hl 6 rfl) ?_
      refine fn_iald (f := upd (A 34) n0 (yTa s0 (2 * (ms (ms (((A 26) u) - (yX s0)) (((A 27) u) + (yX s0))) (4 * (yS s0)))))) (k := n0) hx hb hK hP 0 mkM_a34 rfl (rfl) (by omega) (by decide) (fh_d d_Mo_setLeft 151 rfl) ?_
      rw [show ((upd (A 34) n0 (yTa s0 (2 * (ms (ms (((A 26) u) - (yX s0)) (((A 27) u) + (yX s0))) (4 * (yS s0)))))) n0) = (yTa s0 (2 * (ms (ms (((A 26) u) - (yX s0)) (((A 27) u) + (yX s0))) (4 * (yS s0))))) from upd_s]
      refine lv_iconst (v := 2) hx hb (fh_d d_Mo_setLeft 152 rfl) (by decide) ?_
      refine lv_idiv hx hb (fh_d d_Mo_setLeft 153 rfl) (by decide) ?_
      refine lv_iload_n hx hb (fh_d d_Mo_setLeft 154 rfl) rfl (lv_at hl 3 rfl) ?_
      refine lv_isub hx hb (fh_d d_Mo_setLeft 155 rfl) ?_
      refine fh_callS (cc' := c_Mo_most) (nL' := 2) (rest := [.int (nI n0), .ref (x + 25)]) (av := [.int ((A 27) u), .int (((yTa s0 (2 * (ms (ms (((A 26) u) - (yX s0)) (((A 27) u) + (yX s0))) (4 * (yS s0))))) / 2) - (yX s0))]) X hR (m_Mo_most l D ct b RO (r - 1) n ((A 27) u) (((yTa s0 (2 * (ms (ms (((A 26) u) - (yX s0)) (((A 27) u) + (yX s0))) (4 * (yS s0))))) / 2) - (yX s0)) (mkM ct x g (up2 (up2 (up2 (up2 (up2 (up2 A 34 (upd (A 34) n0 (yTa s0 (2 * (ms (ms (((A 26) u) - (yX s0)) (((A 27) u) + (yX s0))) (4 * (yS s0))))))) 35 (upd (A 35) n0 ((yX s0) - ((yTa s0 (2 * (ms (ms (((A 26) u) - (yX s0)) (((A 27) u) + (yX s0))) (4 * (yS s0))))) / 2)))) 29 (upd (A 29) u 0)) 30 (upd (A 30) u 0)) 22 (upd (A 22) n0 ((0 + ((A 25) u)) + (4 * (yS s0))))) 23 (upd (A 23) n0 (ms ((A 26) u) ((yX s0) + ((yTa s0 (2 * (ms (ms (((A 26) u) - (yX s0)) (((A 27) u) + (yX s0))) (4 * (yS s0))))) / 2))))) th co at_ wr no nu op pi wi he de)) w1151 w1149 w1150 w9 ⟨by decide, by decide, by show _ = some 2; decide +kernel⟩ (by omega) (by decide) hP hS hl.1 rfl (by exact Nat.le_of_ble_eq_true rfl) (fh_d d_Mo_setLeft 156 rfl) ⟨Nat.le_refl _, Nat.le_refl _⟩ (fun v9 h9 n9 H locs hq hP hS => ?_)
      obtain ⟨rfl, q28a, q28b⟩ := hq
      rw [q28a, q28b] at hP
      refine W.eq (g2 := F0 m 261 ls [.int (ms ((A 27) u) (((yTa s0 (2 * (ms (ms (((A 26) u) - (yX s0)) (((A 27) u) + (yX s0))) (4 * (yS s0))))) / 2) - (yX s0))), .int (nI n0), .ref (x + 25)]) rfl ?_
      refine lv_goto (tgt := 271) hx hb (fh_d d_Mo_setLeft 157 rfl) rfl ?_
      refine fn_iast (f := A 24) (k := n0) hx hb hK hP hS 0 mkM_a24 rfl (rfl) (by omega) (by decide) (fh_d d_Mo_setLeft 162 rfl) (fun H locs hP hS => ?_)
      replace hP := fh_P.eq (h' := mkM ct x g (up2 (up2 (up2 (up2 (up2 (up2 (up2 A 34 (upd (A 34) n0 (yTa s0 (2 * (ms (ms (((A 26) u) - (yX s0)) (((A 27) u) + (yX s0))) (4 * (yS s0))))))) 35 (upd (A 35) n0 ((yX s0) - ((yTa s0 (2 * (ms (ms (((A 26) u) - (yX s0)) (((A 27) u) + (yX s0))) (4 * (yS s0))))) / 2)))) 29 (upd (A 29) u 0)) 30 (upd (A 30) u 0)) 22 (upd (A 22) n0 ((0 + ((A 25) u)) + (4 * (yS s0))))) 23 (upd (A 23) n0 (ms ((A 26) u) ((yX s0) + ((yTa s0 (2 * (ms (ms (((A 26) u) - (yX s0)) (((A 27) u) + (yX s0))) (4 * (yS s0))))) / 2))))) 24 (upd (A 24) n0 (ms ((A 27) u) (((yTa s0 (2 * (ms (ms (((A 26) u) - (yX s0)) (((A 27) u) + (yX s0))) (4 * (yS s0))))) / 2) - (yX s0))))) th co at_ wr no nu op pi wi he de) hP mkM_u24
      exact fh_vret X hP hS (fh_d d_Mo_setLeft 163 rfl) ⟨rfl, by unfold rf_lf; rw [if_pos ha9, if_neg hb9]; (try rfl), rfl⟩
  · skip
    by_cases hb9 : A 3 n0 = 46
    · skip
      refine lv_aload_n hx hb (fh_d d_Mo_setLeft 0 rfl) rfl (lv_at hl 0 rfl) ?_
      refine fh_get (own := "FormulaSetterModel") (ref := "FormulaSetterModel") (C := "FormulaSetterModel") (T := T_Mo) (N := 53) (v := .ref (x + 21)) hx hb hT i_Mo hown hK hP mkM_o rfl 27 (by decide) (hT _ w887) (fun _ h9 => h9) rfl (fh_d d_Mo_setLeft 1 rfl) ?_
      refine lv_iload_n hx hb (fh_d d_Mo_setLeft 2 rfl) rfl (lv_at hl 1 rfl) ?_
      refine fn_iald (f := A 20) (k := n0) hx hb hK hP 0 mkM_a20 rfl (rfl) (by omega) (by decide) (fh_d d_Mo_setLeft 3 rfl) ?_
      rw [show ((A 20) n0) = nI s0 from h20]
      refine fh_callS (cc' := c_Mo_zOf) (nL' := 1) (rest := []) (av := [.int (nI s0)]) X hR (m_Mo_zO l D ct b RO hR (r - 1) (by omega) n s0 hs0 (mkM ct x g A th co at_ wr no nu op pi wi he de)) w1139 w1137 w1138 w9 ⟨by decide, by decide, by show _ = some 1; decide +kernel⟩ (by omega) (by decide) hP hS hl.1 rfl (by exact Nat.le_of_ble_eq_true rfl) (fh_d d_Mo_setLeft 4 rfl) ⟨Nat.le_refl _, Nat.le_refl _⟩ (fun v9 h9 n9 H locs hq hP hS => ?_)
      obtain ⟨rfl, q29a, q29b⟩ := hq
      rw [q29a, q29b] at hP
      refine W.eq (g2 := F0 m 9 ls [.int (yS s0)]) rfl ?_
      refine lv_istore_n (lv' := [(2, .int (yS s0)), (0, .ref x), (1, .int (nI n0))]) hx hb (fh_d d_Mo_setLeft 5 rfl) rfl hl (by decide) rfl (fun ls hl => ?_)
      refine lv_aload_n hx hb (fh_d d_Mo_setLeft 6 rfl) rfl (lv_at hl 1 rfl) ?_
      refine fh_get (own := "FormulaSetterModel") (ref := "FormulaSetterModel") (C := "FormulaSetterModel") (T := T_Mo) (N := 53) (v := .ref (x + 21)) hx hb hT i_Mo hown hK hP mkM_o rfl 27 (by decide) (hT _ w887) (fun _ h9 => h9) rfl (fh_d d_Mo_setLeft 7 rfl) ?_
      refine lv_iload_n hx hb (fh_d d_Mo_setLeft 8 rfl) rfl (lv_at hl 2 rfl) ?_
      refine fn_iald (f := A 20) (k := n0) hx hb hK hP 0 mkM_a20 rfl (rfl) (by omega) (by decide) (fh_d d_Mo_setLeft 9 rfl) ?_
      rw [show ((A 20) n0) = nI s0 from h20]
      refine fh_callS (cc' := c_Mo_axisOf) (nL' := 1) (rest := []) (av := [.int (nI s0)]) X hR (m_Mo_xO l D ct b RO hR (r - 1) (by omega) n s0 hs0 (mkM ct x g A th co at_ wr no nu op pi wi he de)) w1167 w1165 w1166 w9 ⟨by decide, by decide, by show _ = some 1; decide +kernel⟩ (by omega) (by decide) hP hS hl.1 rfl (by exact Nat.le_of_ble_eq_true rfl) (fh_d d_Mo_setLeft 10 rfl) ⟨Nat.le_refl _, Nat.le_refl _⟩ (fun v9 h9 n9 H locs hq hP hS => ?_)
      obtain ⟨rfl, q30a, q30b⟩ := hq
      rw [q30a, q30b] at hP
      refine W.eq (g2 := F0 m 19 ls [.int (yX s0)]) rfl ?_
      refine lv_istore_n (lv' := [(3, .int (yX s0)), (2, .int (yS s0)), (0, .ref x), (1, .int (nI n0))]) hx hb (fh_d d_Mo_setLeft 11 rfl) rfl hl (by decide) rfl (fun ls hl => ?_)
      refine lv_aload_n hx hb (fh_d d_Mo_setLeft 12 rfl) rfl (lv_at hl 2 rfl) ?_
      refine fh_get (own := "FormulaSetterModel") (ref := "FormulaSetterModel") (C := "FormulaSetterModel") (T := T_Mo) (N := 53) (v := .ref (x + 11)) hx hb hT i_Mo hown hK hP mkM_o rfl 16 (by decide) (hT _ w876) (fun _ h9 => h9) rfl (fh_d d_Mo_setLeft 13 rfl) ?_
      refine lv_iload_n hx hb (fh_d d_Mo_setLeft 14 rfl) rfl (lv_at hl 3 rfl) ?_
      refine fn_iald (f := A 10) (k := n0) hx hb hK hP 0 mkM_a10 rfl (rfl) (by omega) (by decide) (fh_d d_Mo_setLeft 15 rfl) ?_
      rw [show ((A 10) n0) = nI u from h10]
      refine lv_istore (lv' := [(4, .int (nI u)), (3, .int (yX s0)), (2, .int (yS s0)), (0, .ref x), (1, .int (nI n0))]) hx hb (fh_d d_Mo_setLeft 16 rfl) hl (by decide) rfl (fun ls hl => ?_)
      refine lv_aload_n hx hb (fh_d d_Mo_setLeft 17 rfl) rfl (lv_at hl 3 rfl) ?_
      refine fh_get (own := "FormulaSetterModel") (ref := "FormulaSetterModel") (C := "FormulaSetterModel") (T := T_Mo) (N := 53) (v := .ref (x + 35)) hx hb hT i_Mo hown hK hP mkM_o rfl 41 (by decide) (hT _ w901) (fun _ h9 => h9) rfl (fh_d d_Mo_setLeft 18 rfl) ?_
      refine lv_iload_n hx hb (fh_d d_Mo_setLeft 19 rfl) rfl (lv_at hl 4 rfl) ?_
      refine lv_iconst (v := 2) hx hb (fh_d d_Mo_setLeft 20 rfl) (by decide) ?_
      refine lv_aload_n hx hb (fh_d d_Mo_setLeft 21 rfl) rfl (lv_at hl 3 rfl) ?_
      refine fh_get (own := "FormulaSetterModel") (ref := "FormulaSetterModel") (C := "FormulaSetterModel") (T := T_Mo) (N := 53) (v := .ref (x + 27)) hx hb hT i_Mo hown hK hP mkM_o rfl 33 (by decide) (hT _ w893) (fun _ h9 => h9) rfl (fh_d d_Mo_setLeft 22 rfl) ?_
      refine lv_iload hx hb (fh_d d_Mo_setLeft 23 rfl) (lv_at hl 0 rfl) ?_
      refine fn_iald (f := A 26) (k := u) hx hb hK hP 0 mkM_a26 rfl (rfl) (by omega) (by decide) (fh_d d_Mo_setLeft 24 rfl) ?_
      refine lv_iload_n hx hb (fh_d d_Mo_setLeft 25 rfl) rfl (lv_at hl 1 rfl) ?_
      refine lv_isub hx hb (fh_d d_Mo_setLeft 26 rfl) ?_
      refine lv_aload_n hx hb (fh_d d_Mo_setLeft 27 rfl) rfl (lv_at hl 3 rfl) ?_
      refine fh_get (own := "FormulaSetterModel") (ref := "FormulaSetterModel") (C := "FormulaSetterModel") (T := T_Mo) (N := 53) (v := .ref (x + 28)) hx hb hT i_Mo hown hK hP mkM_o rfl 34 (by decide) (hT _ w894) (fun _ h9 => h9) rfl (fh_d d_Mo_setLeft 28 rfl) ?_
      refine lv_iload hx hb (fh_d d_Mo_setLeft 29 rfl) (lv_at hl 0 rfl) ?_
      refine fn_iald (f := A 27) (k := u) hx hb hK hP 0 mkM_a27 rfl (rfl) (by omega) (by decide) (fh_d d_Mo_setLeft 30 rfl) ?_
      refine lv_iload_n hx hb (fh_d d_Mo_setLeft 31 rfl) rfl (lv_at hl 1 rfl) ?_
      refine lv_iadd hx hb (fh_d d_Mo_setLeft 32 rfl) ?_
      refine fh_callS (cc' := c_Mo_most) (nL' := 2) (rest := [.int 2, .int (nI n0), .ref (x + 35)]) (av := [.int (((A 26) u) - (yX s0)), .int (((A 27) u) + (yX s0))]) X hR (m_Mo_most l D ct b RO (r - 1) n (((A 26) u) - (yX s0)) (((A 27) u) + (yX s0)) (mkM ct x g A th co at_ wr no nu op pi wi he de)) w1151 w1149 w1150 w9 ⟨by decide, by decide, by show _ = some 2; decide +kernel⟩ (by omega) (by decide) hP hS hl.1 rfl (by exact Nat.le_of_ble_eq_true rfl) (fh_d d_Mo_setLeft 33 rfl) ⟨Nat.le_refl _, Nat.le_refl _⟩ (fun v9 h9 n9 H locs hq hP hS => ?_)
      obtain ⟨rfl, q31a, q31b⟩ := hq
      rw [q31a, q31b] at hP
      refine W.eq (g2 := F0 m 55 ls [.int (ms (((A 26) u) - (yX s0)) (((A 27) u) + (yX s0))), .int 2, .int (nI n0), .ref (x + 35)]) rfl ?_
      refine lv_iconst (v := 4) hx hb (fh_d d_Mo_setLeft 34 rfl) (by decide) ?_
      refine lv_iload_n hx hb (fh_d d_Mo_setLeft 35 rfl) rfl (lv_at hl 2 rfl) ?_
      refine lv_imul hx hb (fh_d d_Mo_setLeft 36 rfl) ?_
      refine fh_callS (cc' := c_Mo_most) (nL' := 2) (rest := [.int 2, .int (nI n0), .ref (x + 35)]) (av := [.int (ms (((A 26) u) - (yX s0)) (((A 27) u) + (yX s0))), .int (4 * (yS s0))]) X hR (m_Mo_most l D ct b RO (r - 1) n (ms (((A 26) u) - (yX s0)) (((A 27) u) + (yX s0))) (4 * (yS s0)) (mkM ct x g A th co at_ wr no nu op pi wi he de)) w1151 w1149 w1150 w9 ⟨by decide, by decide, by show _ = some 2; decide +kernel⟩ (by omega) (by decide) hP hS hl.1 rfl (by exact Nat.le_of_ble_eq_true rfl) (fh_d d_Mo_setLeft 37 rfl) ⟨Nat.le_refl _, Nat.le_refl _⟩ (fun v9 h9 n9 H locs hq hP hS => ?_)
      obtain ⟨rfl, q32a, q32b⟩ := hq
      rw [q32a, q32b] at hP
      refine W.eq (g2 := F0 m 61 ls [.int (ms (ms (((A 26) u) - (yX s0)) (((A 27) u) + (yX s0))) (4 * (yS s0))), .int 2, .int (nI n0), .ref (x + 35)]) rfl ?_
      refine lv_imul hx hb (fh_d d_Mo_setLeft 38 rfl) ?_
      refine lv_iload_n hx hb (fh_d d_Mo_setLeft 39 rfl) rfl (lv_at hl 2 rfl) ?_
      have hT9 : 2 * (ms (ms (((A 26) u) - (yX s0)) (((A 27) u) + (yX s0))) (4 * (yS s0))) = nI kT := by exact hTl
      rw [hT9]
      refine fh_callS (cc' := c_Mo_tallFor) (nL' := 3) (rest := [.int (nI n0), .ref (x + 35)]) (av := [.int (nI kT), .int (yS s0)]) X hR (m_Mo_tallFor l D ct b RO (r - 1) n s0 hs0 kT hkT (mkM ct x g A th co at_ wr no nu op pi wi he de)) w1181 w1179 w1180 w9 ⟨by decide, by decide, by show _ = some 2; decide +kernel⟩ (by omega) (by decide) hP hS hl.1 rfl (by exact Nat.le_of_ble_eq_true rfl) (fh_d d_Mo_setLeft 40 rfl) ⟨Nat.le_refl _, Nat.le_refl _⟩ (fun v9 h9 n9 H locs hq hP hS => ?_)
      obtain ⟨rfl, q33a, q33b⟩ := hq
      rw [q33a, q33b] at hP
      refine W.eq (g2 := F0 m 66 ls [.int (yTa s0 (nI kT)), .int (nI n0), .ref (x + 35)]) rfl ?_
      rw [← hT9]
      refine W.eq (g2 := F0 m 66 ls [.int (yTa s0 (2 * (ms (ms (((A 26) u) - (yX s0)) (((A 27) u) + (yX s0))) (4 * (yS s0))))), .int (nI n0), .ref (x + 35)]) rfl ?_
      refine fn_iast (f := A 34) (k := n0) hx hb hK hP hS 0 mkM_a34 rfl (rfl) (by omega) (by decide) (fh_d d_Mo_setLeft 41 rfl) (fun H locs hP hS => ?_)
      replace hP := fh_P.eq (h' := mkM ct x g (up2 A 34 (upd (A 34) n0 (yTa s0 (2 * (ms (ms (((A 26) u) - (yX s0)) (((A 27) u) + (yX s0))) (4 * (yS s0))))))) th co at_ wr no nu op pi wi he de) hP mkM_u34
      refine lv_aload_n hx hb (fh_d d_Mo_setLeft 42 rfl) rfl (lv_at hl 3 rfl) ?_
      refine fh_get (own := "FormulaSetterModel") (ref := "FormulaSetterModel") (C := "FormulaSetterModel") (T := T_Mo) (N := 53) (v := .ref (x + 36)) hx hb hT i_Mo hown hK hP mkM_o rfl 42 (by decide) (hT _ w902) (fun _ h9 => h9) rfl (fh_d d_Mo_setLeft 43 rfl) ?_
      refine lv_iload_n hx hb (fh_d d_Mo_setLeft 44 rfl) rfl (lv_at hl 4 rfl) ?_
      refine lv_iload_n hx hb (fh_d d_Mo_setLeft 45 rfl) rfl (lv_at hl 1 rfl) ?_
      refine lv_aload_n hx hb (fh_d d_Mo_setLeft 46 rfl) rfl (lv_at hl 3 rfl) ?_
      refine fh_get (own := "FormulaSetterModel") (ref := "FormulaSetterModel") (C := "FormulaSetterModel") (T := T_Mo) (N := 53) (v := .ref (x + 35)) hx hb hT i_Mo hown hK hP mkM_o rfl 41 (by decide) (hT _ w901) (fun _ h9 => h9) rfl (fh_d d_Mo_setLeft 47 rfl) ?_
      refine lv_iload_n hx hb (fh_d d_Mo_setLeft 48 rfl) rfl (lv_at hl 4 rfl) ?_
      refine fn_iald (f := upd (A 34) n0 (yTa s0 (2 * (ms (ms (((A 26) u) - (yX s0)) (((A 27) u) + (yX s0))) (4 * (yS s0)))))) (k := n0) hx hb hK hP 0 mkM_a34 rfl (rfl) (by omega) (by decide) (fh_d d_Mo_setLeft 49 rfl) ?_
      rw [show ((upd (A 34) n0 (yTa s0 (2 * (ms (ms (((A 26) u) - (yX s0)) (((A 27) u) + (yX s0))) (4 * (yS s0)))))) n0) = (yTa s0 (2 * (ms (ms (((A 26) u) - (yX s0)) (((A 27) u) + (yX s0))) (4 * (yS s0))))) from upd_s]
      refine lv_iconst (v := 2) hx hb (fh_d d_Mo_setLeft 50 rfl) (by decide) ?_
      refine lv_idiv hx hb (fh_d d_Mo_setLeft 51 rfl) (by decide) ?_
      refine lv_isub hx hb (fh_d d_Mo_setLeft 52 rfl) ?_
      refine fn_iast (f := A 35) (k := n0) hx hb hK hP hS 0 mkM_a35 rfl (rfl) (by omega) (by decide) (fh_d d_Mo_setLeft 53 rfl) (fun H locs hP hS => ?_)
      replace hP := fh_P.eq (h' := mkM ct x g (up2 (up2 A 34 (upd (A 34) n0 (yTa s0 (2 * (ms (ms (((A 26) u) - (yX s0)) (((A 27) u) + (yX s0))) (4 * (yS s0))))))) 35 (upd (A 35) n0 ((yX s0) - ((yTa s0 (2 * (ms (ms (((A 26) u) - (yX s0)) (((A 27) u) + (yX s0))) (4 * (yS s0))))) / 2)))) th co at_ wr no nu op pi wi he de) hP mkM_u35
      refine lv_aload_n hx hb (fh_d d_Mo_setLeft 54 rfl) rfl (lv_at hl 3 rfl) ?_
      refine fh_get (own := "FormulaSetterModel") (ref := "FormulaSetterModel") (C := "FormulaSetterModel") (T := T_Mo) (N := 53) (v := .ref (x + 3)) hx hb hT i_Mo hown hK hP mkM_o rfl 8 (by decide) (hT _ w868) (fun _ h9 => h9) rfl (fh_d d_Mo_setLeft 55 rfl) ?_
      refine lv_iload_n hx hb (fh_d d_Mo_setLeft 56 rfl) rfl (lv_at hl 4 rfl) ?_
      refine fn_iald (f := A 2) (k := n0) hx hb hK hP 0 mkM_a2 rfl (rfl) (by omega) (by decide) (fh_d d_Mo_setLeft 57 rfl) ?_
      refine lv_bipush (v := 46) hx hb (fh_d d_Mo_setLeft 58 rfl) (by decide) ?_
      refine lv_icmp_eq (tgt := 98) hx hb (fh_d d_Mo_setLeft 59 rfl) rfl (fun c34 => absurd c34 (ha9)) (fun c34 => ?_)
      refine lv_iconst (v := 1) hx hb (fh_d d_Mo_setLeft 60 rfl) (by decide) ?_
      refine lv_goto (tgt := 99) hx hb (fh_d d_Mo_setLeft 61 rfl) rfl ?_
      refine lv_istore (lv' := [(5, .int 1), (4, .int (nI u)), (3, .int (yX s0)), (2, .int (yS s0)), (0, .ref x), (1, .int (nI n0))]) hx hb (fh_d d_Mo_setLeft 63 rfl) hl (by decide) rfl (fun ls hl => ?_)
      refine lv_aload_n hx hb (fh_d d_Mo_setLeft 64 rfl) rfl (lv_at hl 4 rfl) ?_
      refine fh_get (own := "FormulaSetterModel") (ref := "FormulaSetterModel") (C := "FormulaSetterModel") (T := T_Mo) (N := 53) (v := .ref (x + 4)) hx hb hT i_Mo hown hK hP mkM_o rfl 9 (by decide) (hT _ w869) (fun _ h9 => h9) rfl (fh_d d_Mo_setLeft 65 rfl) ?_
      refine lv_iload_n hx hb (fh_d d_Mo_setLeft 66 rfl) rfl (lv_at hl 5 rfl) ?_
      refine fn_iald (f := A 3) (k := n0) hx hb hK hP 0 mkM_a3 rfl (rfl) (by omega) (by decide) (fh_d d_Mo_setLeft 67 rfl) ?_
      refine lv_bipush (v := 46) hx hb (fh_d d_Mo_setLeft 68 rfl) (by decide) ?_
      refine lv_icmp_eq (tgt := 116) hx hb (fh_d d_Mo_setLeft 69 rfl) rfl (fun c35 => ?_) (fun c35 => absurd c35 (Classical.not_not.mpr (hb9)))
      refine lv_iconst (v := 0) hx hb (fh_d d_Mo_setLeft 72 rfl) (by decide) ?_
      refine lv_istore (lv' := [(6, .int 0), (5, .int 1), (4, .int (nI u)), (3, .int (yX s0)), (2, .int (yS s0)), (0, .ref x), (1, .int (nI n0))]) hx hb (fh_d d_Mo_setLeft 73 rfl) hl (by decide) rfl (fun ls hl => ?_)
      refine lv_aload_n hx hb (fh_d d_Mo_setLeft 74 rfl) rfl (lv_at hl 5 rfl) ?_
      refine fh_get (own := "FormulaSetterModel") (ref := "FormulaSetterModel") (C := "FormulaSetterModel") (T := T_Mo) (N := 53) (v := .ref (x + 30)) hx hb hT i_Mo hown hK hP mkM_o rfl 36 (by decide) (hT _ w896) (fun _ h9 => h9) rfl (fh_d d_Mo_setLeft 75 rfl) ?_
      refine lv_iload hx hb (fh_d d_Mo_setLeft 76 rfl) (lv_at hl 2 rfl) ?_
      refine lv_iload hx hb (fh_d d_Mo_setLeft 77 rfl) (lv_at hl 1 rfl) ?_
      refine lv_if_eq (tgt := 136) hx hb (fh_d d_Mo_setLeft 78 rfl) rfl (fun c36 => absurd c36 (by decide)) (fun c36 => ?_)
      refine lv_iconst (v := 4) hx hb (fh_d d_Mo_setLeft 79 rfl) (by decide) ?_
      refine lv_iload_n hx hb (fh_d d_Mo_setLeft 80 rfl) rfl (lv_at hl 4 rfl) ?_
      refine lv_imul hx hb (fh_d d_Mo_setLeft 81 rfl) ?_
      refine lv_goto (tgt := 137) hx hb (fh_d d_Mo_setLeft 82 rfl) rfl ?_
      refine fn_iast (f := A 29) (k := u) hx hb hK hP hS 0 mkM_a29 rfl (rfl) (by omega) (by decide) (fh_d d_Mo_setLeft 84 rfl) (fun H locs hP hS => ?_)
      replace hP := fh_P.eq (h' := mkM ct x g (up2 (up2 (up2 A 34 (upd (A 34) n0 (yTa s0 (2 * (ms (ms (((A 26) u) - (yX s0)) (((A 27) u) + (yX s0))) (4 * (yS s0))))))) 35 (upd (A 35) n0 ((yX s0) - ((yTa s0 (2 * (ms (ms (((A 26) u) - (yX s0)) (((A 27) u) + (yX s0))) (4 * (yS s0))))) / 2)))) 29 (upd (A 29) u (4 * (yS s0)))) th co at_ wr no nu op pi wi he de) hP mkM_u29
      refine lv_aload_n hx hb (fh_d d_Mo_setLeft 85 rfl) rfl (lv_at hl 5 rfl) ?_
      refine fh_get (own := "FormulaSetterModel") (ref := "FormulaSetterModel") (C := "FormulaSetterModel") (T := T_Mo) (N := 53) (v := .ref (x + 31)) hx hb hT i_Mo hown hK hP mkM_o rfl 37 (by decide) (hT _ w897) (fun _ h9 => h9) rfl (fh_d d_Mo_setLeft 86 rfl) ?_
      refine lv_iload hx hb (fh_d d_Mo_setLeft 87 rfl) (lv_at hl 2 rfl) ?_
      refine lv_iconst (v := 0) hx hb (fh_d d_Mo_setLeft 88 rfl) (by decide) ?_
      refine fn_iast (f := A 30) (k := u) hx hb hK hP hS 0 mkM_a30 rfl (rfl) (by omega) (by decide) (fh_d d_Mo_setLeft 89 rfl) (fun H locs hP hS => ?_)
      replace hP := fh_P.eq (h' := mkM ct x g (up2 (up2 (up2 (up2 A 34 (upd (A 34) n0 (yTa s0 (2 * (ms (ms (((A 26) u) - (yX s0)) (((A 27) u) + (yX s0))) (4 * (yS s0))))))) 35 (upd (A 35) n0 ((yX s0) - ((yTa s0 (2 * (ms (ms (((A 26) u) - (yX s0)) (((A 27) u) + (yX s0))) (4 * (yS s0))))) / 2)))) 29 (upd (A 29) u (4 * (yS s0)))) 30 (upd (A 30) u 0)) th co at_ wr no nu op pi wi he de) hP mkM_u30
      refine lv_aload_n hx hb (fh_d d_Mo_setLeft 90 rfl) rfl (lv_at hl 5 rfl) ?_
      refine fh_get (own := "FormulaSetterModel") (ref := "FormulaSetterModel") (C := "FormulaSetterModel") (T := T_Mo) (N := 53) (v := .ref (x + 23)) hx hb hT i_Mo hown hK hP mkM_o rfl 29 (by decide) (hT _ w889) (fun _ h9 => h9) rfl (fh_d d_Mo_setLeft 91 rfl) ?_
      refine lv_iload_n hx hb (fh_d d_Mo_setLeft 92 rfl) rfl (lv_at hl 6 rfl) ?_
      refine lv_aload_n hx hb (fh_d d_Mo_setLeft 93 rfl) rfl (lv_at hl 5 rfl) ?_
      refine fh_get (own := "FormulaSetterModel") (ref := "FormulaSetterModel") (C := "FormulaSetterModel") (T := T_Mo) (N := 53) (v := .ref (x + 30)) hx hb hT i_Mo hown hK hP mkM_o rfl 36 (by decide) (hT _ w896) (fun _ h9 => h9) rfl (fh_d d_Mo_setLeft 94 rfl) ?_
      refine lv_iload hx hb (fh_d d_Mo_setLeft 95 rfl) (lv_at hl 2 rfl) ?_
      refine fn_iald (f := upd (A 29) u (4 * (yS s0))) (k := u) hx hb hK hP 0 mkM_a29 rfl (rfl) (by omega) (by decide) (fh_d d_Mo_setLeft 96 rfl) ?_
      rw [show ((upd (A 29) u (4 * (yS s0))) u) = (4 * (yS s0)) from upd_s]
      refine lv_aload_n hx hb (fh_d d_Mo_setLeft 97 rfl) rfl (lv_at hl 5 rfl) ?_
      refine fh_get (own := "FormulaSetterModel") (ref := "FormulaSetterModel") (C := "FormulaSetterModel") (T := T_Mo) (N := 53) (v := .ref (x + 26)) hx hb hT i_Mo hown hK hP mkM_o rfl 32 (by decide) (hT _ w892) (fun _ h9 => h9) rfl (fh_d d_Mo_setLeft 98 rfl) ?_
      refine lv_iload hx hb (fh_d d_Mo_setLeft 99 rfl) (lv_at hl 2 rfl) ?_
      refine fn_iald (f := A 25) (k := u) hx hb hK hP 0 mkM_a25 rfl (rfl) (by omega) (by decide) (fh_d d_Mo_setLeft 100 rfl) ?_
      refine lv_iadd hx hb (fh_d d_Mo_setLeft 101 rfl) ?_
      refine lv_iload hx hb (fh_d d_Mo_setLeft 102 rfl) (lv_at hl 0 rfl) ?_
      refine lv_if_eq (tgt := 177) hx hb (fh_d d_Mo_setLeft 103 rfl) rfl (fun c37 => ?_) (fun c37 => absurd c37 (Classical.not_not.mpr (by decide)))
      refine lv_iconst (v := 0) hx hb (fh_d d_Mo_setLeft 108 rfl) (by decide) ?_
      refine lv_iadd hx hb (fh_d d_Mo_setLeft 109 rfl) ?_
      refine fn_iast (f := A 22) (k := n0) hx hb hK hP hS 0 mkM_a22 rfl (rfl) (by omega) (by decide) (fh_d d_Mo_setLeft 110 rfl) (fun H locs hP hS => ?_)
      replace hP := fh_P.eq (h' := mkM ct x g (up2 (up2 (up2 (up2 (up2 A 34 (upd (A 34) n0 (yTa s0 (2 * (ms (ms (((A 26) u) - (yX s0)) (((A 27) u) + (yX s0))) (4 * (yS s0))))))) 35 (upd (A 35) n0 ((yX s0) - ((yTa s0 (2 * (ms (ms (((A 26) u) - (yX s0)) (((A 27) u) + (yX s0))) (4 * (yS s0))))) / 2)))) 29 (upd (A 29) u (4 * (yS s0)))) 30 (upd (A 30) u 0)) 22 (upd (A 22) n0 (((4 * (yS s0)) + ((A 25) u)) + 0))) th co at_ wr no nu op pi wi he de) hP mkM_u22
      refine lv_aload_n hx hb (fh_d d_Mo_setLeft 111 rfl) rfl (lv_at hl 5 rfl) ?_
      refine fh_get (own := "FormulaSetterModel") (ref := "FormulaSetterModel") (C := "FormulaSetterModel") (T := T_Mo) (N := 53) (v := .ref (x + 24)) hx hb hT i_Mo hown hK hP mkM_o rfl 30 (by decide) (hT _ w890) (fun _ h9 => h9) rfl (fh_d d_Mo_setLeft 112 rfl) ?_
      refine lv_iload_n hx hb (fh_d d_Mo_setLeft 113 rfl) rfl (lv_at hl 6 rfl) ?_
      refine lv_iload hx hb (fh_d d_Mo_setLeft 114 rfl) (lv_at hl 1 rfl) ?_
      refine lv_if_ne (tgt := 195) hx hb (fh_d d_Mo_setLeft 115 rfl) rfl (fun c38 => ?_) (fun c38 => absurd c38 (by decide))
      refine lv_aload_n hx hb (fh_d d_Mo_setLeft 118 rfl) rfl (lv_at hl 5 rfl) ?_
      refine fh_get (own := "FormulaSetterModel") (ref := "FormulaSetterModel") (C := "FormulaSetterModel") (T := T_Mo) (N := 53) (v := .ref (x + 27)) hx hb hT i_Mo hown hK hP mkM_o rfl 33 (by decide) (hT _ w893) (fun _ h9 => h9) rfl (fh_d d_Mo_setLeft 119 rfl) ?_
      refine lv_iload hx hb (fh_d d_Mo_setLeft 120 rfl) (lv_at hl 2 rfl) ?_
      refine fn_iald (f := A 26) (k := u) hx hb hK hP 0 mkM_a26 rfl (rfl) (by omega) (by decide) (fh_d d_Mo_setLeft 121 rfl) ?_
      refine lv_iload_n hx hb (fh_d d_Mo_setLeft 122 rfl) rfl (lv_at hl 3 rfl) ?_
      refine lv_aload_n hx hb (fh_d d_Mo_setLeft 123 rfl) rfl (lv_at hl 5 rfl) ?_
      refine fh_get (own := "FormulaSetterModel") (ref := "FormulaSetterModel") (C := "FormulaSetterModel") (T := T_Mo) (N := 53) (v := .ref (x + 35)) hx hb hT i_Mo hown hK hP mkM_o rfl 41 (by decide) (hT _ w901) (fun _ h9 => h9) rfl (fh_d d_Mo_setLeft 124 rfl) ?_
      refine lv_iload_n hx hb (fh_d d_Mo_setLeft 125 rfl) rfl (lv_at hl 6 rfl) ?_
      refine fn_iald (f := upd (A 34) n0 (yTa s0 (2 * (ms (ms (((A 26) u) - (yX s0)) (((A 27) u) + (yX s0))) (4 * (yS s0)))))) (k := n0) hx hb hK hP 0 mkM_a34 rfl (rfl) (by omega) (by decide) (fh_d d_Mo_setLeft 126 rfl) ?_
      rw [show ((upd (A 34) n0 (yTa s0 (2 * (ms (ms (((A 26) u) - (yX s0)) (((A 27) u) + (yX s0))) (4 * (yS s0)))))) n0) = (yTa s0 (2 * (ms (ms (((A 26) u) - (yX s0)) (((A 27) u) + (yX s0))) (4 * (yS s0))))) from upd_s]
      refine lv_iconst (v := 2) hx hb (fh_d d_Mo_setLeft 127 rfl) (by decide) ?_
      refine lv_idiv hx hb (fh_d d_Mo_setLeft 128 rfl) (by decide) ?_
      refine lv_iadd hx hb (fh_d d_Mo_setLeft 129 rfl) ?_
      refine fh_callS (cc' := c_Mo_most) (nL' := 2) (rest := [.int (nI n0), .ref (x + 24)]) (av := [.int ((A 26) u), .int ((yX s0) + ((yTa s0 (2 * (ms (ms (((A 26) u) - (yX s0)) (((A 27) u) + (yX s0))) (4 * (yS s0))))) / 2))]) X hR (m_Mo_most l D ct b RO (r - 1) n ((A 26) u) ((yX s0) + ((yTa s0 (2 * (ms (ms (((A 26) u) - (yX s0)) (((A 27) u) + (yX s0))) (4 * (yS s0))))) / 2)) (mkM ct x g (up2 (up2 (up2 (up2 (up2 A 34 (upd (A 34) n0 (yTa s0 (2 * (ms (ms (((A 26) u) - (yX s0)) (((A 27) u) + (yX s0))) (4 * (yS s0))))))) 35 (upd (A 35) n0 ((yX s0) - ((yTa s0 (2 * (ms (ms (((A 26) u) - (yX s0)) (((A 27) u) + (yX s0))) (4 * (yS s0))))) / 2)))) 29 (upd (A 29) u (4 * (yS s0)))) 30 (upd (A 30) u 0)) 22 (upd (A 22) n0 (((4 * (yS s0)) + ((A 25) u)) + 0))) th co at_ wr no nu op pi wi he de)) w1151 w1149 w1150 w9 ⟨by decide, by decide, by show _ = some 2; decide +kernel⟩ (by omega) (by decide) hP hS hl.1 rfl (by exact Nat.le_of_ble_eq_true rfl) (fh_d d_Mo_setLeft 130 rfl) ⟨Nat.le_refl _, Nat.le_refl _⟩ (fun v9 h9 n9 H locs hq hP hS => ?_)
      obtain ⟨rfl, q39a, q39b⟩ := hq
      rw [q39a, q39b] at hP
      refine W.eq (g2 := F0 m 215 ls [.int (ms ((A 26) u) ((yX s0) + ((yTa s0 (2 * (ms (ms (((A 26) u) - (yX s0)) (((A 27) u) + (yX s0))) (4 * (yS s0))))) / 2))), .int (nI n0), .ref (x + 24)]) rfl ?_
      refine lv_goto (tgt := 225) hx hb (fh_d d_Mo_setLeft 131 rfl) rfl ?_
      refine fn_iast (f := A 23) (k := n0) hx hb hK hP hS 0 mkM_a23 rfl (rfl) (by omega) (by decide) (fh_d d_Mo_setLeft 136 rfl) (fun H locs hP hS => ?_)
      replace hP := fh_P.eq (h' := mkM ct x g (up2 (up2 (up2 (up2 (up2 (up2 A 34 (upd (A 34) n0 (yTa s0 (2 * (ms (ms (((A 26) u) - (yX s0)) (((A 27) u) + (yX s0))) (4 * (yS s0))))))) 35 (upd (A 35) n0 ((yX s0) - ((yTa s0 (2 * (ms (ms (((A 26) u) - (yX s0)) (((A 27) u) + (yX s0))) (4 * (yS s0))))) / 2)))) 29 (upd (A 29) u (4 * (yS s0)))) 30 (upd (A 30) u 0)) 22 (upd (A 22) n0 (((4 * (yS s0)) + ((A 25) u)) + 0))) 23 (upd (A 23) n0 (ms ((A 26) u) ((yX s0) + ((yTa s0 (2 * (ms (ms (((A 26) u) - (yX s0)) (((A 27) u) + (yX s0))) (4 * (yS s0))))) / 2))))) th co at_ wr no nu op pi wi he de) hP mkM_u23
      refine lv_aload_n hx hb (fh_d d_Mo_setLeft 137 rfl) rfl (lv_at hl 5 rfl) ?_
      refine fh_get (own := "FormulaSetterModel") (ref := "FormulaSetterModel") (C := "FormulaSetterModel") (T := T_Mo) (N := 53) (v := .ref (x + 25)) hx hb hT i_Mo hown hK hP mkM_o rfl 31 (by decide) (hT _ w891) (fun _ h9 => h9) rfl (fh_d d_Mo_setLeft 138 rfl) ?_
      refine lv_iload_n hx hb (fh_d d_Mo_setLeft 139 rfl) rfl (lv_at hl 6 rfl) ?_
      refine lv_iload hx hb (fh_d d_Mo_setLeft 140 rfl) (lv_at hl 1 rfl) ?_
      refine lv_if_ne (tgt := 241) hx hb (fh_d d_Mo_setLeft 141 rfl) rfl (fun c40 => ?_) (fun c40 => absurd c40 (by decide))
      refine lv_aload_n hx hb (fh_d d_Mo_setLeft 144 rfl) rfl (lv_at hl 5 rfl) ?_
      refine fh_get (own := "FormulaSetterModel") (ref := "FormulaSetterModel") (C := "FormulaSetterModel") (T := T_Mo) (N := 53) (v := .ref (x + 28)) hx hb hT i_Mo hown hK hP mkM_o rfl 34 (by decide) (hT _ w894) (fun _ h9 => h9) rfl (fh_d d_Mo_setLeft 145 rfl) ?_
      refine lv_iload hx hb (fh_d d_Mo_setLeft 146 rfl) (lv_at hl 2 rfl) ?_
      refine fn_iald (f := A 27) (k := u) hx hb hK hP 0 mkM_a27 rfl (rfl) (by omega) (by decide) (fh_d d_Mo_setLeft 147 rfl) ?_
      refine lv_aload_n hx hb (fh_d d_Mo_setLeft 148 rfl) rfl (lv_at hl 5 rfl) ?_
      refine fh_get (own := "FormulaSetterModel") (ref := "FormulaSetterModel") (C := "FormulaSetterModel") (T := T_Mo) (N := 53) (v := .ref (x + 35)) hx hb hT i_Mo hown hK hP mkM_o rfl 41 (by decide) (hT _ w901) (fun _ h9 => h9) rfl (fh_d d_Mo_setLeft 149 rfl) ?_
      refine lv_iload_n hx hb (fh_d d_Mo_setLeft 150 rfl) rfl (lv_at hl 6 rfl) ?_
      refine fn_iald (f := upd (A 34) n0 (yTa s0 (2 * (ms (ms (((A 26) u) - (yX s0)) (((A 27) u) + (yX s0))) (4 * (yS s0)))))) (k := n0) hx hb hK hP 0 mkM_a34 rfl (rfl) (by omega) (by decide) (fh_d d_Mo_setLeft 151 rfl) ?_
      rw [show ((upd (A 34) n0 (yTa s0 (2 * (ms (ms (((A 26) u) - (yX s0)) (((A 27) u) + (yX s0))) (4 * (yS s0)))))) n0) = (yTa s0 (2 * (ms (ms (((A 26) u) - (yX s0)) (((A 27) u) + (yX s0))) (4 * (yS s0))))) from upd_s]
      refine lv_iconst (v := 2) hx hb (fh_d d_Mo_setLeft 152 rfl) (by decide) ?_
      refine lv_idiv hx hb (fh_d d_Mo_setLeft 153 rfl) (by decide) ?_
      refine lv_iload_n hx hb (fh_d d_Mo_setLeft 154 rfl) rfl (lv_at hl 3 rfl) ?_
      refine lv_isub hx hb (fh_d d_Mo_setLeft 155 rfl) ?_
      refine fh_callS (cc' := c_Mo_most) (nL' := 2) (rest := [.int (nI n0), .ref (x + 25)]) (av := [.int ((A 27) u), .int (((yTa s0 (2 * (ms (ms (((A 26) u) - (yX s0)) (((A 27) u) + (yX s0))) (4 * (yS s0))))) / 2) - (yX s0))]) X hR (m_Mo_most l D ct b RO (r - 1) n ((A 27) u) (((yTa s0 (2 * (ms (ms (((A 26) u) - (yX s0)) (((A 27) u) + (yX s0))) (4 * (yS s0))))) / 2) - (yX s0)) (mkM ct x g (up2 (up2 (up2 (up2 (up2 (up2 A 34 (upd (A 34) n0 (yTa s0 (2 * (ms (ms (((A 26) u) - (yX s0)) (((A 27) u) + (yX s0))) (4 * (yS s0))))))) 35 (upd (A 35) n0 ((yX s0) - ((yTa s0 (2 * (ms (ms (((A 26) u) - (yX s0)) (((A 27) u) + (yX s0))) (4 * (yS s0))))) / 2)))) 29 (upd (A 29) u (4 * (yS s0)))) 30 (upd (A 30) u 0)) 22 (upd (A 22) n0 (((4 * (yS s0)) + ((A 25) u)) + 0))) 23 (upd (A 23) n0 (ms ((A 26) u) ((yX s0) + ((yTa s0 (2 * (ms (ms (((A 26) u) - (yX s0)) (((A 27) u) + (yX s0))) (4 * (yS s0))))) / 2))))) th co at_ wr no nu op pi wi he de)) w1151 w1149 w1150 w9 ⟨by decide, by decide, by show _ = some 2; decide +kernel⟩ (by omega) (by decide) hP hS hl.1 rfl (by exact Nat.le_of_ble_eq_true rfl) (fh_d d_Mo_setLeft 156 rfl) ⟨Nat.le_refl _, Nat.le_refl _⟩ (fun v9 h9 n9 H locs hq hP hS => ?_)
      obtain ⟨rfl, q41a, q41b⟩ := hq
      rw [q41a, q41b] at hP
      refine W.eq (g2 := F0 m 261 ls [.int (ms ((A 27) u) (((yTa s0 (2 * (ms (ms (((A 26) u) - (yX s0)) (((A 27) u) + (yX s0))) (4 * (yS s0))))) / 2) - (yX s0))), .int (nI n0), .ref (x + 25)]) rfl ?_
      refine lv_goto (tgt := 271) hx hb (fh_d d_Mo_setLeft 157 rfl) rfl ?_
      refine fn_iast (f := A 24) (k := n0) hx hb hK hP hS 0 mkM_a24 rfl (rfl) (by omega) (by decide) (fh_d d_Mo_setLeft 162 rfl) (fun H locs hP hS => ?_)
      replace hP := fh_P.eq (h' := mkM ct x g (up2 (up2 (up2 (up2 (up2 (up2 (up2 A 34 (upd (A 34) n0 (yTa s0 (2 * (ms (ms (((A 26) u) - (yX s0)) (((A 27) u) + (yX s0))) (4 * (yS s0))))))) 35 (upd (A 35) n0 ((yX s0) - ((yTa s0 (2 * (ms (ms (((A 26) u) - (yX s0)) (((A 27) u) + (yX s0))) (4 * (yS s0))))) / 2)))) 29 (upd (A 29) u (4 * (yS s0)))) 30 (upd (A 30) u 0)) 22 (upd (A 22) n0 (((4 * (yS s0)) + ((A 25) u)) + 0))) 23 (upd (A 23) n0 (ms ((A 26) u) ((yX s0) + ((yTa s0 (2 * (ms (ms (((A 26) u) - (yX s0)) (((A 27) u) + (yX s0))) (4 * (yS s0))))) / 2))))) 24 (upd (A 24) n0 (ms ((A 27) u) (((yTa s0 (2 * (ms (ms (((A 26) u) - (yX s0)) (((A 27) u) + (yX s0))) (4 * (yS s0))))) / 2) - (yX s0))))) th co at_ wr no nu op pi wi he de) hP mkM_u24
      exact fh_vret X hP hS (fh_d d_Mo_setLeft 163 rfl) ⟨rfl, by unfold rf_lf; rw [if_neg ha9, if_pos hb9]; (try rfl), rfl⟩
    · skip
      refine lv_aload_n hx hb (fh_d d_Mo_setLeft 0 rfl) rfl (lv_at hl 0 rfl) ?_
      refine fh_get (own := "FormulaSetterModel") (ref := "FormulaSetterModel") (C := "FormulaSetterModel") (T := T_Mo) (N := 53) (v := .ref (x + 21)) hx hb hT i_Mo hown hK hP mkM_o rfl 27 (by decide) (hT _ w887) (fun _ h9 => h9) rfl (fh_d d_Mo_setLeft 1 rfl) ?_
      refine lv_iload_n hx hb (fh_d d_Mo_setLeft 2 rfl) rfl (lv_at hl 1 rfl) ?_
      refine fn_iald (f := A 20) (k := n0) hx hb hK hP 0 mkM_a20 rfl (rfl) (by omega) (by decide) (fh_d d_Mo_setLeft 3 rfl) ?_
      rw [show ((A 20) n0) = nI s0 from h20]
      refine fh_callS (cc' := c_Mo_zOf) (nL' := 1) (rest := []) (av := [.int (nI s0)]) X hR (m_Mo_zO l D ct b RO hR (r - 1) (by omega) n s0 hs0 (mkM ct x g A th co at_ wr no nu op pi wi he de)) w1139 w1137 w1138 w9 ⟨by decide, by decide, by show _ = some 1; decide +kernel⟩ (by omega) (by decide) hP hS hl.1 rfl (by exact Nat.le_of_ble_eq_true rfl) (fh_d d_Mo_setLeft 4 rfl) ⟨Nat.le_refl _, Nat.le_refl _⟩ (fun v9 h9 n9 H locs hq hP hS => ?_)
      obtain ⟨rfl, q42a, q42b⟩ := hq
      rw [q42a, q42b] at hP
      refine W.eq (g2 := F0 m 9 ls [.int (yS s0)]) rfl ?_
      refine lv_istore_n (lv' := [(2, .int (yS s0)), (0, .ref x), (1, .int (nI n0))]) hx hb (fh_d d_Mo_setLeft 5 rfl) rfl hl (by decide) rfl (fun ls hl => ?_)
      refine lv_aload_n hx hb (fh_d d_Mo_setLeft 6 rfl) rfl (lv_at hl 1 rfl) ?_
      refine fh_get (own := "FormulaSetterModel") (ref := "FormulaSetterModel") (C := "FormulaSetterModel") (T := T_Mo) (N := 53) (v := .ref (x + 21)) hx hb hT i_Mo hown hK hP mkM_o rfl 27 (by decide) (hT _ w887) (fun _ h9 => h9) rfl (fh_d d_Mo_setLeft 7 rfl) ?_
      refine lv_iload_n hx hb (fh_d d_Mo_setLeft 8 rfl) rfl (lv_at hl 2 rfl) ?_
      refine fn_iald (f := A 20) (k := n0) hx hb hK hP 0 mkM_a20 rfl (rfl) (by omega) (by decide) (fh_d d_Mo_setLeft 9 rfl) ?_
      rw [show ((A 20) n0) = nI s0 from h20]
      refine fh_callS (cc' := c_Mo_axisOf) (nL' := 1) (rest := []) (av := [.int (nI s0)]) X hR (m_Mo_xO l D ct b RO hR (r - 1) (by omega) n s0 hs0 (mkM ct x g A th co at_ wr no nu op pi wi he de)) w1167 w1165 w1166 w9 ⟨by decide, by decide, by show _ = some 1; decide +kernel⟩ (by omega) (by decide) hP hS hl.1 rfl (by exact Nat.le_of_ble_eq_true rfl) (fh_d d_Mo_setLeft 10 rfl) ⟨Nat.le_refl _, Nat.le_refl _⟩ (fun v9 h9 n9 H locs hq hP hS => ?_)
      obtain ⟨rfl, q43a, q43b⟩ := hq
      rw [q43a, q43b] at hP
      refine W.eq (g2 := F0 m 19 ls [.int (yX s0)]) rfl ?_
      refine lv_istore_n (lv' := [(3, .int (yX s0)), (2, .int (yS s0)), (0, .ref x), (1, .int (nI n0))]) hx hb (fh_d d_Mo_setLeft 11 rfl) rfl hl (by decide) rfl (fun ls hl => ?_)
      refine lv_aload_n hx hb (fh_d d_Mo_setLeft 12 rfl) rfl (lv_at hl 2 rfl) ?_
      refine fh_get (own := "FormulaSetterModel") (ref := "FormulaSetterModel") (C := "FormulaSetterModel") (T := T_Mo) (N := 53) (v := .ref (x + 11)) hx hb hT i_Mo hown hK hP mkM_o rfl 16 (by decide) (hT _ w876) (fun _ h9 => h9) rfl (fh_d d_Mo_setLeft 13 rfl) ?_
      refine lv_iload_n hx hb (fh_d d_Mo_setLeft 14 rfl) rfl (lv_at hl 3 rfl) ?_
      refine fn_iald (f := A 10) (k := n0) hx hb hK hP 0 mkM_a10 rfl (rfl) (by omega) (by decide) (fh_d d_Mo_setLeft 15 rfl) ?_
      rw [show ((A 10) n0) = nI u from h10]
      refine lv_istore (lv' := [(4, .int (nI u)), (3, .int (yX s0)), (2, .int (yS s0)), (0, .ref x), (1, .int (nI n0))]) hx hb (fh_d d_Mo_setLeft 16 rfl) hl (by decide) rfl (fun ls hl => ?_)
      refine lv_aload_n hx hb (fh_d d_Mo_setLeft 17 rfl) rfl (lv_at hl 3 rfl) ?_
      refine fh_get (own := "FormulaSetterModel") (ref := "FormulaSetterModel") (C := "FormulaSetterModel") (T := T_Mo) (N := 53) (v := .ref (x + 35)) hx hb hT i_Mo hown hK hP mkM_o rfl 41 (by decide) (hT _ w901) (fun _ h9 => h9) rfl (fh_d d_Mo_setLeft 18 rfl) ?_
      refine lv_iload_n hx hb (fh_d d_Mo_setLeft 19 rfl) rfl (lv_at hl 4 rfl) ?_
      refine lv_iconst (v := 2) hx hb (fh_d d_Mo_setLeft 20 rfl) (by decide) ?_
      refine lv_aload_n hx hb (fh_d d_Mo_setLeft 21 rfl) rfl (lv_at hl 3 rfl) ?_
      refine fh_get (own := "FormulaSetterModel") (ref := "FormulaSetterModel") (C := "FormulaSetterModel") (T := T_Mo) (N := 53) (v := .ref (x + 27)) hx hb hT i_Mo hown hK hP mkM_o rfl 33 (by decide) (hT _ w893) (fun _ h9 => h9) rfl (fh_d d_Mo_setLeft 22 rfl) ?_
      refine lv_iload hx hb (fh_d d_Mo_setLeft 23 rfl) (lv_at hl 0 rfl) ?_
      refine fn_iald (f := A 26) (k := u) hx hb hK hP 0 mkM_a26 rfl (rfl) (by omega) (by decide) (fh_d d_Mo_setLeft 24 rfl) ?_
      refine lv_iload_n hx hb (fh_d d_Mo_setLeft 25 rfl) rfl (lv_at hl 1 rfl) ?_
      refine lv_isub hx hb (fh_d d_Mo_setLeft 26 rfl) ?_
      refine lv_aload_n hx hb (fh_d d_Mo_setLeft 27 rfl) rfl (lv_at hl 3 rfl) ?_
      refine fh_get (own := "FormulaSetterModel") (ref := "FormulaSetterModel") (C := "FormulaSetterModel") (T := T_Mo) (N := 53) (v := .ref (x + 28)) hx hb hT i_Mo hown hK hP mkM_o rfl 34 (by decide) (hT _ w894) (fun _ h9 => h9) rfl (fh_d d_Mo_setLeft 28 rfl) ?_
      refine lv_iload hx hb (fh_d d_Mo_setLeft 29 rfl) (lv_at hl 0 rfl) ?_
      refine fn_iald (f := A 27) (k := u) hx hb hK hP 0 mkM_a27 rfl (rfl) (by omega) (by decide) (fh_d d_Mo_setLeft 30 rfl) ?_
      refine lv_iload_n hx hb (fh_d d_Mo_setLeft 31 rfl) rfl (lv_at hl 1 rfl) ?_
      refine lv_iadd hx hb (fh_d d_Mo_setLeft 32 rfl) ?_
      refine fh_callS (cc' := c_Mo_most) (nL' := 2) (rest := [.int 2, .int (nI n0), .ref (x + 35)]) (av := [.int (((A 26) u) - (yX s0)), .int (((A 27) u) + (yX s0))]) X hR (m_Mo_most l D ct b RO (r - 1) n (((A 26) u) - (yX s0)) (((A 27) u) + (yX s0)) (mkM ct x g A th co at_ wr no nu op pi wi he de)) w1151 w1149 w1150 w9 ⟨by decide, by decide, by show _ = some 2; decide +kernel⟩ (by omega) (by decide) hP hS hl.1 rfl (by exact Nat.le_of_ble_eq_true rfl) (fh_d d_Mo_setLeft 33 rfl) ⟨Nat.le_refl _, Nat.le_refl _⟩ (fun v9 h9 n9 H locs hq hP hS => ?_)
      obtain ⟨rfl, q44a, q44b⟩ := hq
      rw [q44a, q44b] at hP
      refine W.eq (g2 := F0 m 55 ls [.int (ms (((A 26) u) - (yX s0)) (((A 27) u) + (yX s0))), .int 2, .int (nI n0), .ref (x + 35)]) rfl ?_
      refine lv_iconst (v := 4) hx hb (fh_d d_Mo_setLeft 34 rfl) (by decide) ?_
      refine lv_iload_n hx hb (fh_d d_Mo_setLeft 35 rfl) rfl (lv_at hl 2 rfl) ?_
      refine lv_imul hx hb (fh_d d_Mo_setLeft 36 rfl) ?_
      refine fh_callS (cc' := c_Mo_most) (nL' := 2) (rest := [.int 2, .int (nI n0), .ref (x + 35)]) (av := [.int (ms (((A 26) u) - (yX s0)) (((A 27) u) + (yX s0))), .int (4 * (yS s0))]) X hR (m_Mo_most l D ct b RO (r - 1) n (ms (((A 26) u) - (yX s0)) (((A 27) u) + (yX s0))) (4 * (yS s0)) (mkM ct x g A th co at_ wr no nu op pi wi he de)) w1151 w1149 w1150 w9 ⟨by decide, by decide, by show _ = some 2; decide +kernel⟩ (by omega) (by decide) hP hS hl.1 rfl (by exact Nat.le_of_ble_eq_true rfl) (fh_d d_Mo_setLeft 37 rfl) ⟨Nat.le_refl _, Nat.le_refl _⟩ (fun v9 h9 n9 H locs hq hP hS => ?_)
      obtain ⟨rfl, q45a, q45b⟩ := hq
      rw [q45a, q45b] at hP
      refine W.eq (g2 := F0 m 61 ls [.int (ms (ms (((A 26) u) - (yX s0)) (((A 27) u) + (yX s0))) (4 * (yS s0))), .int 2, .int (nI n0), .ref (x + 35)]) rfl ?_
      refine lv_imul hx hb (fh_d d_Mo_setLeft 38 rfl) ?_
      refine lv_iload_n hx hb (fh_d d_Mo_setLeft 39 rfl) rfl (lv_at hl 2 rfl) ?_
      have hT9 : 2 * (ms (ms (((A 26) u) - (yX s0)) (((A 27) u) + (yX s0))) (4 * (yS s0))) = nI kT := by exact hTl
      rw [hT9]
      refine fh_callS (cc' := c_Mo_tallFor) (nL' := 3) (rest := [.int (nI n0), .ref (x + 35)]) (av := [.int (nI kT), .int (yS s0)]) X hR (m_Mo_tallFor l D ct b RO (r - 1) n s0 hs0 kT hkT (mkM ct x g A th co at_ wr no nu op pi wi he de)) w1181 w1179 w1180 w9 ⟨by decide, by decide, by show _ = some 2; decide +kernel⟩ (by omega) (by decide) hP hS hl.1 rfl (by exact Nat.le_of_ble_eq_true rfl) (fh_d d_Mo_setLeft 40 rfl) ⟨Nat.le_refl _, Nat.le_refl _⟩ (fun v9 h9 n9 H locs hq hP hS => ?_)
      obtain ⟨rfl, q46a, q46b⟩ := hq
      rw [q46a, q46b] at hP
      refine W.eq (g2 := F0 m 66 ls [.int (yTa s0 (nI kT)), .int (nI n0), .ref (x + 35)]) rfl ?_
      rw [← hT9]
      refine W.eq (g2 := F0 m 66 ls [.int (yTa s0 (2 * (ms (ms (((A 26) u) - (yX s0)) (((A 27) u) + (yX s0))) (4 * (yS s0))))), .int (nI n0), .ref (x + 35)]) rfl ?_
      refine fn_iast (f := A 34) (k := n0) hx hb hK hP hS 0 mkM_a34 rfl (rfl) (by omega) (by decide) (fh_d d_Mo_setLeft 41 rfl) (fun H locs hP hS => ?_)
      replace hP := fh_P.eq (h' := mkM ct x g (up2 A 34 (upd (A 34) n0 (yTa s0 (2 * (ms (ms (((A 26) u) - (yX s0)) (((A 27) u) + (yX s0))) (4 * (yS s0))))))) th co at_ wr no nu op pi wi he de) hP mkM_u34
      refine lv_aload_n hx hb (fh_d d_Mo_setLeft 42 rfl) rfl (lv_at hl 3 rfl) ?_
      refine fh_get (own := "FormulaSetterModel") (ref := "FormulaSetterModel") (C := "FormulaSetterModel") (T := T_Mo) (N := 53) (v := .ref (x + 36)) hx hb hT i_Mo hown hK hP mkM_o rfl 42 (by decide) (hT _ w902) (fun _ h9 => h9) rfl (fh_d d_Mo_setLeft 43 rfl) ?_
      refine lv_iload_n hx hb (fh_d d_Mo_setLeft 44 rfl) rfl (lv_at hl 4 rfl) ?_
      refine lv_iload_n hx hb (fh_d d_Mo_setLeft 45 rfl) rfl (lv_at hl 1 rfl) ?_
      refine lv_aload_n hx hb (fh_d d_Mo_setLeft 46 rfl) rfl (lv_at hl 3 rfl) ?_
      refine fh_get (own := "FormulaSetterModel") (ref := "FormulaSetterModel") (C := "FormulaSetterModel") (T := T_Mo) (N := 53) (v := .ref (x + 35)) hx hb hT i_Mo hown hK hP mkM_o rfl 41 (by decide) (hT _ w901) (fun _ h9 => h9) rfl (fh_d d_Mo_setLeft 47 rfl) ?_
      refine lv_iload_n hx hb (fh_d d_Mo_setLeft 48 rfl) rfl (lv_at hl 4 rfl) ?_
      refine fn_iald (f := upd (A 34) n0 (yTa s0 (2 * (ms (ms (((A 26) u) - (yX s0)) (((A 27) u) + (yX s0))) (4 * (yS s0)))))) (k := n0) hx hb hK hP 0 mkM_a34 rfl (rfl) (by omega) (by decide) (fh_d d_Mo_setLeft 49 rfl) ?_
      rw [show ((upd (A 34) n0 (yTa s0 (2 * (ms (ms (((A 26) u) - (yX s0)) (((A 27) u) + (yX s0))) (4 * (yS s0)))))) n0) = (yTa s0 (2 * (ms (ms (((A 26) u) - (yX s0)) (((A 27) u) + (yX s0))) (4 * (yS s0))))) from upd_s]
      refine lv_iconst (v := 2) hx hb (fh_d d_Mo_setLeft 50 rfl) (by decide) ?_
      refine lv_idiv hx hb (fh_d d_Mo_setLeft 51 rfl) (by decide) ?_
      refine lv_isub hx hb (fh_d d_Mo_setLeft 52 rfl) ?_
      refine fn_iast (f := A 35) (k := n0) hx hb hK hP hS 0 mkM_a35 rfl (rfl) (by omega) (by decide) (fh_d d_Mo_setLeft 53 rfl) (fun H locs hP hS => ?_)
      replace hP := fh_P.eq (h' := mkM ct x g (up2 (up2 A 34 (upd (A 34) n0 (yTa s0 (2 * (ms (ms (((A 26) u) - (yX s0)) (((A 27) u) + (yX s0))) (4 * (yS s0))))))) 35 (upd (A 35) n0 ((yX s0) - ((yTa s0 (2 * (ms (ms (((A 26) u) - (yX s0)) (((A 27) u) + (yX s0))) (4 * (yS s0))))) / 2)))) th co at_ wr no nu op pi wi he de) hP mkM_u35
      refine lv_aload_n hx hb (fh_d d_Mo_setLeft 54 rfl) rfl (lv_at hl 3 rfl) ?_
      refine fh_get (own := "FormulaSetterModel") (ref := "FormulaSetterModel") (C := "FormulaSetterModel") (T := T_Mo) (N := 53) (v := .ref (x + 3)) hx hb hT i_Mo hown hK hP mkM_o rfl 8 (by decide) (hT _ w868) (fun _ h9 => h9) rfl (fh_d d_Mo_setLeft 55 rfl) ?_
      refine lv_iload_n hx hb (fh_d d_Mo_setLeft 56 rfl) rfl (lv_at hl 4 rfl) ?_
      refine fn_iald (f := A 2) (k := n0) hx hb hK hP 0 mkM_a2 rfl (rfl) (by omega) (by decide) (fh_d d_Mo_setLeft 57 rfl) ?_
      refine lv_bipush (v := 46) hx hb (fh_d d_Mo_setLeft 58 rfl) (by decide) ?_
      refine lv_icmp_eq (tgt := 98) hx hb (fh_d d_Mo_setLeft 59 rfl) rfl (fun c47 => absurd c47 (ha9)) (fun c47 => ?_)
      refine lv_iconst (v := 1) hx hb (fh_d d_Mo_setLeft 60 rfl) (by decide) ?_
      refine lv_goto (tgt := 99) hx hb (fh_d d_Mo_setLeft 61 rfl) rfl ?_
      refine lv_istore (lv' := [(5, .int 1), (4, .int (nI u)), (3, .int (yX s0)), (2, .int (yS s0)), (0, .ref x), (1, .int (nI n0))]) hx hb (fh_d d_Mo_setLeft 63 rfl) hl (by decide) rfl (fun ls hl => ?_)
      refine lv_aload_n hx hb (fh_d d_Mo_setLeft 64 rfl) rfl (lv_at hl 4 rfl) ?_
      refine fh_get (own := "FormulaSetterModel") (ref := "FormulaSetterModel") (C := "FormulaSetterModel") (T := T_Mo) (N := 53) (v := .ref (x + 4)) hx hb hT i_Mo hown hK hP mkM_o rfl 9 (by decide) (hT _ w869) (fun _ h9 => h9) rfl (fh_d d_Mo_setLeft 65 rfl) ?_
      refine lv_iload_n hx hb (fh_d d_Mo_setLeft 66 rfl) rfl (lv_at hl 5 rfl) ?_
      refine fn_iald (f := A 3) (k := n0) hx hb hK hP 0 mkM_a3 rfl (rfl) (by omega) (by decide) (fh_d d_Mo_setLeft 67 rfl) ?_
      refine lv_bipush (v := 46) hx hb (fh_d d_Mo_setLeft 68 rfl) (by decide) ?_
      refine lv_icmp_eq (tgt := 116) hx hb (fh_d d_Mo_setLeft 69 rfl) rfl (fun c48 => absurd c48 (hb9)) (fun c48 => ?_)
      refine lv_iconst (v := 1) hx hb (fh_d d_Mo_setLeft 70 rfl) (by decide) ?_
      refine lv_goto (tgt := 117) hx hb (fh_d d_Mo_setLeft 71 rfl) rfl ?_
      refine lv_istore (lv' := [(6, .int 1), (5, .int 1), (4, .int (nI u)), (3, .int (yX s0)), (2, .int (yS s0)), (0, .ref x), (1, .int (nI n0))]) hx hb (fh_d d_Mo_setLeft 73 rfl) hl (by decide) rfl (fun ls hl => ?_)
      refine lv_aload_n hx hb (fh_d d_Mo_setLeft 74 rfl) rfl (lv_at hl 5 rfl) ?_
      refine fh_get (own := "FormulaSetterModel") (ref := "FormulaSetterModel") (C := "FormulaSetterModel") (T := T_Mo) (N := 53) (v := .ref (x + 30)) hx hb hT i_Mo hown hK hP mkM_o rfl 36 (by decide) (hT _ w896) (fun _ h9 => h9) rfl (fh_d d_Mo_setLeft 75 rfl) ?_
      refine lv_iload hx hb (fh_d d_Mo_setLeft 76 rfl) (lv_at hl 2 rfl) ?_
      refine lv_iload hx hb (fh_d d_Mo_setLeft 77 rfl) (lv_at hl 1 rfl) ?_
      refine lv_if_eq (tgt := 136) hx hb (fh_d d_Mo_setLeft 78 rfl) rfl (fun c49 => absurd c49 (by decide)) (fun c49 => ?_)
      refine lv_iconst (v := 4) hx hb (fh_d d_Mo_setLeft 79 rfl) (by decide) ?_
      refine lv_iload_n hx hb (fh_d d_Mo_setLeft 80 rfl) rfl (lv_at hl 4 rfl) ?_
      refine lv_imul hx hb (fh_d d_Mo_setLeft 81 rfl) ?_
      refine lv_goto (tgt := 137) hx hb (fh_d d_Mo_setLeft 82 rfl) rfl ?_
      refine fn_iast (f := A 29) (k := u) hx hb hK hP hS 0 mkM_a29 rfl (rfl) (by omega) (by decide) (fh_d d_Mo_setLeft 84 rfl) (fun H locs hP hS => ?_)
      replace hP := fh_P.eq (h' := mkM ct x g (up2 (up2 (up2 A 34 (upd (A 34) n0 (yTa s0 (2 * (ms (ms (((A 26) u) - (yX s0)) (((A 27) u) + (yX s0))) (4 * (yS s0))))))) 35 (upd (A 35) n0 ((yX s0) - ((yTa s0 (2 * (ms (ms (((A 26) u) - (yX s0)) (((A 27) u) + (yX s0))) (4 * (yS s0))))) / 2)))) 29 (upd (A 29) u (4 * (yS s0)))) th co at_ wr no nu op pi wi he de) hP mkM_u29
      refine lv_aload_n hx hb (fh_d d_Mo_setLeft 85 rfl) rfl (lv_at hl 5 rfl) ?_
      refine fh_get (own := "FormulaSetterModel") (ref := "FormulaSetterModel") (C := "FormulaSetterModel") (T := T_Mo) (N := 53) (v := .ref (x + 31)) hx hb hT i_Mo hown hK hP mkM_o rfl 37 (by decide) (hT _ w897) (fun _ h9 => h9) rfl (fh_d d_Mo_setLeft 86 rfl) ?_
      refine lv_iload hx hb (fh_d d_Mo_setLeft 87 rfl) (lv_at hl 2 rfl) ?_
      refine lv_iconst (v := 0) hx hb (fh_d d_Mo_setLeft 88 rfl) (by decide) ?_
      refine fn_iast (f := A 30) (k := u) hx hb hK hP hS 0 mkM_a30 rfl (rfl) (by omega) (by decide) (fh_d d_Mo_setLeft 89 rfl) (fun H locs hP hS => ?_)
      replace hP := fh_P.eq (h' := mkM ct x g (up2 (up2 (up2 (up2 A 34 (upd (A 34) n0 (yTa s0 (2 * (ms (ms (((A 26) u) - (yX s0)) (((A 27) u) + (yX s0))) (4 * (yS s0))))))) 35 (upd (A 35) n0 ((yX s0) - ((yTa s0 (2 * (ms (ms (((A 26) u) - (yX s0)) (((A 27) u) + (yX s0))) (4 * (yS s0))))) / 2)))) 29 (upd (A 29) u (4 * (yS s0)))) 30 (upd (A 30) u 0)) th co at_ wr no nu op pi wi he de) hP mkM_u30
      refine lv_aload_n hx hb (fh_d d_Mo_setLeft 90 rfl) rfl (lv_at hl 5 rfl) ?_
      refine fh_get (own := "FormulaSetterModel") (ref := "FormulaSetterModel") (C := "FormulaSetterModel") (T := T_Mo) (N := 53) (v := .ref (x + 23)) hx hb hT i_Mo hown hK hP mkM_o rfl 29 (by decide) (hT _ w889) (fun _ h9 => h9) rfl (fh_d d_Mo_setLeft 91 rfl) ?_
      refine lv_iload_n hx hb (fh_d d_Mo_setLeft 92 rfl) rfl (lv_at hl 6 rfl) ?_
      refine lv_aload_n hx hb (fh_d d_Mo_setLeft 93 rfl) rfl (lv_at hl 5 rfl) ?_
      refine fh_get (own := "FormulaSetterModel") (ref := "FormulaSetterModel") (C := "FormulaSetterModel") (T := T_Mo) (N := 53) (v := .ref (x + 30)) hx hb hT i_Mo hown hK hP mkM_o rfl 36 (by decide) (hT _ w896) (fun _ h9 => h9) rfl (fh_d d_Mo_setLeft 94 rfl) ?_
      refine lv_iload hx hb (fh_d d_Mo_setLeft 95 rfl) (lv_at hl 2 rfl) ?_
      refine fn_iald (f := upd (A 29) u (4 * (yS s0))) (k := u) hx hb hK hP 0 mkM_a29 rfl (rfl) (by omega) (by decide) (fh_d d_Mo_setLeft 96 rfl) ?_
      rw [show ((upd (A 29) u (4 * (yS s0))) u) = (4 * (yS s0)) from upd_s]
      refine lv_aload_n hx hb (fh_d d_Mo_setLeft 97 rfl) rfl (lv_at hl 5 rfl) ?_
      refine fh_get (own := "FormulaSetterModel") (ref := "FormulaSetterModel") (C := "FormulaSetterModel") (T := T_Mo) (N := 53) (v := .ref (x + 26)) hx hb hT i_Mo hown hK hP mkM_o rfl 32 (by decide) (hT _ w892) (fun _ h9 => h9) rfl (fh_d d_Mo_setLeft 98 rfl) ?_
      refine lv_iload hx hb (fh_d d_Mo_setLeft 99 rfl) (lv_at hl 2 rfl) ?_
      refine fn_iald (f := A 25) (k := u) hx hb hK hP 0 mkM_a25 rfl (rfl) (by omega) (by decide) (fh_d d_Mo_setLeft 100 rfl) ?_
      refine lv_iadd hx hb (fh_d d_Mo_setLeft 101 rfl) ?_
      refine lv_iload hx hb (fh_d d_Mo_setLeft 102 rfl) (lv_at hl 0 rfl) ?_
      refine lv_if_eq (tgt := 177) hx hb (fh_d d_Mo_setLeft 103 rfl) rfl (fun c50 => absurd c50 (by decide)) (fun c50 => ?_)
      refine lv_iconst (v := 4) hx hb (fh_d d_Mo_setLeft 104 rfl) (by decide) ?_
      refine lv_iload_n hx hb (fh_d d_Mo_setLeft 105 rfl) rfl (lv_at hl 4 rfl) ?_
      refine lv_imul hx hb (fh_d d_Mo_setLeft 106 rfl) ?_
      refine lv_goto (tgt := 178) hx hb (fh_d d_Mo_setLeft 107 rfl) rfl ?_
      refine lv_iadd hx hb (fh_d d_Mo_setLeft 109 rfl) ?_
      refine fn_iast (f := A 22) (k := n0) hx hb hK hP hS 0 mkM_a22 rfl (rfl) (by omega) (by decide) (fh_d d_Mo_setLeft 110 rfl) (fun H locs hP hS => ?_)
      replace hP := fh_P.eq (h' := mkM ct x g (up2 (up2 (up2 (up2 (up2 A 34 (upd (A 34) n0 (yTa s0 (2 * (ms (ms (((A 26) u) - (yX s0)) (((A 27) u) + (yX s0))) (4 * (yS s0))))))) 35 (upd (A 35) n0 ((yX s0) - ((yTa s0 (2 * (ms (ms (((A 26) u) - (yX s0)) (((A 27) u) + (yX s0))) (4 * (yS s0))))) / 2)))) 29 (upd (A 29) u (4 * (yS s0)))) 30 (upd (A 30) u 0)) 22 (upd (A 22) n0 (((4 * (yS s0)) + ((A 25) u)) + (4 * (yS s0))))) th co at_ wr no nu op pi wi he de) hP mkM_u22
      refine lv_aload_n hx hb (fh_d d_Mo_setLeft 111 rfl) rfl (lv_at hl 5 rfl) ?_
      refine fh_get (own := "FormulaSetterModel") (ref := "FormulaSetterModel") (C := "FormulaSetterModel") (T := T_Mo) (N := 53) (v := .ref (x + 24)) hx hb hT i_Mo hown hK hP mkM_o rfl 30 (by decide) (hT _ w890) (fun _ h9 => h9) rfl (fh_d d_Mo_setLeft 112 rfl) ?_
      refine lv_iload_n hx hb (fh_d d_Mo_setLeft 113 rfl) rfl (lv_at hl 6 rfl) ?_
      refine lv_iload hx hb (fh_d d_Mo_setLeft 114 rfl) (lv_at hl 1 rfl) ?_
      refine lv_if_ne (tgt := 195) hx hb (fh_d d_Mo_setLeft 115 rfl) rfl (fun c51 => ?_) (fun c51 => absurd c51 (by decide))
      refine lv_aload_n hx hb (fh_d d_Mo_setLeft 118 rfl) rfl (lv_at hl 5 rfl) ?_
      refine fh_get (own := "FormulaSetterModel") (ref := "FormulaSetterModel") (C := "FormulaSetterModel") (T := T_Mo) (N := 53) (v := .ref (x + 27)) hx hb hT i_Mo hown hK hP mkM_o rfl 33 (by decide) (hT _ w893) (fun _ h9 => h9) rfl (fh_d d_Mo_setLeft 119 rfl) ?_
      refine lv_iload hx hb (fh_d d_Mo_setLeft 120 rfl) (lv_at hl 2 rfl) ?_
      refine fn_iald (f := A 26) (k := u) hx hb hK hP 0 mkM_a26 rfl (rfl) (by omega) (by decide) (fh_d d_Mo_setLeft 121 rfl) ?_
      refine lv_iload_n hx hb (fh_d d_Mo_setLeft 122 rfl) rfl (lv_at hl 3 rfl) ?_
      refine lv_aload_n hx hb (fh_d d_Mo_setLeft 123 rfl) rfl (lv_at hl 5 rfl) ?_
      refine fh_get (own := "FormulaSetterModel") (ref := "FormulaSetterModel") (C := "FormulaSetterModel") (T := T_Mo) (N := 53) (v := .ref (x + 35)) hx hb hT i_Mo hown hK hP mkM_o rfl 41 (by decide) (hT _ w901) (fun _ h9 => h9) rfl (fh_d d_Mo_setLeft 124 rfl) ?_
      refine lv_iload_n hx hb (fh_d d_Mo_setLeft 125 rfl) rfl (lv_at hl 6 rfl) ?_
      refine fn_iald (f := upd (A 34) n0 (yTa s0 (2 * (ms (ms (((A 26) u) - (yX s0)) (((A 27) u) + (yX s0))) (4 * (yS s0)))))) (k := n0) hx hb hK hP 0 mkM_a34 rfl (rfl) (by omega) (by decide) (fh_d d_Mo_setLeft 126 rfl) ?_
      rw [show ((upd (A 34) n0 (yTa s0 (2 * (ms (ms (((A 26) u) - (yX s0)) (((A 27) u) + (yX s0))) (4 * (yS s0)))))) n0) = (yTa s0 (2 * (ms (ms (((A 26) u) - (yX s0)) (((A 27) u) + (yX s0))) (4 * (yS s0))))) from upd_s]
      refine lv_iconst (v := 2) hx hb (fh_d d_Mo_setLeft 127 rfl) (by decide) ?_
      refine lv_idiv hx hb (fh_d d_Mo_setLeft 128 rfl) (by decide) ?_
      refine lv_iadd hx hb (fh_d d_Mo_setLeft 129 rfl) ?_
      refine fh_callS (cc' := c_Mo_most) (nL' := 2) (rest := [.int (nI n0), .ref (x + 24)]) (av := [.int ((A 26) u), .int ((yX s0) + ((yTa s0 (2 * (ms (ms (((A 26) u) - (yX s0)) (((A 27) u) + (yX s0))) (4 * (yS s0))))) / 2))]) X hR (m_Mo_most l D ct b RO (r - 1) n ((A 26) u) ((yX s0) + ((yTa s0 (2 * (ms (ms (((A 26) u) - (yX s0)) (((A 27) u) + (yX s0))) (4 * (yS s0))))) / 2)) (mkM ct x g (up2 (up2 (up2 (up2 (up2 A 34 (upd (A 34) n0 (yTa s0 (2 * (ms (ms (((A 26) u) - (yX s0)) (((A 27) u) + (yX s0))) (4 * (yS s0))))))) 35 (upd (A 35) n0 ((yX s0) - ((yTa s0 (2 * (ms (ms (((A 26) u) - (yX s0)) (((A 27) u) + (yX s0))) (4 * (yS s0))))) / 2)))) 29 (upd (A 29) u (4 * (yS s0)))) 30 (upd (A 30) u 0)) 22 (upd (A 22) n0 (((4 * (yS s0)) + ((A 25) u)) + (4 * (yS s0))))) th co at_ wr no nu op pi wi he de)) w1151 w1149 w1150 w9 ⟨by decide, by decide, by show _ = some 2; decide +kernel⟩ (by omega) (by decide) hP hS hl.1 rfl (by exact Nat.le_of_ble_eq_true rfl) (fh_d d_Mo_setLeft 130 rfl) ⟨Nat.le_refl _, Nat.le_refl _⟩ (fun v9 h9 n9 H locs hq hP hS => ?_)
      obtain ⟨rfl, q52a, q52b⟩ := hq
      rw [q52a, q52b] at hP
      refine W.eq (g2 := F0 m 215 ls [.int (ms ((A 26) u) ((yX s0) + ((yTa s0 (2 * (ms (ms (((A 26) u) - (yX s0)) (((A 27) u) + (yX s0))) (4 * (yS s0))))) / 2))), .int (nI n0), .ref (x + 24)]) rfl ?_
      refine lv_goto (tgt := 225) hx hb (fh_d d_Mo_setLeft 131 rfl) rfl ?_
      refine fn_iast (f := A 23) (k := n0) hx hb hK hP hS 0 mkM_a23 rfl (rfl) (by omega) (by decide) (fh_d d_Mo_setLeft 136 rfl) (fun H locs hP hS => ?_)
      replace hP := fh_P.eq (h' := mkM ct x g (up2 (up2 (up2 (up2 (up2 (up2 A 34 (upd (A 34) n0 (yTa s0 (2 * (ms (ms (((A 26) u) - (yX s0)) (((A 27) u) + (yX s0))) (4 * (yS s0))))))) 35 (upd (A 35) n0 ((yX s0) - ((yTa s0 (2 * (ms (ms (((A 26) u) - (yX s0)) (((A 27) u) + (yX s0))) (4 * (yS s0))))) / 2)))) 29 (upd (A 29) u (4 * (yS s0)))) 30 (upd (A 30) u 0)) 22 (upd (A 22) n0 (((4 * (yS s0)) + ((A 25) u)) + (4 * (yS s0))))) 23 (upd (A 23) n0 (ms ((A 26) u) ((yX s0) + ((yTa s0 (2 * (ms (ms (((A 26) u) - (yX s0)) (((A 27) u) + (yX s0))) (4 * (yS s0))))) / 2))))) th co at_ wr no nu op pi wi he de) hP mkM_u23
      refine lv_aload_n hx hb (fh_d d_Mo_setLeft 137 rfl) rfl (lv_at hl 5 rfl) ?_
      refine fh_get (own := "FormulaSetterModel") (ref := "FormulaSetterModel") (C := "FormulaSetterModel") (T := T_Mo) (N := 53) (v := .ref (x + 25)) hx hb hT i_Mo hown hK hP mkM_o rfl 31 (by decide) (hT _ w891) (fun _ h9 => h9) rfl (fh_d d_Mo_setLeft 138 rfl) ?_
      refine lv_iload_n hx hb (fh_d d_Mo_setLeft 139 rfl) rfl (lv_at hl 6 rfl) ?_
      refine lv_iload hx hb (fh_d d_Mo_setLeft 140 rfl) (lv_at hl 1 rfl) ?_
      refine lv_if_ne (tgt := 241) hx hb (fh_d d_Mo_setLeft 141 rfl) rfl (fun c53 => ?_) (fun c53 => absurd c53 (by decide))
      refine lv_aload_n hx hb (fh_d d_Mo_setLeft 144 rfl) rfl (lv_at hl 5 rfl) ?_
      refine fh_get (own := "FormulaSetterModel") (ref := "FormulaSetterModel") (C := "FormulaSetterModel") (T := T_Mo) (N := 53) (v := .ref (x + 28)) hx hb hT i_Mo hown hK hP mkM_o rfl 34 (by decide) (hT _ w894) (fun _ h9 => h9) rfl (fh_d d_Mo_setLeft 145 rfl) ?_
      refine lv_iload hx hb (fh_d d_Mo_setLeft 146 rfl) (lv_at hl 2 rfl) ?_
      refine fn_iald (f := A 27) (k := u) hx hb hK hP 0 mkM_a27 rfl (rfl) (by omega) (by decide) (fh_d d_Mo_setLeft 147 rfl) ?_
      refine lv_aload_n hx hb (fh_d d_Mo_setLeft 148 rfl) rfl (lv_at hl 5 rfl) ?_
      refine fh_get (own := "FormulaSetterModel") (ref := "FormulaSetterModel") (C := "FormulaSetterModel") (T := T_Mo) (N := 53) (v := .ref (x + 35)) hx hb hT i_Mo hown hK hP mkM_o rfl 41 (by decide) (hT _ w901) (fun _ h9 => h9) rfl (fh_d d_Mo_setLeft 149 rfl) ?_
      refine lv_iload_n hx hb (fh_d d_Mo_setLeft 150 rfl) rfl (lv_at hl 6 rfl) ?_
      refine fn_iald (f := upd (A 34) n0 (yTa s0 (2 * (ms (ms (((A 26) u) - (yX s0)) (((A 27) u) + (yX s0))) (4 * (yS s0)))))) (k := n0) hx hb hK hP 0 mkM_a34 rfl (rfl) (by omega) (by decide) (fh_d d_Mo_setLeft 151 rfl) ?_
      rw [show ((upd (A 34) n0 (yTa s0 (2 * (ms (ms (((A 26) u) - (yX s0)) (((A 27) u) + (yX s0))) (4 * (yS s0)))))) n0) = (yTa s0 (2 * (ms (ms (((A 26) u) - (yX s0)) (((A 27) u) + (yX s0))) (4 * (yS s0))))) from upd_s]
      refine lv_iconst (v := 2) hx hb (fh_d d_Mo_setLeft 152 rfl) (by decide) ?_
      refine lv_idiv hx hb (fh_d d_Mo_setLeft 153 rfl) (by decide) ?_
      refine lv_iload_n hx hb (fh_d d_Mo_setLeft 154 rfl) rfl (lv_at hl 3 rfl) ?_
      refine lv_isub hx hb (fh_d d_Mo_setLeft 155 rfl) ?_
      refine fh_callS (cc' := c_Mo_most) (nL' := 2) (rest := [.int (nI n0), .ref (x + 25)]) (av := [.int ((A 27) u), .int (((yTa s0 (2 * (ms (ms (((A 26) u) - (yX s0)) (((A 27) u) + (yX s0))) (4 * (yS s0))))) / 2) - (yX s0))]) X hR (m_Mo_most l D ct b RO (r - 1) n ((A 27) u) (((yTa s0 (2 * (ms (ms (((A 26) u) - (yX s0)) (((A 27) u) + (yX s0))) (4 * (yS s0))))) / 2) - (yX s0)) (mkM ct x g (up2 (up2 (up2 (up2 (up2 (up2 A 34 (upd (A 34) n0 (yTa s0 (2 * (ms (ms (((A 26) u) - (yX s0)) (((A 27) u) + (yX s0))) (4 * (yS s0))))))) 35 (upd (A 35) n0 ((yX s0) - ((yTa s0 (2 * (ms (ms (((A 26) u) - (yX s0)) (((A 27) u) + (yX s0))) (4 * (yS s0))))) / 2)))) 29 (upd (A 29) u (4 * (yS s0)))) 30 (upd (A 30) u 0)) 22 (upd (A 22) n0 (((4 * (yS s0)) + ((A 25) u)) + (4 * (yS s0))))) 23 (upd (A 23) n0 (ms ((A 26) u) ((yX s0) + ((yTa s0 (2 * (ms (ms (((A 26) u) - (yX s0)) (((A 27) u) + (yX s0))) (4 * (yS s0))))) / 2))))) th co at_ wr no nu op pi wi he de)) w1151 w1149 w1150 w9 ⟨by decide, by decide, by show _ = some 2; decide +kernel⟩ (by omega) (by decide) hP hS hl.1 rfl (by exact Nat.le_of_ble_eq_true rfl) (fh_d d_Mo_setLeft 156 rfl) ⟨Nat.le_refl _, Nat.le_refl _⟩ (fun v9 h9 n9 H locs hq hP hS => ?_)
      obtain ⟨rfl, q54a, q54b⟩ := hq
      rw [q54a, q54b] at hP
      refine W.eq (g2 := F0 m 261 ls [.int (ms ((A 27) u) (((yTa s0 (2 * (ms (ms (((A 26) u) - (yX s0)) (((A 27) u) + (yX s0))) (4 * (yS s0))))) / 2) - (yX s0))), .int (nI n0), .ref (x + 25)]) rfl ?_
      refine lv_goto (tgt := 271) hx hb (fh_d d_Mo_setLeft 157 rfl) rfl ?_
      refine fn_iast (f := A 24) (k := n0) hx hb hK hP hS 0 mkM_a24 rfl (rfl) (by omega) (by decide) (fh_d d_Mo_setLeft 162 rfl) (fun H locs hP hS => ?_)
      replace hP := fh_P.eq (h' := mkM ct x g (up2 (up2 (up2 (up2 (up2 (up2 (up2 A 34 (upd (A 34) n0 (yTa s0 (2 * (ms (ms (((A 26) u) - (yX s0)) (((A 27) u) + (yX s0))) (4 * (yS s0))))))) 35 (upd (A 35) n0 ((yX s0) - ((yTa s0 (2 * (ms (ms (((A 26) u) - (yX s0)) (((A 27) u) + (yX s0))) (4 * (yS s0))))) / 2)))) 29 (upd (A 29) u (4 * (yS s0)))) 30 (upd (A 30) u 0)) 22 (upd (A 22) n0 (((4 * (yS s0)) + ((A 25) u)) + (4 * (yS s0))))) 23 (upd (A 23) n0 (ms ((A 26) u) ((yX s0) + ((yTa s0 (2 * (ms (ms (((A 26) u) - (yX s0)) (((A 27) u) + (yX s0))) (4 * (yS s0))))) / 2))))) 24 (upd (A 24) n0 (ms ((A 27) u) (((yTa s0 (2 * (ms (ms (((A 26) u) - (yX s0)) (((A 27) u) + (yX s0))) (4 * (yS s0))))) / 2) - (yX s0))))) th co at_ wr no nu op pi wi he de) hP mkM_u24
      exact fh_vret X hP hS (fh_d d_Mo_setLeft 163 rfl) ⟨rfl, by unfold rf_lf; rw [if_neg ha9, if_neg hb9]; (try rfl), rfl⟩

def rf_la (A : Nat → Nat → Int32) (n0 s0 : Nat) : Nat → Nat → Int32 := if s0 = 0 then (up2 (up2 (up2 (up2 A 35 (upd (A 35) n0 ((yX s0) - (((sgH ((A 2) n0) 14) - (sgD ((A 2) n0) 14)) / 2)))) 22 (upd (A 22) n0 (sgW ((A 2) n0) 14))) 23 (upd (A 23) n0 ((sgH ((A 2) n0) 14) + ((yX s0) - (((sgH ((A 2) n0) 14) - (sgD ((A 2) n0) 14)) / 2))))) 24 (upd (A 24) n0 (ms 0 ((sgD ((A 2) n0) 14) - ((yX s0) - (((sgH ((A 2) n0) 14) - (sgD ((A 2) n0) 14)) / 2)))))) else (up2 (up2 (up2 (up2 A 35 (upd (A 35) n0 ((yX s0) - (((sgH ((A 2) n0) (yS s0)) - (sgD ((A 2) n0) (yS s0))) / 2)))) 22 (upd (A 22) n0 (sgW ((A 2) n0) (yS s0)))) 23 (upd (A 23) n0 ((sgH ((A 2) n0) (yS s0)) + ((yX s0) - (((sgH ((A 2) n0) (yS s0)) - (sgD ((A 2) n0) (yS s0))) / 2))))) 24 (upd (A 24) n0 (ms 0 ((sgD ((A 2) n0) (yS s0)) - ((yX s0) - (((sgH ((A 2) n0) (yS s0)) - (sgD ((A 2) n0) (yS s0))) / 2))))))
set_option maxHeartbeats 4000000 in
set_option maxRecDepth 100000 in
theorem m_Mo_setLarge (l : Launch) (D : va_G) (ct : Nat → ClassId) (b : Nat) (RO : State → Prop) (hR : fh_R b RO) (r : Nat) (hr : 2 ≤ r) (n x : Nat) (g : fh_H) (A : Nat → Nat → Int32) (th co at_ wr no nu op pi wi he de : Int32) (n0 : Nat) (hn0 : n0 < 400) (s0 : Nat) (hs0 : s0 < 4) (h20 : A 20 n0 = nI s0)  : fh_C l D fh_cl (fh_tys ct) b RO y_Mo_setLarge (Cond.code y_Mo_setLarge c_Mo_setLarge 4 (Option.none : Option FieldType) :: fh_T) (fh_rm r 0 0) [.ref x, .int (nI n0)] (mkM ct x g A th co at_ wr no nu op pi wi he de) n (fun v h' n' => v = none ∧ h' = mkM ct x g (rf_la A n0 s0) th co at_ wr no nu op pi wi he de ∧ n' = n) 0 0 := by
  refine fh_enter (by decide) (Nat.le_of_ble_eq_true rfl) [(0, .ref x), (1, .int (nI n0))] rfl ?_
  intro p e s m args below meth c H ls X hP hS hl
  have hx := X.1
  have hb := X.2.1
  have hml := X.2.2.1
  have hown : s.vm.findClass "FormulaSetterModel" = some m.cls := X.2.2.2.1
  have hT := X.2.2.2.2.1
  have hK := X.2.2.2.2.2.1
  have hRO := X.2.2.2.2.2.2.1
  have hnm : meth.name = "setLarge" := X.2.2.2.2.2.2.2.2.2.2
  by_cases hs : s0 = 0
  · skip
    refine lv_aload_n hx hb (fh_d d_Mo_setLarge 0 rfl) rfl (lv_at hl 0 rfl) ?_
    refine fh_get (own := "FormulaSetterModel") (ref := "FormulaSetterModel") (C := "FormulaSetterModel") (T := T_Mo) (N := 53) (v := .ref (x + 21)) hx hb hT i_Mo hown hK hP mkM_o rfl 27 (by decide) (hT _ w887) (fun _ h9 => h9) rfl (fh_d d_Mo_setLarge 1 rfl) ?_
    refine lv_iload_n hx hb (fh_d d_Mo_setLarge 2 rfl) rfl (lv_at hl 1 rfl) ?_
    refine fn_iald (f := A 20) (k := n0) hx hb hK hP 0 mkM_a20 rfl (rfl) (by omega) (by decide) (fh_d d_Mo_setLarge 3 rfl) ?_
    rw [show ((A 20) n0) = nI s0 from h20]
    refine lv_if_ne (tgt := 14) hx hb (fh_d d_Mo_setLarge 4 rfl) rfl (fun c1 => absurd c1 (fun z => z (by rw [hs]; rfl))) (fun c1 => ?_)
    refine lv_bipush (v := 14) hx hb (fh_d d_Mo_setLarge 5 rfl) (by decide) ?_
    refine lv_goto (tgt := 23) hx hb (fh_d d_Mo_setLarge 6 rfl) rfl ?_
    refine lv_istore_n (lv' := [(2, .int 14), (0, .ref x), (1, .int (nI n0))]) hx hb (fh_d d_Mo_setLarge 12 rfl) rfl hl (by decide) rfl (fun ls hl => ?_)
    refine lv_aload_n hx hb (fh_d d_Mo_setLarge 13 rfl) rfl (lv_at hl 1 rfl) ?_
    refine fh_get (own := "FormulaSetterModel") (ref := "FormulaSetterModel") (C := "FormulaSetterModel") (T := T_Mo) (N := 53) (v := .ref (x + 3)) hx hb hT i_Mo hown hK hP mkM_o rfl 8 (by decide) (hT _ w868) (fun _ h9 => h9) rfl (fh_d d_Mo_setLarge 14 rfl) ?_
    refine lv_iload_n hx hb (fh_d d_Mo_setLarge 15 rfl) rfl (lv_at hl 2 rfl) ?_
    refine fn_iald (f := A 2) (k := n0) hx hb hK hP 0 mkM_a2 rfl (rfl) (by omega) (by decide) (fh_d d_Mo_setLarge 16 rfl) ?_
    refine lv_istore_n (lv' := [(3, .int ((A 2) n0)), (2, .int 14), (0, .ref x), (1, .int (nI n0))]) hx hb (fh_d d_Mo_setLarge 17 rfl) rfl hl (by decide) rfl (fun ls hl => ?_)
    refine lv_aload_n hx hb (fh_d d_Mo_setLarge 18 rfl) rfl (lv_at hl 2 rfl) ?_
    refine fh_get (own := "FormulaSetterModel") (ref := "FormulaSetterModel") (C := "FormulaSetterModel") (T := T_Mo) (N := 53) (v := .ref (x + 36)) hx hb hT i_Mo hown hK hP mkM_o rfl 42 (by decide) (hT _ w902) (fun _ h9 => h9) rfl (fh_d d_Mo_setLarge 19 rfl) ?_
    refine lv_iload_n hx hb (fh_d d_Mo_setLarge 20 rfl) rfl (lv_at hl 3 rfl) ?_
    refine lv_aload_n hx hb (fh_d d_Mo_setLarge 21 rfl) rfl (lv_at hl 2 rfl) ?_
    refine fh_get (own := "FormulaSetterModel") (ref := "FormulaSetterModel") (C := "FormulaSetterModel") (T := T_Mo) (N := 53) (v := .ref (x + 21)) hx hb hT i_Mo hown hK hP mkM_o rfl 27 (by decide) (hT _ w887) (fun _ h9 => h9) rfl (fh_d d_Mo_setLarge 22 rfl) ?_
    refine lv_iload_n hx hb (fh_d d_Mo_setLarge 23 rfl) rfl (lv_at hl 3 rfl) ?_
    refine fn_iald (f := A 20) (k := n0) hx hb hK hP 0 mkM_a20 rfl (rfl) (by omega) (by decide) (fh_d d_Mo_setLarge 24 rfl) ?_
    rw [show ((A 20) n0) = nI s0 from h20]
    refine fh_callS (cc' := c_Mo_axisOf) (nL' := 1) (rest := [.int (nI n0), .ref (x + 36)]) (av := [.int (nI s0)]) X hR (m_Mo_xO l D ct b RO hR (r - 1) (by omega) n s0 hs0 (mkM ct x g A th co at_ wr no nu op pi wi he de)) w1167 w1165 w1166 w9 ⟨by decide, by decide, by show _ = some 1; decide +kernel⟩ (by omega) (by decide) hP hS hl.1 rfl (by exact Nat.le_of_ble_eq_true rfl) (fh_d d_Mo_setLarge 25 rfl) ⟨Nat.le_refl _, Nat.le_refl _⟩ (fun v9 h9 n9 H locs hq hP hS => ?_)
    obtain ⟨rfl, q2a, q2b⟩ := hq
    rw [q2a, q2b] at hP
    refine W.eq (g2 := F0 m 45 ls [.int (yX s0), .int (nI n0), .ref (x + 36)]) rfl ?_
    refine lv_iload_n hx hb (fh_d d_Mo_setLarge 26 rfl) rfl (lv_at hl 0 rfl) ?_
    refine lv_iload_n hx hb (fh_d d_Mo_setLarge 27 rfl) rfl (lv_at hl 1 rfl) ?_
    refine fh_callS (cc' := c_Mo_signH) (nL' := 2) (rest := [.int (yX s0), .int (nI n0), .ref (x + 36)]) (av := [.int ((A 2) n0), .int 14]) X hR (m_Mo_signH l D ct b RO (r - 1) n ((A 2) n0) 14 (mkM ct x g A th co at_ wr no nu op pi wi he de)) w1157 w1155 w1156 w9 ⟨by decide, by decide, by show _ = some 2; decide +kernel⟩ (by omega) (by decide) hP hS hl.1 rfl (by exact Nat.le_of_ble_eq_true rfl) (fh_d d_Mo_setLarge 28 rfl) ⟨Nat.le_refl _, Nat.le_refl _⟩ (fun v9 h9 n9 H locs hq hP hS => ?_)
    obtain ⟨rfl, q3a, q3b⟩ := hq
    rw [q3a, q3b] at hP
    refine W.eq (g2 := F0 m 50 ls [.int (sgH ((A 2) n0) 14), .int (yX s0), .int (nI n0), .ref (x + 36)]) rfl ?_
    refine lv_iload_n hx hb (fh_d d_Mo_setLarge 29 rfl) rfl (lv_at hl 0 rfl) ?_
    refine lv_iload_n hx hb (fh_d d_Mo_setLarge 30 rfl) rfl (lv_at hl 1 rfl) ?_
    refine fh_callS (cc' := c_Mo_signD) (nL' := 2) (rest := [.int (sgH ((A 2) n0) 14), .int (yX s0), .int (nI n0), .ref (x + 36)]) (av := [.int ((A 2) n0), .int 14]) X hR (m_Mo_signD l D ct b RO (r - 1) n ((A 2) n0) 14 (mkM ct x g A th co at_ wr no nu op pi wi he de)) w1160 w1158 w1159 w9 ⟨by decide, by decide, by show _ = some 2; decide +kernel⟩ (by omega) (by decide) hP hS hl.1 rfl (by exact Nat.le_of_ble_eq_true rfl) (fh_d d_Mo_setLarge 31 rfl) ⟨Nat.le_refl _, Nat.le_refl _⟩ (fun v9 h9 n9 H locs hq hP hS => ?_)
    obtain ⟨rfl, q4a, q4b⟩ := hq
    rw [q4a, q4b] at hP
    refine W.eq (g2 := F0 m 55 ls [.int (sgD ((A 2) n0) 14), .int (sgH ((A 2) n0) 14), .int (yX s0), .int (nI n0), .ref (x + 36)]) rfl ?_
    refine lv_isub hx hb (fh_d d_Mo_setLarge 32 rfl) ?_
    refine lv_iconst (v := 2) hx hb (fh_d d_Mo_setLarge 33 rfl) (by decide) ?_
    refine lv_idiv hx hb (fh_d d_Mo_setLarge 34 rfl) (by decide) ?_
    refine lv_isub hx hb (fh_d d_Mo_setLarge 35 rfl) ?_
    refine fn_iast (f := A 35) (k := n0) hx hb hK hP hS 0 mkM_a35 rfl (rfl) (by omega) (by decide) (fh_d d_Mo_setLarge 36 rfl) (fun H locs hP hS => ?_)
    replace hP := fh_P.eq (h' := mkM ct x g (up2 A 35 (upd (A 35) n0 ((yX s0) - (((sgH ((A 2) n0) 14) - (sgD ((A 2) n0) 14)) / 2)))) th co at_ wr no nu op pi wi he de) hP mkM_u35
    refine lv_aload_n hx hb (fh_d d_Mo_setLarge 37 rfl) rfl (lv_at hl 2 rfl) ?_
    refine fh_get (own := "FormulaSetterModel") (ref := "FormulaSetterModel") (C := "FormulaSetterModel") (T := T_Mo) (N := 53) (v := .ref (x + 23)) hx hb hT i_Mo hown hK hP mkM_o rfl 29 (by decide) (hT _ w889) (fun _ h9 => h9) rfl (fh_d d_Mo_setLarge 38 rfl) ?_
    refine lv_iload_n hx hb (fh_d d_Mo_setLarge 39 rfl) rfl (lv_at hl 3 rfl) ?_
    refine lv_iload_n hx hb (fh_d d_Mo_setLarge 40 rfl) rfl (lv_at hl 0 rfl) ?_
    refine lv_iload_n hx hb (fh_d d_Mo_setLarge 41 rfl) rfl (lv_at hl 1 rfl) ?_
    refine fh_callS (cc' := c_Mo_signW) (nL' := 2) (rest := [.int (nI n0), .ref (x + 23)]) (av := [.int ((A 2) n0), .int 14]) X hR (m_Mo_signW l D ct b RO (r - 1) n ((A 2) n0) 14 (mkM ct x g (up2 A 35 (upd (A 35) n0 ((yX s0) - (((sgH ((A 2) n0) 14) - (sgD ((A 2) n0) 14)) / 2)))) th co at_ wr no nu op pi wi he de)) w1154 w1152 w1153 w9 ⟨by decide, by decide, by show _ = some 2; decide +kernel⟩ (by omega) (by decide) hP hS hl.1 rfl (by exact Nat.le_of_ble_eq_true rfl) (fh_d d_Mo_setLarge 42 rfl) ⟨Nat.le_refl _, Nat.le_refl _⟩ (fun v9 h9 n9 H locs hq hP hS => ?_)
    obtain ⟨rfl, q5a, q5b⟩ := hq
    rw [q5a, q5b] at hP
    refine W.eq (g2 := F0 m 70 ls [.int (sgW ((A 2) n0) 14), .int (nI n0), .ref (x + 23)]) rfl ?_
    refine fn_iast (f := A 22) (k := n0) hx hb hK hP hS 0 mkM_a22 rfl (rfl) (by omega) (by decide) (fh_d d_Mo_setLarge 43 rfl) (fun H locs hP hS => ?_)
    replace hP := fh_P.eq (h' := mkM ct x g (up2 (up2 A 35 (upd (A 35) n0 ((yX s0) - (((sgH ((A 2) n0) 14) - (sgD ((A 2) n0) 14)) / 2)))) 22 (upd (A 22) n0 (sgW ((A 2) n0) 14))) th co at_ wr no nu op pi wi he de) hP mkM_u22
    refine lv_aload_n hx hb (fh_d d_Mo_setLarge 44 rfl) rfl (lv_at hl 2 rfl) ?_
    refine fh_get (own := "FormulaSetterModel") (ref := "FormulaSetterModel") (C := "FormulaSetterModel") (T := T_Mo) (N := 53) (v := .ref (x + 24)) hx hb hT i_Mo hown hK hP mkM_o rfl 30 (by decide) (hT _ w890) (fun _ h9 => h9) rfl (fh_d d_Mo_setLarge 45 rfl) ?_
    refine lv_iload_n hx hb (fh_d d_Mo_setLarge 46 rfl) rfl (lv_at hl 3 rfl) ?_
    refine lv_iload_n hx hb (fh_d d_Mo_setLarge 47 rfl) rfl (lv_at hl 0 rfl) ?_
    refine lv_iload_n hx hb (fh_d d_Mo_setLarge 48 rfl) rfl (lv_at hl 1 rfl) ?_
    refine fh_callS (cc' := c_Mo_signH) (nL' := 2) (rest := [.int (nI n0), .ref (x + 24)]) (av := [.int ((A 2) n0), .int 14]) X hR (m_Mo_signH l D ct b RO (r - 1) n ((A 2) n0) 14 (mkM ct x g (up2 (up2 A 35 (upd (A 35) n0 ((yX s0) - (((sgH ((A 2) n0) 14) - (sgD ((A 2) n0) 14)) / 2)))) 22 (upd (A 22) n0 (sgW ((A 2) n0) 14))) th co at_ wr no nu op pi wi he de)) w1157 w1155 w1156 w9 ⟨by decide, by decide, by show _ = some 2; decide +kernel⟩ (by omega) (by decide) hP hS hl.1 rfl (by exact Nat.le_of_ble_eq_true rfl) (fh_d d_Mo_setLarge 49 rfl) ⟨Nat.le_refl _, Nat.le_refl _⟩ (fun v9 h9 n9 H locs hq hP hS => ?_)
    obtain ⟨rfl, q6a, q6b⟩ := hq
    rw [q6a, q6b] at hP
    refine W.eq (g2 := F0 m 81 ls [.int (sgH ((A 2) n0) 14), .int (nI n0), .ref (x + 24)]) rfl ?_
    refine lv_aload_n hx hb (fh_d d_Mo_setLarge 50 rfl) rfl (lv_at hl 2 rfl) ?_
    refine fh_get (own := "FormulaSetterModel") (ref := "FormulaSetterModel") (C := "FormulaSetterModel") (T := T_Mo) (N := 53) (v := .ref (x + 36)) hx hb hT i_Mo hown hK hP mkM_o rfl 42 (by decide) (hT _ w902) (fun _ h9 => h9) rfl (fh_d d_Mo_setLarge 51 rfl) ?_
    refine lv_iload_n hx hb (fh_d d_Mo_setLarge 52 rfl) rfl (lv_at hl 3 rfl) ?_
    refine fn_iald (f := upd (A 35) n0 ((yX s0) - (((sgH ((A 2) n0) 14) - (sgD ((A 2) n0) 14)) / 2))) (k := n0) hx hb hK hP 0 mkM_a35 rfl (rfl) (by omega) (by decide) (fh_d d_Mo_setLarge 53 rfl) ?_
    rw [show ((upd (A 35) n0 ((yX s0) - (((sgH ((A 2) n0) 14) - (sgD ((A 2) n0) 14)) / 2))) n0) = ((yX s0) - (((sgH ((A 2) n0) 14) - (sgD ((A 2) n0) 14)) / 2)) from upd_s]
    refine lv_iadd hx hb (fh_d d_Mo_setLarge 54 rfl) ?_
    refine fn_iast (f := A 23) (k := n0) hx hb hK hP hS 0 mkM_a23 rfl (rfl) (by omega) (by decide) (fh_d d_Mo_setLarge 55 rfl) (fun H locs hP hS => ?_)
    replace hP := fh_P.eq (h' := mkM ct x g (up2 (up2 (up2 A 35 (upd (A 35) n0 ((yX s0) - (((sgH ((A 2) n0) 14) - (sgD ((A 2) n0) 14)) / 2)))) 22 (upd (A 22) n0 (sgW ((A 2) n0) 14))) 23 (upd (A 23) n0 ((sgH ((A 2) n0) 14) + ((yX s0) - (((sgH ((A 2) n0) 14) - (sgD ((A 2) n0) 14)) / 2))))) th co at_ wr no nu op pi wi he de) hP mkM_u23
    refine lv_aload_n hx hb (fh_d d_Mo_setLarge 56 rfl) rfl (lv_at hl 2 rfl) ?_
    refine fh_get (own := "FormulaSetterModel") (ref := "FormulaSetterModel") (C := "FormulaSetterModel") (T := T_Mo) (N := 53) (v := .ref (x + 25)) hx hb hT i_Mo hown hK hP mkM_o rfl 31 (by decide) (hT _ w891) (fun _ h9 => h9) rfl (fh_d d_Mo_setLarge 57 rfl) ?_
    refine lv_iload_n hx hb (fh_d d_Mo_setLarge 58 rfl) rfl (lv_at hl 3 rfl) ?_
    refine lv_iconst (v := 0) hx hb (fh_d d_Mo_setLarge 59 rfl) (by decide) ?_
    refine lv_iload_n hx hb (fh_d d_Mo_setLarge 60 rfl) rfl (lv_at hl 0 rfl) ?_
    refine lv_iload_n hx hb (fh_d d_Mo_setLarge 61 rfl) rfl (lv_at hl 1 rfl) ?_
    refine fh_callS (cc' := c_Mo_signD) (nL' := 2) (rest := [.int 0, .int (nI n0), .ref (x + 25)]) (av := [.int ((A 2) n0), .int 14]) X hR (m_Mo_signD l D ct b RO (r - 1) n ((A 2) n0) 14 (mkM ct x g (up2 (up2 (up2 A 35 (upd (A 35) n0 ((yX s0) - (((sgH ((A 2) n0) 14) - (sgD ((A 2) n0) 14)) / 2)))) 22 (upd (A 22) n0 (sgW ((A 2) n0) 14))) 23 (upd (A 23) n0 ((sgH ((A 2) n0) 14) + ((yX s0) - (((sgH ((A 2) n0) 14) - (sgD ((A 2) n0) 14)) / 2))))) th co at_ wr no nu op pi wi he de)) w1160 w1158 w1159 w9 ⟨by decide, by decide, by show _ = some 2; decide +kernel⟩ (by omega) (by decide) hP hS hl.1 rfl (by exact Nat.le_of_ble_eq_true rfl) (fh_d d_Mo_setLarge 62 rfl) ⟨Nat.le_refl _, Nat.le_refl _⟩ (fun v9 h9 n9 H locs hq hP hS => ?_)
    obtain ⟨rfl, q7a, q7b⟩ := hq
    rw [q7a, q7b] at hP
    refine W.eq (g2 := F0 m 100 ls [.int (sgD ((A 2) n0) 14), .int 0, .int (nI n0), .ref (x + 25)]) rfl ?_
    refine lv_aload_n hx hb (fh_d d_Mo_setLarge 63 rfl) rfl (lv_at hl 2 rfl) ?_
    refine fh_get (own := "FormulaSetterModel") (ref := "FormulaSetterModel") (C := "FormulaSetterModel") (T := T_Mo) (N := 53) (v := .ref (x + 36)) hx hb hT i_Mo hown hK hP mkM_o rfl 42 (by decide) (hT _ w902) (fun _ h9 => h9) rfl (fh_d d_Mo_setLarge 64 rfl) ?_
    refine lv_iload_n hx hb (fh_d d_Mo_setLarge 65 rfl) rfl (lv_at hl 3 rfl) ?_
    refine fn_iald (f := upd (A 35) n0 ((yX s0) - (((sgH ((A 2) n0) 14) - (sgD ((A 2) n0) 14)) / 2))) (k := n0) hx hb hK hP 0 mkM_a35 rfl (rfl) (by omega) (by decide) (fh_d d_Mo_setLarge 66 rfl) ?_
    rw [show ((upd (A 35) n0 ((yX s0) - (((sgH ((A 2) n0) 14) - (sgD ((A 2) n0) 14)) / 2))) n0) = ((yX s0) - (((sgH ((A 2) n0) 14) - (sgD ((A 2) n0) 14)) / 2)) from upd_s]
    refine lv_isub hx hb (fh_d d_Mo_setLarge 67 rfl) ?_
    refine fh_callS (cc' := c_Mo_most) (nL' := 2) (rest := [.int (nI n0), .ref (x + 25)]) (av := [.int 0, .int ((sgD ((A 2) n0) 14) - ((yX s0) - (((sgH ((A 2) n0) 14) - (sgD ((A 2) n0) 14)) / 2)))]) X hR (m_Mo_most l D ct b RO (r - 1) n 0 ((sgD ((A 2) n0) 14) - ((yX s0) - (((sgH ((A 2) n0) 14) - (sgD ((A 2) n0) 14)) / 2))) (mkM ct x g (up2 (up2 (up2 A 35 (upd (A 35) n0 ((yX s0) - (((sgH ((A 2) n0) 14) - (sgD ((A 2) n0) 14)) / 2)))) 22 (upd (A 22) n0 (sgW ((A 2) n0) 14))) 23 (upd (A 23) n0 ((sgH ((A 2) n0) 14) + ((yX s0) - (((sgH ((A 2) n0) 14) - (sgD ((A 2) n0) 14)) / 2))))) th co at_ wr no nu op pi wi he de)) w1151 w1149 w1150 w9 ⟨by decide, by decide, by show _ = some 2; decide +kernel⟩ (by omega) (by decide) hP hS hl.1 rfl (by exact Nat.le_of_ble_eq_true rfl) (fh_d d_Mo_setLarge 68 rfl) ⟨Nat.le_refl _, Nat.le_refl _⟩ (fun v9 h9 n9 H locs hq hP hS => ?_)
    obtain ⟨rfl, q8a, q8b⟩ := hq
    rw [q8a, q8b] at hP
    refine W.eq (g2 := F0 m 110 ls [.int (ms 0 ((sgD ((A 2) n0) 14) - ((yX s0) - (((sgH ((A 2) n0) 14) - (sgD ((A 2) n0) 14)) / 2)))), .int (nI n0), .ref (x + 25)]) rfl ?_
    refine fn_iast (f := A 24) (k := n0) hx hb hK hP hS 0 mkM_a24 rfl (rfl) (by omega) (by decide) (fh_d d_Mo_setLarge 69 rfl) (fun H locs hP hS => ?_)
    replace hP := fh_P.eq (h' := mkM ct x g (up2 (up2 (up2 (up2 A 35 (upd (A 35) n0 ((yX s0) - (((sgH ((A 2) n0) 14) - (sgD ((A 2) n0) 14)) / 2)))) 22 (upd (A 22) n0 (sgW ((A 2) n0) 14))) 23 (upd (A 23) n0 ((sgH ((A 2) n0) 14) + ((yX s0) - (((sgH ((A 2) n0) 14) - (sgD ((A 2) n0) 14)) / 2))))) 24 (upd (A 24) n0 (ms 0 ((sgD ((A 2) n0) 14) - ((yX s0) - (((sgH ((A 2) n0) 14) - (sgD ((A 2) n0) 14)) / 2)))))) th co at_ wr no nu op pi wi he de) hP mkM_u24
    exact fh_vret X hP hS (fh_d d_Mo_setLarge 70 rfl) ⟨rfl, by unfold rf_la; rw [if_pos hs]; (try rfl), rfl⟩
  · skip
    refine lv_aload_n hx hb (fh_d d_Mo_setLarge 0 rfl) rfl (lv_at hl 0 rfl) ?_
    refine fh_get (own := "FormulaSetterModel") (ref := "FormulaSetterModel") (C := "FormulaSetterModel") (T := T_Mo) (N := 53) (v := .ref (x + 21)) hx hb hT i_Mo hown hK hP mkM_o rfl 27 (by decide) (hT _ w887) (fun _ h9 => h9) rfl (fh_d d_Mo_setLarge 1 rfl) ?_
    refine lv_iload_n hx hb (fh_d d_Mo_setLarge 2 rfl) rfl (lv_at hl 1 rfl) ?_
    refine fn_iald (f := A 20) (k := n0) hx hb hK hP 0 mkM_a20 rfl (rfl) (by omega) (by decide) (fh_d d_Mo_setLarge 3 rfl) ?_
    rw [show ((A 20) n0) = nI s0 from h20]
    refine lv_if_ne (tgt := 14) hx hb (fh_d d_Mo_setLarge 4 rfl) rfl (fun c9 => ?_) (fun c9 => absurd c9 (fun z => hs (nI_z hs0 z)))
    refine lv_aload_n hx hb (fh_d d_Mo_setLarge 7 rfl) rfl (lv_at hl 0 rfl) ?_
    refine fh_get (own := "FormulaSetterModel") (ref := "FormulaSetterModel") (C := "FormulaSetterModel") (T := T_Mo) (N := 53) (v := .ref (x + 21)) hx hb hT i_Mo hown hK hP mkM_o rfl 27 (by decide) (hT _ w887) (fun _ h9 => h9) rfl (fh_d d_Mo_setLarge 8 rfl) ?_
    refine lv_iload_n hx hb (fh_d d_Mo_setLarge 9 rfl) rfl (lv_at hl 1 rfl) ?_
    refine fn_iald (f := A 20) (k := n0) hx hb hK hP 0 mkM_a20 rfl (rfl) (by omega) (by decide) (fh_d d_Mo_setLarge 10 rfl) ?_
    rw [show ((A 20) n0) = nI s0 from h20]
    refine fh_callS (cc' := c_Mo_zOf) (nL' := 1) (rest := []) (av := [.int (nI s0)]) X hR (m_Mo_zO l D ct b RO hR (r - 1) (by omega) n s0 hs0 (mkM ct x g A th co at_ wr no nu op pi wi he de)) w1139 w1137 w1138 w9 ⟨by decide, by decide, by show _ = some 1; decide +kernel⟩ (by omega) (by decide) hP hS hl.1 rfl (by exact Nat.le_of_ble_eq_true rfl) (fh_d d_Mo_setLarge 11 rfl) ⟨Nat.le_refl _, Nat.le_refl _⟩ (fun v9 h9 n9 H locs hq hP hS => ?_)
    obtain ⟨rfl, q10a, q10b⟩ := hq
    rw [q10a, q10b] at hP
    refine W.eq (g2 := F0 m 23 ls [.int (yS s0)]) rfl ?_
    refine lv_istore_n (lv' := [(2, .int (yS s0)), (0, .ref x), (1, .int (nI n0))]) hx hb (fh_d d_Mo_setLarge 12 rfl) rfl hl (by decide) rfl (fun ls hl => ?_)
    refine lv_aload_n hx hb (fh_d d_Mo_setLarge 13 rfl) rfl (lv_at hl 1 rfl) ?_
    refine fh_get (own := "FormulaSetterModel") (ref := "FormulaSetterModel") (C := "FormulaSetterModel") (T := T_Mo) (N := 53) (v := .ref (x + 3)) hx hb hT i_Mo hown hK hP mkM_o rfl 8 (by decide) (hT _ w868) (fun _ h9 => h9) rfl (fh_d d_Mo_setLarge 14 rfl) ?_
    refine lv_iload_n hx hb (fh_d d_Mo_setLarge 15 rfl) rfl (lv_at hl 2 rfl) ?_
    refine fn_iald (f := A 2) (k := n0) hx hb hK hP 0 mkM_a2 rfl (rfl) (by omega) (by decide) (fh_d d_Mo_setLarge 16 rfl) ?_
    refine lv_istore_n (lv' := [(3, .int ((A 2) n0)), (2, .int (yS s0)), (0, .ref x), (1, .int (nI n0))]) hx hb (fh_d d_Mo_setLarge 17 rfl) rfl hl (by decide) rfl (fun ls hl => ?_)
    refine lv_aload_n hx hb (fh_d d_Mo_setLarge 18 rfl) rfl (lv_at hl 2 rfl) ?_
    refine fh_get (own := "FormulaSetterModel") (ref := "FormulaSetterModel") (C := "FormulaSetterModel") (T := T_Mo) (N := 53) (v := .ref (x + 36)) hx hb hT i_Mo hown hK hP mkM_o rfl 42 (by decide) (hT _ w902) (fun _ h9 => h9) rfl (fh_d d_Mo_setLarge 19 rfl) ?_
    refine lv_iload_n hx hb (fh_d d_Mo_setLarge 20 rfl) rfl (lv_at hl 3 rfl) ?_
    refine lv_aload_n hx hb (fh_d d_Mo_setLarge 21 rfl) rfl (lv_at hl 2 rfl) ?_
    refine fh_get (own := "FormulaSetterModel") (ref := "FormulaSetterModel") (C := "FormulaSetterModel") (T := T_Mo) (N := 53) (v := .ref (x + 21)) hx hb hT i_Mo hown hK hP mkM_o rfl 27 (by decide) (hT _ w887) (fun _ h9 => h9) rfl (fh_d d_Mo_setLarge 22 rfl) ?_
    refine lv_iload_n hx hb (fh_d d_Mo_setLarge 23 rfl) rfl (lv_at hl 3 rfl) ?_
    refine fn_iald (f := A 20) (k := n0) hx hb hK hP 0 mkM_a20 rfl (rfl) (by omega) (by decide) (fh_d d_Mo_setLarge 24 rfl) ?_
    rw [show ((A 20) n0) = nI s0 from h20]
    refine fh_callS (cc' := c_Mo_axisOf) (nL' := 1) (rest := [.int (nI n0), .ref (x + 36)]) (av := [.int (nI s0)]) X hR (m_Mo_xO l D ct b RO hR (r - 1) (by omega) n s0 hs0 (mkM ct x g A th co at_ wr no nu op pi wi he de)) w1167 w1165 w1166 w9 ⟨by decide, by decide, by show _ = some 1; decide +kernel⟩ (by omega) (by decide) hP hS hl.1 rfl (by exact Nat.le_of_ble_eq_true rfl) (fh_d d_Mo_setLarge 25 rfl) ⟨Nat.le_refl _, Nat.le_refl _⟩ (fun v9 h9 n9 H locs hq hP hS => ?_)
    obtain ⟨rfl, q11a, q11b⟩ := hq
    rw [q11a, q11b] at hP
    refine W.eq (g2 := F0 m 45 ls [.int (yX s0), .int (nI n0), .ref (x + 36)]) rfl ?_
    refine lv_iload_n hx hb (fh_d d_Mo_setLarge 26 rfl) rfl (lv_at hl 0 rfl) ?_
    refine lv_iload_n hx hb (fh_d d_Mo_setLarge 27 rfl) rfl (lv_at hl 1 rfl) ?_
    refine fh_callS (cc' := c_Mo_signH) (nL' := 2) (rest := [.int (yX s0), .int (nI n0), .ref (x + 36)]) (av := [.int ((A 2) n0), .int (yS s0)]) X hR (m_Mo_signH l D ct b RO (r - 1) n ((A 2) n0) (yS s0) (mkM ct x g A th co at_ wr no nu op pi wi he de)) w1157 w1155 w1156 w9 ⟨by decide, by decide, by show _ = some 2; decide +kernel⟩ (by omega) (by decide) hP hS hl.1 rfl (by exact Nat.le_of_ble_eq_true rfl) (fh_d d_Mo_setLarge 28 rfl) ⟨Nat.le_refl _, Nat.le_refl _⟩ (fun v9 h9 n9 H locs hq hP hS => ?_)
    obtain ⟨rfl, q12a, q12b⟩ := hq
    rw [q12a, q12b] at hP
    refine W.eq (g2 := F0 m 50 ls [.int (sgH ((A 2) n0) (yS s0)), .int (yX s0), .int (nI n0), .ref (x + 36)]) rfl ?_
    refine lv_iload_n hx hb (fh_d d_Mo_setLarge 29 rfl) rfl (lv_at hl 0 rfl) ?_
    refine lv_iload_n hx hb (fh_d d_Mo_setLarge 30 rfl) rfl (lv_at hl 1 rfl) ?_
    refine fh_callS (cc' := c_Mo_signD) (nL' := 2) (rest := [.int (sgH ((A 2) n0) (yS s0)), .int (yX s0), .int (nI n0), .ref (x + 36)]) (av := [.int ((A 2) n0), .int (yS s0)]) X hR (m_Mo_signD l D ct b RO (r - 1) n ((A 2) n0) (yS s0) (mkM ct x g A th co at_ wr no nu op pi wi he de)) w1160 w1158 w1159 w9 ⟨by decide, by decide, by show _ = some 2; decide +kernel⟩ (by omega) (by decide) hP hS hl.1 rfl (by exact Nat.le_of_ble_eq_true rfl) (fh_d d_Mo_setLarge 31 rfl) ⟨Nat.le_refl _, Nat.le_refl _⟩ (fun v9 h9 n9 H locs hq hP hS => ?_)
    obtain ⟨rfl, q13a, q13b⟩ := hq
    rw [q13a, q13b] at hP
    refine W.eq (g2 := F0 m 55 ls [.int (sgD ((A 2) n0) (yS s0)), .int (sgH ((A 2) n0) (yS s0)), .int (yX s0), .int (nI n0), .ref (x + 36)]) rfl ?_
    refine lv_isub hx hb (fh_d d_Mo_setLarge 32 rfl) ?_
    refine lv_iconst (v := 2) hx hb (fh_d d_Mo_setLarge 33 rfl) (by decide) ?_
    refine lv_idiv hx hb (fh_d d_Mo_setLarge 34 rfl) (by decide) ?_
    refine lv_isub hx hb (fh_d d_Mo_setLarge 35 rfl) ?_
    refine fn_iast (f := A 35) (k := n0) hx hb hK hP hS 0 mkM_a35 rfl (rfl) (by omega) (by decide) (fh_d d_Mo_setLarge 36 rfl) (fun H locs hP hS => ?_)
    replace hP := fh_P.eq (h' := mkM ct x g (up2 A 35 (upd (A 35) n0 ((yX s0) - (((sgH ((A 2) n0) (yS s0)) - (sgD ((A 2) n0) (yS s0))) / 2)))) th co at_ wr no nu op pi wi he de) hP mkM_u35
    refine lv_aload_n hx hb (fh_d d_Mo_setLarge 37 rfl) rfl (lv_at hl 2 rfl) ?_
    refine fh_get (own := "FormulaSetterModel") (ref := "FormulaSetterModel") (C := "FormulaSetterModel") (T := T_Mo) (N := 53) (v := .ref (x + 23)) hx hb hT i_Mo hown hK hP mkM_o rfl 29 (by decide) (hT _ w889) (fun _ h9 => h9) rfl (fh_d d_Mo_setLarge 38 rfl) ?_
    refine lv_iload_n hx hb (fh_d d_Mo_setLarge 39 rfl) rfl (lv_at hl 3 rfl) ?_
    refine lv_iload_n hx hb (fh_d d_Mo_setLarge 40 rfl) rfl (lv_at hl 0 rfl) ?_
    refine lv_iload_n hx hb (fh_d d_Mo_setLarge 41 rfl) rfl (lv_at hl 1 rfl) ?_
    refine fh_callS (cc' := c_Mo_signW) (nL' := 2) (rest := [.int (nI n0), .ref (x + 23)]) (av := [.int ((A 2) n0), .int (yS s0)]) X hR (m_Mo_signW l D ct b RO (r - 1) n ((A 2) n0) (yS s0) (mkM ct x g (up2 A 35 (upd (A 35) n0 ((yX s0) - (((sgH ((A 2) n0) (yS s0)) - (sgD ((A 2) n0) (yS s0))) / 2)))) th co at_ wr no nu op pi wi he de)) w1154 w1152 w1153 w9 ⟨by decide, by decide, by show _ = some 2; decide +kernel⟩ (by omega) (by decide) hP hS hl.1 rfl (by exact Nat.le_of_ble_eq_true rfl) (fh_d d_Mo_setLarge 42 rfl) ⟨Nat.le_refl _, Nat.le_refl _⟩ (fun v9 h9 n9 H locs hq hP hS => ?_)
    obtain ⟨rfl, q14a, q14b⟩ := hq
    rw [q14a, q14b] at hP
    refine W.eq (g2 := F0 m 70 ls [.int (sgW ((A 2) n0) (yS s0)), .int (nI n0), .ref (x + 23)]) rfl ?_
    refine fn_iast (f := A 22) (k := n0) hx hb hK hP hS 0 mkM_a22 rfl (rfl) (by omega) (by decide) (fh_d d_Mo_setLarge 43 rfl) (fun H locs hP hS => ?_)
    replace hP := fh_P.eq (h' := mkM ct x g (up2 (up2 A 35 (upd (A 35) n0 ((yX s0) - (((sgH ((A 2) n0) (yS s0)) - (sgD ((A 2) n0) (yS s0))) / 2)))) 22 (upd (A 22) n0 (sgW ((A 2) n0) (yS s0)))) th co at_ wr no nu op pi wi he de) hP mkM_u22
    refine lv_aload_n hx hb (fh_d d_Mo_setLarge 44 rfl) rfl (lv_at hl 2 rfl) ?_
    refine fh_get (own := "FormulaSetterModel") (ref := "FormulaSetterModel") (C := "FormulaSetterModel") (T := T_Mo) (N := 53) (v := .ref (x + 24)) hx hb hT i_Mo hown hK hP mkM_o rfl 30 (by decide) (hT _ w890) (fun _ h9 => h9) rfl (fh_d d_Mo_setLarge 45 rfl) ?_
    refine lv_iload_n hx hb (fh_d d_Mo_setLarge 46 rfl) rfl (lv_at hl 3 rfl) ?_
    refine lv_iload_n hx hb (fh_d d_Mo_setLarge 47 rfl) rfl (lv_at hl 0 rfl) ?_
    refine lv_iload_n hx hb (fh_d d_Mo_setLarge 48 rfl) rfl (lv_at hl 1 rfl) ?_
    refine fh_callS (cc' := c_Mo_signH) (nL' := 2) (rest := [.int (nI n0), .ref (x + 24)]) (av := [.int ((A 2) n0), .int (yS s0)]) X hR (m_Mo_signH l D ct b RO (r - 1) n ((A 2) n0) (yS s0) (mkM ct x g (up2 (up2 A 35 (upd (A 35) n0 ((yX s0) - (((sgH ((A 2) n0) (yS s0)) - (sgD ((A 2) n0) (yS s0))) / 2)))) 22 (upd (A 22) n0 (sgW ((A 2) n0) (yS s0)))) th co at_ wr no nu op pi wi he de)) w1157 w1155 w1156 w9 ⟨by decide, by decide, by show _ = some 2; decide +kernel⟩ (by omega) (by decide) hP hS hl.1 rfl (by exact Nat.le_of_ble_eq_true rfl) (fh_d d_Mo_setLarge 49 rfl) ⟨Nat.le_refl _, Nat.le_refl _⟩ (fun v9 h9 n9 H locs hq hP hS => ?_)
    obtain ⟨rfl, q15a, q15b⟩ := hq
    rw [q15a, q15b] at hP
    refine W.eq (g2 := F0 m 81 ls [.int (sgH ((A 2) n0) (yS s0)), .int (nI n0), .ref (x + 24)]) rfl ?_
    refine lv_aload_n hx hb (fh_d d_Mo_setLarge 50 rfl) rfl (lv_at hl 2 rfl) ?_
    refine fh_get (own := "FormulaSetterModel") (ref := "FormulaSetterModel") (C := "FormulaSetterModel") (T := T_Mo) (N := 53) (v := .ref (x + 36)) hx hb hT i_Mo hown hK hP mkM_o rfl 42 (by decide) (hT _ w902) (fun _ h9 => h9) rfl (fh_d d_Mo_setLarge 51 rfl) ?_
    refine lv_iload_n hx hb (fh_d d_Mo_setLarge 52 rfl) rfl (lv_at hl 3 rfl) ?_
    refine fn_iald (f := upd (A 35) n0 ((yX s0) - (((sgH ((A 2) n0) (yS s0)) - (sgD ((A 2) n0) (yS s0))) / 2))) (k := n0) hx hb hK hP 0 mkM_a35 rfl (rfl) (by omega) (by decide) (fh_d d_Mo_setLarge 53 rfl) ?_
    rw [show ((upd (A 35) n0 ((yX s0) - (((sgH ((A 2) n0) (yS s0)) - (sgD ((A 2) n0) (yS s0))) / 2))) n0) = ((yX s0) - (((sgH ((A 2) n0) (yS s0)) - (sgD ((A 2) n0) (yS s0))) / 2)) from upd_s]
    refine lv_iadd hx hb (fh_d d_Mo_setLarge 54 rfl) ?_
    refine fn_iast (f := A 23) (k := n0) hx hb hK hP hS 0 mkM_a23 rfl (rfl) (by omega) (by decide) (fh_d d_Mo_setLarge 55 rfl) (fun H locs hP hS => ?_)
    replace hP := fh_P.eq (h' := mkM ct x g (up2 (up2 (up2 A 35 (upd (A 35) n0 ((yX s0) - (((sgH ((A 2) n0) (yS s0)) - (sgD ((A 2) n0) (yS s0))) / 2)))) 22 (upd (A 22) n0 (sgW ((A 2) n0) (yS s0)))) 23 (upd (A 23) n0 ((sgH ((A 2) n0) (yS s0)) + ((yX s0) - (((sgH ((A 2) n0) (yS s0)) - (sgD ((A 2) n0) (yS s0))) / 2))))) th co at_ wr no nu op pi wi he de) hP mkM_u23
    refine lv_aload_n hx hb (fh_d d_Mo_setLarge 56 rfl) rfl (lv_at hl 2 rfl) ?_
    refine fh_get (own := "FormulaSetterModel") (ref := "FormulaSetterModel") (C := "FormulaSetterModel") (T := T_Mo) (N := 53) (v := .ref (x + 25)) hx hb hT i_Mo hown hK hP mkM_o rfl 31 (by decide) (hT _ w891) (fun _ h9 => h9) rfl (fh_d d_Mo_setLarge 57 rfl) ?_
    refine lv_iload_n hx hb (fh_d d_Mo_setLarge 58 rfl) rfl (lv_at hl 3 rfl) ?_
    refine lv_iconst (v := 0) hx hb (fh_d d_Mo_setLarge 59 rfl) (by decide) ?_
    refine lv_iload_n hx hb (fh_d d_Mo_setLarge 60 rfl) rfl (lv_at hl 0 rfl) ?_
    refine lv_iload_n hx hb (fh_d d_Mo_setLarge 61 rfl) rfl (lv_at hl 1 rfl) ?_
    refine fh_callS (cc' := c_Mo_signD) (nL' := 2) (rest := [.int 0, .int (nI n0), .ref (x + 25)]) (av := [.int ((A 2) n0), .int (yS s0)]) X hR (m_Mo_signD l D ct b RO (r - 1) n ((A 2) n0) (yS s0) (mkM ct x g (up2 (up2 (up2 A 35 (upd (A 35) n0 ((yX s0) - (((sgH ((A 2) n0) (yS s0)) - (sgD ((A 2) n0) (yS s0))) / 2)))) 22 (upd (A 22) n0 (sgW ((A 2) n0) (yS s0)))) 23 (upd (A 23) n0 ((sgH ((A 2) n0) (yS s0)) + ((yX s0) - (((sgH ((A 2) n0) (yS s0)) - (sgD ((A 2) n0) (yS s0))) / 2))))) th co at_ wr no nu op pi wi he de)) w1160 w1158 w1159 w9 ⟨by decide, by decide, by show _ = some 2; decide +kernel⟩ (by omega) (by decide) hP hS hl.1 rfl (by exact Nat.le_of_ble_eq_true rfl) (fh_d d_Mo_setLarge 62 rfl) ⟨Nat.le_refl _, Nat.le_refl _⟩ (fun v9 h9 n9 H locs hq hP hS => ?_)
    obtain ⟨rfl, q16a, q16b⟩ := hq
    rw [q16a, q16b] at hP
    refine W.eq (g2 := F0 m 100 ls [.int (sgD ((A 2) n0) (yS s0)), .int 0, .int (nI n0), .ref (x + 25)]) rfl ?_
    refine lv_aload_n hx hb (fh_d d_Mo_setLarge 63 rfl) rfl (lv_at hl 2 rfl) ?_
    refine fh_get (own := "FormulaSetterModel") (ref := "FormulaSetterModel") (C := "FormulaSetterModel") (T := T_Mo) (N := 53) (v := .ref (x + 36)) hx hb hT i_Mo hown hK hP mkM_o rfl 42 (by decide) (hT _ w902) (fun _ h9 => h9) rfl (fh_d d_Mo_setLarge 64 rfl) ?_
    refine lv_iload_n hx hb (fh_d d_Mo_setLarge 65 rfl) rfl (lv_at hl 3 rfl) ?_
    refine fn_iald (f := upd (A 35) n0 ((yX s0) - (((sgH ((A 2) n0) (yS s0)) - (sgD ((A 2) n0) (yS s0))) / 2))) (k := n0) hx hb hK hP 0 mkM_a35 rfl (rfl) (by omega) (by decide) (fh_d d_Mo_setLarge 66 rfl) ?_
    rw [show ((upd (A 35) n0 ((yX s0) - (((sgH ((A 2) n0) (yS s0)) - (sgD ((A 2) n0) (yS s0))) / 2))) n0) = ((yX s0) - (((sgH ((A 2) n0) (yS s0)) - (sgD ((A 2) n0) (yS s0))) / 2)) from upd_s]
    refine lv_isub hx hb (fh_d d_Mo_setLarge 67 rfl) ?_
    refine fh_callS (cc' := c_Mo_most) (nL' := 2) (rest := [.int (nI n0), .ref (x + 25)]) (av := [.int 0, .int ((sgD ((A 2) n0) (yS s0)) - ((yX s0) - (((sgH ((A 2) n0) (yS s0)) - (sgD ((A 2) n0) (yS s0))) / 2)))]) X hR (m_Mo_most l D ct b RO (r - 1) n 0 ((sgD ((A 2) n0) (yS s0)) - ((yX s0) - (((sgH ((A 2) n0) (yS s0)) - (sgD ((A 2) n0) (yS s0))) / 2))) (mkM ct x g (up2 (up2 (up2 A 35 (upd (A 35) n0 ((yX s0) - (((sgH ((A 2) n0) (yS s0)) - (sgD ((A 2) n0) (yS s0))) / 2)))) 22 (upd (A 22) n0 (sgW ((A 2) n0) (yS s0)))) 23 (upd (A 23) n0 ((sgH ((A 2) n0) (yS s0)) + ((yX s0) - (((sgH ((A 2) n0) (yS s0)) - (sgD ((A 2) n0) (yS s0))) / 2))))) th co at_ wr no nu op pi wi he de)) w1151 w1149 w1150 w9 ⟨by decide, by decide, by show _ = some 2; decide +kernel⟩ (by omega) (by decide) hP hS hl.1 rfl (by exact Nat.le_of_ble_eq_true rfl) (fh_d d_Mo_setLarge 68 rfl) ⟨Nat.le_refl _, Nat.le_refl _⟩ (fun v9 h9 n9 H locs hq hP hS => ?_)
    obtain ⟨rfl, q17a, q17b⟩ := hq
    rw [q17a, q17b] at hP
    refine W.eq (g2 := F0 m 110 ls [.int (ms 0 ((sgD ((A 2) n0) (yS s0)) - ((yX s0) - (((sgH ((A 2) n0) (yS s0)) - (sgD ((A 2) n0) (yS s0))) / 2)))), .int (nI n0), .ref (x + 25)]) rfl ?_
    refine fn_iast (f := A 24) (k := n0) hx hb hK hP hS 0 mkM_a24 rfl (rfl) (by omega) (by decide) (fh_d d_Mo_setLarge 69 rfl) (fun H locs hP hS => ?_)
    replace hP := fh_P.eq (h' := mkM ct x g (up2 (up2 (up2 (up2 A 35 (upd (A 35) n0 ((yX s0) - (((sgH ((A 2) n0) (yS s0)) - (sgD ((A 2) n0) (yS s0))) / 2)))) 22 (upd (A 22) n0 (sgW ((A 2) n0) (yS s0)))) 23 (upd (A 23) n0 ((sgH ((A 2) n0) (yS s0)) + ((yX s0) - (((sgH ((A 2) n0) (yS s0)) - (sgD ((A 2) n0) (yS s0))) / 2))))) 24 (upd (A 24) n0 (ms 0 ((sgD ((A 2) n0) (yS s0)) - ((yX s0) - (((sgH ((A 2) n0) (yS s0)) - (sgD ((A 2) n0) (yS s0))) / 2)))))) th co at_ wr no nu op pi wi he de) hP mkM_u24
    exact fh_vret X hP hS (fh_d d_Mo_setLarge 70 rfl) ⟨rfl, by unfold rf_la; rw [if_neg hs]; (try rfl), rfl⟩
