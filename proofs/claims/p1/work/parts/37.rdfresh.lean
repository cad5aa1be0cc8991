/-! The Reader: freshNucleus, freshLine. Printed by wip/whole/gen/p37.py -/
section FNA
variable {p : Program} {l : Launch} {e : Env} {R : Room} {s : State} {m : MethodId} {args : Array Value} {below : List Frame} {meth : Method} {c : Code} {H : Heap} {locs : List Loc} {cells slots : Nat} {Q : State → Prop}
variable {cc : ByteArray} {pc : Nat} {ls : Array Slot} {rest : List Value} {D : va_G} {cl : List vw_C} {b n a : Nat} {h : fh_H} {tys : List (ClassId × FieldType)}
theorem fn_aald (hexec : p.tables.exec = Jvm.exec) (hb : c.code = cc) (hK : va_K D cl tys s) (hP : fh_P D cl b h n H) (t0 : Nat) {cA : ClassId} {C : String} {N k : Nat} {f : Nat → Option Nat} {r : Option Nat} (ha : h a = some (.inl (cA, N, fh_q f))) (ht : tys[t0]? = some (cA, .object C)) {i : Int32} (hi : i = nI k) (hk : k < N) (hN : N < 2 ^ 31) (hr : f k = r) (hdg : decode cc pc = .ok (.aaload, 1))
    (kk : W p l e R s m args below meth c H locs cells slots Q (F0 m (pc + 1) ls (va_rf r :: rest))) : W p l e R s m args below meth c H locs cells slots Q (F0 m pc ls (.int i :: .ref a :: rest)) := by
  subst hi; subst hr
  refine fh_aald hexec hb hK hP t0 ha ht (vp_in_nI hk hN) hdg ?_
  rw [nI_clamp (Nat.lt_trans hk hN)]
  exact kk
end FNA
abbrev nu_c (C : Nat → Nat → Int32) (k : Nat) : Nat → Nat → Int32 := upT C k (up1 (up1 (C k) 7 0) 8 0)
abbrev li_c (C : Nat → Nat → Int32) (k : Nat) : Nat → Nat → Int32 := upT C k (up1 (up1 (C k) 6 0) 7 0)
abbrev nu_r (R : Nat → Nat → Option Nat) (k : Nat) : Nat → Nat → Option Nat := upT R k (fun _ => none)
set_option maxHeartbeats 4000000 in
set_option maxRecDepth 100000 in
theorem m_Rd_freshNucleus (l : Launch) (D : va_G) (ct : Nat → ClassId) (b : Nat) (RO : State → Prop) (hR : fh_R b RO) (r : Nat) (hr : 1 ≤ r) (n x : Nat) (kA aA : Nat → Nat) (g : fh_H) (C : Nat → Nat → Int32) (R : Nat → Nat → Option Nat) (CL : Nat → Nat → Int32) (RL : Nat → Nat → Option Nat) (lc len at_ : Int32) (k : Nat) (hk : k ≤ 60) (hg3 : g (x + 3) = some (.inl (ct 4, 60, fh_q (rd_F (x + 4) 60)))) : fh_C l D fh_cl (fh_tys ct) b RO y_Rd_freshNucleus (Cond.code y_Rd_freshNucleus c_Rd_freshNucleus 2 (Option.some (FieldType.object "FormulaSetter$Nucleus")) :: fh_T) (fh_rm r 0 0) [.ref (x + 2)] (mkR x kA aA g (nI k) lc (.ref (x + 1)) len at_ C R CL RL) n (fun v h' n' => n' = n ∧ ((k < 60 ∧ v = some (.ref (x + 4 + k)) ∧ h' = mkR x kA aA g (nI (k + 1)) lc (.ref (x + 1)) len at_ (nu_c C k) (nu_r R k) CL RL) ∨ (k = 60 ∧ v = some (va_rf none) ∧ h' = mkR x kA aA g (nI k) lc (.ref (x + 1)) len at_ C R CL RL))) 0 0 := by
  refine fh_enter (by decide) (Nat.le_of_ble_eq_true rfl) [(0, .ref (x + 2))] rfl ?_
  intro p e s m args below meth c H ls X hP hS hl
  have hx := X.1
  have hb := X.2.1
  have hml := X.2.2.1
  have hown : s.vm.findClass "FormulaSetter$Reader" = some m.cls := X.2.2.2.1
  have hT := X.2.2.2.2.1
  have hK := X.2.2.2.2.2.1
  have hRO := X.2.2.2.2.2.2.1
  have hnm : meth.name = "freshNucleus" := X.2.2.2.2.2.2.2.2.2.2
  refine lv_aload_n hx hb (fh_d d_Rd_freshNucleus 0 rfl) rfl (lv_at hl 0 rfl) ?_
  refine fh_get (own := "FormulaSetter$Reader") (ref := "FormulaSetter$Reader") (C := "FormulaSetter$Reader") (T := T_Rd) (N := 7) (v := .int (nI k)) hx hb hT i_Rd hown hK hP mkR_rd rfl 2 (by decide) (hT _ w182) (fun _ h9 => h9) (rfl) (fh_d d_Rd_freshNucleus 1 rfl) ?_
  refine lv_bipush (v := 60) hx hb (fh_d d_Rd_freshNucleus 2 rfl) (by decide) ?_
  refine lv_icmp_lt (tgt := 11) hx hb (fh_d d_Rd_freshNucleus 3 rfl) rfl (fun c1 => ?_) (fun c1 => ?_)
  · have qk : k < 60 := (nI_ltI (a := k) (b := 60) (by omega) (by decide)).mp c1
    refine lv_aload_n hx hb (fh_d d_Rd_freshNucleus 6 rfl) rfl (lv_at hl 0 rfl) ?_
    refine fh_get (own := "FormulaSetter$Reader") (ref := "FormulaSetter$Reader") (C := "FormulaSetter$Reader") (T := T_Rd) (N := 7) (v := .ref (x + 3)) hx hb hT i_Rd hown hK hP mkR_rd rfl 0 (by decide) (hT _ w180) (fun _ h9 => h9) (rfl) (fh_d d_Rd_freshNucleus 7 rfl) ?_
    refine lv_aload_n hx hb (fh_d d_Rd_freshNucleus 8 rfl) rfl (lv_at hl 0 rfl) ?_
    refine fh_get (own := "FormulaSetter$Reader") (ref := "FormulaSetter$Reader") (C := "FormulaSetter$Reader") (T := T_Rd) (N := 7) (v := .int (nI k)) hx hb hT i_Rd hown hK hP mkR_rd rfl 2 (by decide) (hT _ w182) (fun _ h9 => h9) (rfl) (fh_d d_Rd_freshNucleus 9 rfl) ?_
    refine fn_aald (C := "FormulaSetter$Nucleus") (r := some (x + 4 + k)) hx hb hK hP 4 ((mkR_g (by omega) (by omega) (by omega)).trans hg3) rfl rfl qk (by decide) (if_pos qk) (fh_d d_Rd_freshNucleus 10 rfl) ?_
    refine W.eq (g2 := F0 m 20 ls [.ref (x + 4 + k)]) rfl ?_
    refine lv_astore_n (lv' := [(1, .ref (x + 4 + k)), (0, .ref (x + 2))]) hx hb (fh_d d_Rd_freshNucleus 11 rfl) rfl hl (by decide) rfl (fun ls hl => ?_)
    refine lv_aload_n hx hb (fh_d d_Rd_freshNucleus 12 rfl) rfl (lv_at hl 1 rfl) ?_
    refine lv_dup hx hb (fh_d d_Rd_freshNucleus 13 rfl) rfl ?_
    refine fh_get (own := "FormulaSetter$Reader") (ref := "FormulaSetter$Reader") (C := "FormulaSetter$Reader") (T := T_Rd) (N := 7) (v := .int (nI k)) hx hb hT i_Rd hown hK hP mkR_rd rfl 2 (by decide) (hT _ w182) (fun _ h9 => h9) (rfl) (fh_d d_Rd_freshNucleus 14 rfl) ?_
    refine lv_iconst (v := 1) hx hb (fh_d d_Rd_freshNucleus 15 rfl) (by decide) ?_
    refine lv_iadd hx hb (fh_d d_Rd_freshNucleus 16 rfl) ?_
    refine fh_put (own := "FormulaSetter$Reader") (ref := "FormulaSetter$Reader") (C := "FormulaSetter$Reader") (T := T_Rd) (N := 7) (v := .int ((nI k) + 1)) (ty := .int) hx hb hT i_Rd t_Rd k_Rd n_Rd hown hK hP hS mkR_rd rfl 2 (by decide) (hT _ w182) (fun _ h9 => h9) rfl (by decide +kernel) rfl rfl (Nat.le_of_ble_eq_true rfl) (fh_d d_Rd_freshNucleus 17 rfl) (fun H locs hP hS => ?_)
    replace hP := fh_P.eq (h' := mkR x kA aA g ((nI k) + 1) lc (.ref (x + 1)) len at_ C R CL RL) hP mkR_urd
    refine lv_aload_n hx hb (fh_d d_Rd_freshNucleus 18 rfl) rfl (lv_at hl 0 rfl) ?_
    rw [nI_1] at hP
    refine fh_callV (cc' := c_Nu_clear) (nL' := 1) (rest := []) (a := x + 4 + k) (As := []) X hR (m_Nu_clear l D ct b RO (r - 1) n x (x + 4 + k) kA aA _ _ _ (mkR_nu (by omega))) w391 w388 w389 w390 w4 ⟨by decide, by decide, by show _ = some 0; decide +kernel⟩ (by omega) (by decide) (fh_recv hK hP (mkR_nu (by omega)) rfl) hP hS hl.1 rfl (by exact Nat.le_of_ble_eq_true rfl) (fh_d d_Rd_freshNucleus 19 rfl) ⟨Nat.le_refl _, Nat.le_refl _⟩ (fun v9 h9 n9 H locs hq hP hS => ?_)
    obtain ⟨rfl, ua, ub⟩ := hq
    rw [ua, ub, mkR_unu (by omega)] at hP
    refine lv_aload_n hx hb (fh_d d_Rd_freshNucleus 20 rfl) rfl (lv_at hl 0 rfl) ?_
    exact fh_aret (r := some (x + 4 + k)) X hP hS (fh_d d_Rd_freshNucleus 21 rfl) ⟨rfl, Or.inl ⟨qk, rfl, rfl⟩⟩
  · have qk : ¬ k < 60 := fun q => c1 ((nI_ltI (a := k) (b := 60) (by omega) (by decide)).mpr q)
    refine lv_null hx hb (fh_d d_Rd_freshNucleus 4 rfl) ?_
    exact fh_aret (r := none) X hP hS (fh_d d_Rd_freshNucleus 5 rfl) ⟨rfl, Or.inr ⟨by have := qk; omega, rfl, rfl⟩⟩

set_option maxHeartbeats 4000000 in
set_option maxRecDepth 100000 in
theorem m_Rd_freshLine (l : Launch) (D : va_G) (ct : Nat → ClassId) (b : Nat) (RO : State → Prop) (hR : fh_R b RO) (r : Nat) (hr : 1 ≤ r) (n x : Nat) (kA aA : Nat → Nat) (g : fh_H) (C : Nat → Nat → Int32) (R : Nat → Nat → Option Nat) (CL : Nat → Nat → Int32) (RL : Nat → Nat → Option Nat) (nc len at_ : Int32) (k : Nat) (hk : k ≤ 161) (hg3 : g (x + 64) = some (.inl (ct 5, 161, fh_q (rd_F (x + 65) 161)))) : fh_C l D fh_cl (fh_tys ct) b RO y_Rd_freshLine (Cond.code y_Rd_freshLine c_Rd_freshLine 2 (Option.some (FieldType.object "FormulaSetter$Line")) :: fh_T) (fh_rm r 0 0) [.ref (x + 2)] (mkR x kA aA g nc (nI k) (.ref (x + 1)) len at_ C R CL RL) n (fun v h' n' => n' = n ∧ ((k < 161 ∧ v = some (.ref (x + 65 + k)) ∧ h' = mkR x kA aA g nc (nI (k + 1)) (.ref (x + 1)) len at_ C R (li_c CL k) (nu_r RL k)) ∨ (k = 161 ∧ v = some (va_rf none) ∧ h' = mkR x kA aA g nc (nI k) (.ref (x + 1)) len at_ C R CL RL))) 0 0 := by
  refine fh_enter (by decide) (Nat.le_of_ble_eq_true rfl) [(0, .ref (x + 2))] rfl ?_
  intro p e s m args below meth c H ls X hP hS hl
  have hx := X.1
  have hb := X.2.1
  have hml := X.2.2.1
  have hown : s.vm.findClass "FormulaSetter$Reader" = some m.cls := X.2.2.2.1
  have hT := X.2.2.2.2.1
  have hK := X.2.2.2.2.2.1
  have hRO := X.2.2.2.2.2.2.1
  have hnm : meth.name = "freshLine" := X.2.2.2.2.2.2.2.2.2.2
  refine lv_aload_n hx hb (fh_d d_Rd_freshLine 0 rfl) rfl (lv_at hl 0 rfl) ?_
  refine fh_get (own := "FormulaSetter$Reader") (ref := "FormulaSetter$Reader") (C := "FormulaSetter$Reader") (T := T_Rd) (N := 7) (v := .int (nI k)) hx hb hT i_Rd hown hK hP mkR_rd rfl 3 (by decide) (hT _ w183) (fun _ h9 => h9) (rfl) (fh_d d_Rd_freshLine 1 rfl) ?_
  refine lv_sipush (v := 161) hx hb (fh_d d_Rd_freshLine 2 rfl) (by decide) ?_
  refine lv_icmp_lt (tgt := 12) hx hb (fh_d d_Rd_freshLine 3 rfl) rfl (fun c1 => ?_) (fun c1 => ?_)
  · have qk : k < 161 := (nI_ltI (a := k) (b := 161) (by omega) (by decide)).mp c1
    refine lv_aload_n hx hb (fh_d d_Rd_freshLine 6 rfl) rfl (lv_at hl 0 rfl) ?_
    refine fh_get (own := "FormulaSetter$Reader") (ref := "FormulaSetter$Reader") (C := "FormulaSetter$Reader") (T := T_Rd) (N := 7) (v := .ref (x + 64)) hx hb hT i_Rd hown hK hP mkR_rd rfl 1 (by decide) (hT _ w181) (fun _ h9 => h9) (rfl) (fh_d d_Rd_freshLine 7 rfl) ?_
    refine lv_aload_n hx hb (fh_d d_Rd_freshLine 8 rfl) rfl (lv_at hl 0 rfl) ?_
    refine fh_get (own := "FormulaSetter$Reader") (ref := "FormulaSetter$Reader") (C := "FormulaSetter$Reader") (T := T_Rd) (N := 7) (v := .int (nI k)) hx hb hT i_Rd hown hK hP mkR_rd rfl 3 (by decide) (hT _ w183) (fun _ h9 => h9) (rfl) (fh_d d_Rd_freshLine 9 rfl) ?_
    refine fn_aald (C := "FormulaSetter$Line") (r := some (x + 65 + k)) hx hb hK hP 5 ((mkR_g (by omega) (by omega) (by omega)).trans hg3) rfl rfl qk (by decide) (if_pos qk) (fh_d d_Rd_freshLine 10 rfl) ?_
    refine W.eq (g2 := F0 m 21 ls [.ref (x + 65 + k)]) rfl ?_
    refine lv_astore_n (lv' := [(1, .ref (x + 65 + k)), (0, .ref (x + 2))]) hx hb (fh_d d_Rd_freshLine 11 rfl) rfl hl (by decide) rfl (fun ls hl => ?_)
    refine lv_aload_n hx hb (fh_d d_Rd_freshLine 12 rfl) rfl (lv_at hl 1 rfl) ?_
    refine lv_dup hx hb (fh_d d_Rd_freshLine 13 rfl) rfl ?_
    refine fh_get (own := "FormulaSetter$Reader") (ref := "FormulaSetter$Reader") (C := "FormulaSetter$Reader") (T := T_Rd) (N := 7) (v := .int (nI k)) hx hb hT i_Rd hown hK hP mkR_rd rfl 3 (by decide) (hT _ w183) (fun _ h9 => h9) (rfl) (fh_d d_Rd_freshLine 14 rfl) ?_
    refine lv_iconst (v := 1) hx hb (fh_d d_Rd_freshLine 15 rfl) (by decide) ?_
    refine lv_iadd hx hb (fh_d d_Rd_freshLine 16 rfl) ?_
    refine fh_put (own := "FormulaSetter$Reader") (ref := "FormulaSetter$Reader") (C := "FormulaSetter$Reader") (T := T_Rd) (N := 7) (v := .int ((nI k) + 1)) (ty := .int) hx hb hT i_Rd t_Rd k_Rd n_Rd hown hK hP hS mkR_rd rfl 3 (by decide) (hT _ w183) (fun _ h9 => h9) rfl (by decide +kernel) rfl rfl (Nat.le_of_ble_eq_true rfl) (fh_d d_Rd_freshLine 17 rfl) (fun H locs hP hS => ?_)
    replace hP := fh_P.eq (h' := mkR x kA aA g nc ((nI k) + 1) (.ref (x + 1)) len at_ C R CL RL) hP mkR_urd
    refine lv_aload_n hx hb (fh_d d_Rd_freshLine 18 rfl) rfl (lv_at hl 0 rfl) ?_
    rw [nI_1] at hP
    refine fh_callV (cc' := c_Li_clear) (nL' := 1) (rest := []) (a := x + 65 + k) (As := []) X hR (m_Li_clear l D ct b RO (r - 1) n x (x + 65 + k) _ _ _ (mkR_li (by omega))) w311 w308 w309 w310 w5 ⟨by decide, by decide, by show _ = some 0; decide +kernel⟩ (by omega) (by decide) (fh_recv hK hP (mkR_li (by omega)) rfl) hP hS hl.1 rfl (by exact Nat.le_of_ble_eq_true rfl) (fh_d d_Rd_freshLine 19 rfl) ⟨Nat.le_refl _, Nat.le_refl _⟩ (fun v9 h9 n9 H locs hq hP hS => ?_)
    obtain ⟨rfl, ua, ub⟩ := hq
    rw [ua, ub, mkR_uli (by omega)] at hP
    refine lv_aload_n hx hb (fh_d d_Rd_freshLine 20 rfl) rfl (lv_at hl 0 rfl) ?_
    exact fh_aret (r := some (x + 65 + k)) X hP hS (fh_d d_Rd_freshLine 21 rfl) ⟨rfl, Or.inl ⟨qk, rfl, rfl⟩⟩
  · have qk : ¬ k < 161 := fun q => c1 ((nI_ltI (a := k) (b := 161) (by omega) (by decide)).mpr q)
    refine lv_null hx hb (fh_d d_Rd_freshLine 4 rfl) ?_
    exact fh_aret (r := none) X hP hS (fh_d d_Rd_freshLine 5 rfl) ⟨rfl, Or.inr ⟨by have := qk; omega, rfl, rfl⟩⟩
