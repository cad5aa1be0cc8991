/-! A call of an inherited method; Enum.ordinal, readParts, readNucleus. Printed by wip/whole/gen/p51.py -/
section FRU
variable {p : Program} {l : Launch} {e : Env} {R : Room} {s : State} {m : MethodId} {args : Array Value} {below : List Frame} {meth : Method} {c : Code} {H : Heap} {locs : List Loc} {cells slots : Nat} {Q : State → Prop}
variable {cc : ByteArray} {pc nL : Nat} {ls : Array Slot} {rest st0 : List Value} {D : va_G} {b n a : Nat} {h : fh_H} {tys : List (ClassId × FieldType)} {RO : State → Prop} {y : MethodName} {ret : Option FieldType}
variable {y' x' : MethodName} {cc' : ByteArray} {nL' r r' mc' ms' mc0 ms0 index : Nat} {ret' : Option FieldType} {post' : Option Value → fh_H → Nat → Prop}
theorem fh_callU {As : List Value} {Ck owner : String} (X : fh_X p l s m args meth c D tys b RO y cc nL ret) (hR : fh_R b RO) (hC : fh_C l D fh_cl tys b RO y' (Cond.code y' cc' nL' ret' :: fh_T) (fh_rm r' mc' ms') (.ref a :: As) h n post' mc' ms') (hcode : Cond.code y' cc' nL' ret' ∈ fh_T) (hlink : Cond.methodLink y.cls index x' ∈ fh_T) (hsame : Cond.sameMethod x'.cls owner x'.name x'.desc ∈ fh_T) (hyx : y' = ⟨owner, x'.name, x'.desc⟩) (hinst : Cond.instanceMethod y' ∈ fh_T) (hsel : Cond.selects Ck x' y' ∈ fh_T) (hini : Cond.initialized y'.cls ∈ fh_T)
    (hd : owner ≠ "java/lang/invoke/MethodHandle" ∧ owner ≠ "java/lang/invoke/VarHandle" ∧ (parseMethodDescriptor x'.desc).map (fun d => d.parameters.length) = some As.length) (hr : r' + 1 ≤ r) (hm : nL' ≤ 41) (hrecv : ∃ cell : Cell, H[a]? = some cell ∧ cell.vm.isStatics = false ∧ s.vm.findClass Ck = some cell.cls)
    (hP : fh_P D fh_cl b h n H) (hS : va_S (fh_A b) s.heap H locs) (hl : ls.size = nL) (hst : st0 = As.reverse ++ .ref a :: rest) (hw : (rest.map fun v => v.category).sum ≤ 8) (hdg : decode cc pc = .ok (.invokevirtual index, 3)) (hf : cells + mc' ≤ mc0 ∧ slots + ms' ≤ ms0)
    (kk : ∀ (v : Option Value) (h' : fh_H) (n' : Nat) (H1 : Heap) (locs1 : List Loc), post' v h' n' → fh_P D fh_cl b h' n' H1 → va_S (fh_A b) s.heap H1 locs1 → W p l e (fh_rm r mc0 ms0) s m args below meth c H1 locs1 (cells + mc') (slots + ms') Q (F0 m (pc + 3) ls (v.toList ++ rest))) : W p l e (fh_rm r mc0 ms0) s m args below meth c H locs cells slots Q (F0 m pc ls st0) := by
  subst hst
  obtain ⟨hx, hb, hml, hown, hT, hK, hRO, hbs, -⟩ := X
  have ht : ∀ w ∈ Cond.tt :: fh_T, w.before args s = true := fun w h => (List.mem_cons.mp h).elim (fun e => by rw [e]; rfl) (hT w)
  have hro := fh_room hr hm
  have cw : va_CU (fh_rm r mc0 ms0) s args y.cls Ck owner index x' y' cc' nL' ret' (Cond.code y' cc' nL' ret' :: fh_T) (fh_rm r' mc' ms') mc' ms' As.length :=
    ⟨⟨rfl, rfl, hro.1, hro.2, pay_in ht (fh_good hcode), List.mem_cons_self⟩, hT _ hcode, hT _ hini, ⟨hd.1, hd.2.1⟩, fun sig h9 => by have h2 := hd.2.2; rw [h9] at h2; exact (Option.some.inj h2).symm, hT _ hlink, hT _ hsame, hyx ▸ va_Decl.of (hT _ hinst) (hT _ hcode), hT _ hsel, hT _ hinst⟩
  exact fh_call (va_runU (Ts := fh_T) ⟨hx, hb, hml, hown, hT⟩ hC cw ⟨fh_blind hR, hrecv, fh_pre hR hK hRO hbs hP hS _⟩ rfl rfl hl rfl (lv_room hw) hdg hf) hS kk
end FRU
set_option maxHeartbeats 4000000 in
set_option maxRecDepth 100000 in
theorem m_En_ordinal (l : Launch) (D : va_G) (ct : Nat → ClassId) (b : Nat) (RO : State → Prop) (sA sV : Nat → Nat) (hSt : ∀ U, RO U → ro_S b sA sV U) (kA aA yA : Nat → Nat) (tK tS tM : Nat) (hEn : ∀ U, RO U → ro_E b sA kA aA yA tK tS tM U) (r n i : Nat) (hi : i < 11) (h : fh_H) : fh_C l D fh_cl (fh_tys ct) b RO y_En_ordinal (Cond.code y_En_ordinal c_En_ordinal 1 (Option.some FieldType.int) :: fh_T) (fh_rm r 0 0) [.ref (kA i)] h n (fun v h' n' => v = some (.int (nI i)) ∧ h' = h ∧ n' = n) 0 0 := by
  refine fh_enter (by decide) (Nat.le_of_ble_eq_true rfl) [(0, .ref (kA i))] rfl ?_
  intro p e s m args below meth c H ls X hP hS hl
  have hx := X.1
  have hb := X.2.1
  have hml := X.2.2.1
  have hown : s.vm.findClass "java/lang/Enum" = some m.cls := X.2.2.2.1
  have hT := X.2.2.2.2.1
  have hK := X.2.2.2.2.2.1
  have hRO := X.2.2.2.2.2.2.1
  have hnm : meth.name = "ordinal" := X.2.2.2.2.2.2.2.2.2.2
  refine lv_aload_n hx hb (fh_d d_En_ordinal 0 rfl) rfl (lv_at hl 0 rfl) ?_
  refine vk_getf (own := "java/lang/Enum") (ref := "java/lang/Enum") hx hb (((hEn _ hRO).1 i hi).2.2.1) hS hown (hT _ w1246) (fun _ h9 => h9) (fh_d d_En_ordinal 1 rfl) ?_
  exact fh_iret X hP hS (fh_d d_En_ordinal 2 rfl) ⟨rfl, rfl, rfl⟩

set_option maxHeartbeats 4000000 in
set_option maxRecDepth 100000 in
theorem m_Rd_readParts (l : Launch) (D : va_G) (ct : Nat → ClassId) (b : Nat) (RO : State → Prop) (hR : fh_R b RO) (sA sV : Nat → Nat) (hSt : ∀ U, RO U → ro_S b sA sV U) (kA aA yA : Nat → Nat) (tK tS tM : Nat) (hEn : ∀ U, RO U → ro_E b sA kA aA yA tK tS tM U) (hAd : ad_ok kA aA yA) (n x : Nat) (g : fh_H) (f : Nat → Int32) (L : Nat) (hL : L ≤ 160) (hg1 : g (x + 1) = some (.inl (ct 1, 160, .inl f))) (hf7 : ∀ j, f j = (nI (ixI (f j))) ∧ ixI (f j) < 128) (N1 L1 : RT → Option RT) (dp r0 : Nat) (hN1 : cN l D ct b RO kA aA n x g L (dp + 1) r0 N1) (hB0 : bN L N1) (hL1 : cL l D ct b RO kA aA n x g L (dp + 1) r0 L1) (hB1 : bL L L1) (r : Nat) (hr : r0 + 2 ≤ r) (hr6 : 6 ≤ r) (i : Nat) (hi : i < 60) (nc lc a : Nat) (C : Nat → Nat → Int32) (R : Nat → Nat → Option Nat) (CL : Nat → Nat → Int32) (RL : Nat → Nat → Option Nat) (hnc : nc ≤ 60) (hlc : lc ≤ 161) (hal : a ≤ L) (hok : okR C CL) (k : Nat) (hk : k < 11) (hR5 : R i 5 = some k) : fh_C l D fh_cl (fh_tys ct) b RO y_Rd_readParts (Cond.code y_Rd_readParts c_Rd_readParts 3 (Option.some FieldType.boolean) :: fh_T) (fh_rm r 0 0) [.ref (x + 2), .ref (x + 4 + i), .int (nI dp)] (mkR x kA aA g (nI nc) (nI lc) (.ref (x + 1)) (nI L) (nI a) C R CL RL) n (rdB x kA aA g L n (pParts f L N1 L1 k i (nc, lc, a, C, R, CL, RL))) 0 0 := by
  refine fh_enter (by decide) (Nat.le_of_ble_eq_true rfl) [(0, .ref (x + 2)), (1, .ref (x + 4 + i)), (2, .int (nI dp))] rfl ?_
  intro p e s m args below meth c H ls X hP hS hl
  have hx := X.1
  have hb := X.2.1
  have hml := X.2.2.1
  have hown : s.vm.findClass "FormulaSetter$Reader" = some m.cls := X.2.2.2.1
  have hT := X.2.2.2.2.1
  have hK := X.2.2.2.2.2.1
  have hRO := X.2.2.2.2.2.2.1
  have hnm : meth.name = "readParts" := X.2.2.2.2.2.2.2.2.2.2
  have hf : ∀ j, f j = (nI (ixI (f j))) ∧ ixI (f j) < 256 := fun j => ⟨(hf7 j).1, by have := (hf7 j).2; omega⟩
  rcases (by omega : k = 0 ∨ k = 1 ∨ k = 2 ∨ k = 3 ∨ k = 4 ∨ k = 5 ∨ k = 6 ∨ k = 7 ∨ k = 8 ∨ k = 9 ∨ k = 10) with rfl | rfl | rfl | rfl | rfl | rfl | rfl | rfl | rfl | rfl | rfl
  · refine va_gets (own := "FormulaSetter$Reader") (ref := "FormulaSetter$1") hx hb (hEn _ hRO).2.2.2.2.2.2.2.1 hS hown (hT _ w508) (fun _ h9 => h9) (fh_d d_Rd_readParts 0 rfl) ?_
    refine lv_aload_n hx hb (fh_d d_Rd_readParts 1 rfl) rfl (lv_at hl 1 rfl) ?_
    refine fh_get (own := "FormulaSetter$Reader") (ref := "FormulaSetter$Nucleus") (C := "FormulaSetter$Nucleus") (T := T_Nu) (N := 15) (v := .ref (kA 0)) hx hb hT i_Nu hown hK hP (mkR_nu (hi)) rfl 5 (by decide) (hT _ w53) (fun _ h9 => h9) (by show some (va_rf ((R i 5).map kA)) = _; rw [hR5]; rfl) (fh_d d_Rd_readParts 2 rfl) ?_
    refine fh_callU (cc' := c_En_ordinal) (nL' := 1) (rest := [.ref tM]) (a := kA 0) (As := []) (Ck := "FormulaSetter$Kind") (owner := "java/lang/Enum") (x' := ⟨"FormulaSetter$Kind", "ordinal", "()I"⟩) X hR (m_En_ordinal l D ct b RO sA sV hSt kA aA yA tK tS tM hEn (r - 1) n 0 (by decide) (mkR x kA aA g (nI nc) (nI lc) (.ref (x + 1)) (nI L) (nI a) C R CL RL)) w515 w510 w511 rfl w514 w513 w19 ⟨by decide, by decide, by show _ = some 0; decide +kernel⟩ (by omega) (by decide) (fs_recv ((hEn _ hRO).1 0 (by decide)).2.1 hS) hP hS hl.1 rfl (by exact Nat.le_of_ble_eq_true rfl) (fh_d d_Rd_readParts 3 rfl) ⟨Nat.le_refl _, Nat.le_refl _⟩ (fun v9 h9 n9 H locs hq hP hS => ?_)
    obtain ⟨rfl, uo1, uo2⟩ := hq
    rw [uo1, uo2] at hP
    refine va_ti (v := .int (swM 0)) hx hb (hEn _ hRO).2.2.2.2.2.2.2.2.1 hS (i := nI 0) (vp_in_nI (by decide) (by decide)) rfl (fh_d d_Rd_readParts 4 rfl) ?_
    refine lv_tableOut (tgt := 167) hx hb (fh_d d_Rd_readParts 5 rfl) (Or.inr (by decide)) rfl ?_
    refine lv_iconst (v := 1) hx hb (fh_d d_Rd_readParts 74 rfl) (by decide) ?_
    exact fh_zret X hP hS (fh_d d_Rd_readParts 75 rfl) (by decide) ⟨rfl, Or.inl ⟨_, _, _, _, _, _, _, rfl, rfl, rfl⟩⟩
  · refine va_gets (own := "FormulaSetter$Reader") (ref := "FormulaSetter$1") hx hb (hEn _ hRO).2.2.2.2.2.2.2.1 hS hown (hT _ w508) (fun _ h9 => h9) (fh_d d_Rd_readParts 0 rfl) ?_
    refine lv_aload_n hx hb (fh_d d_Rd_readParts 1 rfl) rfl (lv_at hl 1 rfl) ?_
    refine fh_get (own := "FormulaSetter$Reader") (ref := "FormulaSetter$Nucleus") (C := "FormulaSetter$Nucleus") (T := T_Nu) (N := 15) (v := .ref (kA 1)) hx hb hT i_Nu hown hK hP (mkR_nu (hi)) rfl 5 (by decide) (hT _ w53) (fun _ h9 => h9) (by show some (va_rf ((R i 5).map kA)) = _; rw [hR5]; rfl) (fh_d d_Rd_readParts 2 rfl) ?_
    refine fh_callU (cc' := c_En_ordinal) (nL' := 1) (rest := [.ref tM]) (a := kA 1) (As := []) (Ck := "FormulaSetter$Kind") (owner := "java/lang/Enum") (x' := ⟨"FormulaSetter$Kind", "ordinal", "()I"⟩) X hR (m_En_ordinal l D ct b RO sA sV hSt kA aA yA tK tS tM hEn (r - 1) n 1 (by decide) (mkR x kA aA g (nI nc) (nI lc) (.ref (x + 1)) (nI L) (nI a) C R CL RL)) w515 w510 w511 rfl w514 w513 w19 ⟨by decide, by decide, by show _ = some 0; decide +kernel⟩ (by omega) (by decide) (fs_recv ((hEn _ hRO).1 1 (by decide)).2.1 hS) hP hS hl.1 rfl (by exact Nat.le_of_ble_eq_true rfl) (fh_d d_Rd_readParts 3 rfl) ⟨Nat.le_refl _, Nat.le_refl _⟩ (fun v9 h9 n9 H locs hq hP hS => ?_)
    obtain ⟨rfl, uo1, uo2⟩ := hq
    rw [uo1, uo2] at hP
    refine va_ti (v := .int (swM 1)) hx hb (hEn _ hRO).2.2.2.2.2.2.2.2.1 hS (i := nI 1) (vp_in_nI (by decide) (by decide)) rfl (fh_d d_Rd_readParts 4 rfl) ?_
    refine lv_tableIn (tgt := 52) hx hb (fh_d d_Rd_readParts 5 rfl) (by decide) (by decide) rfl rfl ?_
    refine lv_aload_n hx hb (fh_d d_Rd_readParts 6 rfl) rfl (lv_at hl 1 rfl) ?_
    refine lv_aload_n hx hb (fh_d d_Rd_readParts 7 rfl) rfl (lv_at hl 0 rfl) ?_
    refine lv_iload_n hx hb (fh_d d_Rd_readParts 8 rfl) rfl (lv_at hl 2 rfl) ?_
    refine lv_iconst (v := 1) hx hb (fh_d d_Rd_readParts 9 rfl) (by decide) ?_
    refine lv_iadd hx hb (fh_d d_Rd_readParts 10 rfl) ?_
    rw [nI_1 dp]
    refine fh_callV (cc' := c_Rd_readLine) (nL' := 6) (rest := [.ref (x + 4 + i)]) (a := x + 2) (As := [.int (nI (dp + 1))]) X hR (hL1 (r - 1) (by omega) nc lc a C R CL RL (by omega) (by omega) (by omega) (by repeat' first | assumption | apply okR_7 | apply okR_8 | apply okR_nu | apply okR_li | apply okR_l6 | apply okR_l7 | omega)) w303 w300 w302 v0 w2 ⟨by decide, by decide, by show _ = some 1; decide +kernel⟩ (by omega) (by decide) (fh_recv hK hP mkR_rd rfl) hP hS hl.1 rfl (by exact Nat.le_of_ble_eq_true rfl) (fh_d d_Rd_readParts 11 rfl) ⟨Nat.le_refl _, Nat.le_refl _⟩ (fun v9 h9 n9 H locs hq hP hS => ?_)
    obtain ⟨ua1, ⟨nc_1, lc_1, a_1, C_1, R_1, CL_1, RL_1, e1, rfl, ub1⟩ | ⟨e1, rfl, nc_1, lc_1, a_1, C_1, R_1, CL_1, RL_1, ub1, uk1⟩⟩ := hq
    · rw [ua1, ub1] at hP
      have hB1 := hB1 _ _ _ _ _ _ _ _ _ _ _ _ _ _ (by omega) (by omega) (by omega) (by repeat' first | assumption | apply okR_7 | apply okR_8 | apply okR_nu | apply okR_li | apply okR_l6 | apply okR_l7 | omega) e1
      have uk1 := hB1.2.2.2.2.2.2
      refine fh_put (own := "FormulaSetter$Reader") (ref := "FormulaSetter$Nucleus") (C := "FormulaSetter$Nucleus") (T := T_Nu) (N := 15) (v := .ref (x + 65 + lc)) (ty := (.object "FormulaSetter$Line")) hx hb hT i_Nu t_Nu k_Nu n_Nu hown hK hP hS (mkR_nu (hi)) rfl 11 (by decide) (hT _ w71) (fun _ h9 => h9) rfl (by decide +kernel) rfl rfl (Nat.le_of_ble_eq_true rfl) (fh_d d_Rd_readParts 12 rfl) (fun H locs hP hS => ?_)
      replace hP := fh_P.eq (h' := mkR x kA aA g (nI nc_1) (nI lc_1) (.ref (x + 1)) (nI L) (nI a_1) C_1 (sT R_1 i 11 (some lc)) CL_1 RL_1) hP (mkR_nu11 (v := some lc) (hi))
      have f2 : (sT R_1 i 11 (some lc)) i 11 = some lc := sT_same
      refine lv_aload_n hx hb (fh_d d_Rd_readParts 13 rfl) rfl (lv_at hl 1 rfl) ?_
      refine fh_get (own := "FormulaSetter$Reader") (ref := "FormulaSetter$Nucleus") (C := "FormulaSetter$Nucleus") (T := T_Nu) (N := 15) (v := .ref (x + 65 + lc)) hx hb hT i_Nu hown hK hP (mkR_nu (hi)) rfl 11 (by decide) (hT _ w71) (fun _ h9 => h9) (by show some (va_rf (((sT R_1 i 11 (some lc)) i 11).map (fun z => x + 65 + z))) = _; rw [f2]; rfl) (fh_d d_Rd_readParts 14 rfl) ?_
      refine lv_ifnull hx hb (fh_d d_Rd_readParts 15 rfl) ?_
      refine lv_aload_n hx hb (fh_d d_Rd_readParts 16 rfl) rfl (lv_at hl 0 rfl) ?_
      refine lv_bipush (v := 125) hx hb (fh_d d_Rd_readParts 17 rfl) (by decide) ?_
      have hC := m_Rd_take l D ct b RO hR (r - 1) (by omega) n x kA aA g C_1 (sT R_1 i 11 (some lc)) CL_1 RL_1 (nI nc_1) (nI lc_1) f L a_1 hL (by omega) hg1 hf 125
      by_cases t4 : hre f L (sk f L a_1) = 125
      · simp only [if_pos t4] at hC
        refine fh_callV (cc' := c_Rd_take) (nL' := 2) (rest := []) (a := x + 2) (As := [.int 125]) X hR (hC) w519 w516 w518 v11 w2 ⟨by decide, by decide, by show _ = some 1; decide +kernel⟩ (by omega) (by decide) (fh_recv hK hP mkR_rd rfl) hP hS hl.1 rfl (by exact Nat.le_of_ble_eq_true rfl) (fh_d d_Rd_readParts 18 rfl) ⟨Nat.le_refl _, Nat.le_refl _⟩ (fun v9 h9 n9 H locs hq hP hS => ?_)
        obtain ⟨rfl, u5, u6⟩ := hq
        rw [u5, u6] at hP
        have t4l : sk f L a_1 < L := hre_lt (by rw [t4]; decide)
        refine lv_if_eq (tgt := 83) hx hb (fh_d d_Rd_readParts 19 rfl) rfl (fun c7 => absurd c7 (by decide)) (fun c7 => ?_)
        refine lv_iconst (v := 1) hx hb (fh_d d_Rd_readParts 20 rfl) (by decide) ?_
        refine lv_goto (tgt := 84) hx hb (fh_d d_Rd_readParts 21 rfl) rfl ?_
        exact fh_zret X hP hS (fh_d d_Rd_readParts 23 rfl) (by decide) ⟨rfl, Or.inl ⟨_, _, _, _, _, _, _, by simp only [pParts, e1, Option.bind_some, if_pos t4]; rfl, rfl, rfl⟩⟩
      · simp only [if_neg t4] at hC
        refine fh_callV (cc' := c_Rd_take) (nL' := 2) (rest := []) (a := x + 2) (As := [.int 125]) X hR (hC) w519 w516 w518 v11 w2 ⟨by decide, by decide, by show _ = some 1; decide +kernel⟩ (by omega) (by decide) (fh_recv hK hP mkR_rd rfl) hP hS hl.1 rfl (by exact Nat.le_of_ble_eq_true rfl) (fh_d d_Rd_readParts 18 rfl) ⟨Nat.le_refl _, Nat.le_refl _⟩ (fun v9 h9 n9 H locs hq hP hS => ?_)
        obtain ⟨rfl, u8, u9⟩ := hq
        rw [u8, u9] at hP
        have t4l : sk f L a_1 ≤ L := (sk_ge f L _ a_1 rfl).2 (by omega)
        refine lv_if_eq (tgt := 83) hx hb (fh_d d_Rd_readParts 19 rfl) rfl (fun c10 => ?_) (fun c10 => absurd c10 (Classical.not_not.mpr rfl))
        refine lv_iconst (v := 0) hx hb (fh_d d_Rd_readParts 22 rfl) (by decide) ?_
        exact fh_zret X hP hS (fh_d d_Rd_readParts 23 rfl) (by decide) ⟨rfl, Or.inr ⟨by simp only [pParts, e1, Option.bind_some, if_neg t4]; rfl, rfl, rdF_mk (by repeat' first | assumption | apply okR_7 | apply okR_8 | apply okR_nu | apply okR_li | apply okR_l6 | apply okR_l7 | omega)⟩⟩
    · rw [ua1, ub1] at hP
      refine W.eq (g2 := F0 m 60 ls [.null, .ref (x + 4 + i)]) rfl ?_
      refine fh_put (own := "FormulaSetter$Reader") (ref := "FormulaSetter$Nucleus") (C := "FormulaSetter$Nucleus") (T := T_Nu) (N := 15) (v := .null) (ty := (.object "FormulaSetter$Line")) hx hb hT i_Nu t_Nu k_Nu n_Nu hown hK hP hS (mkR_nu (hi)) rfl 11 (by decide) (hT _ w71) (fun _ h9 => h9) rfl (by decide +kernel) rfl rfl (Nat.le_of_ble_eq_true rfl) (fh_d d_Rd_readParts 12 rfl) (fun H locs hP hS => ?_)
      replace hP := fh_P.eq (h' := mkR x kA aA g nc_1 lc_1 (.ref (x + 1)) (nI L) a_1 C_1 (sT R_1 i 11 none) CL_1 RL_1) hP (mkR_nu11 (v := none) (hi))
      have f11 : (sT R_1 i 11 none) i 11 = none := sT_same
      refine lv_aload_n hx hb (fh_d d_Rd_readParts 13 rfl) rfl (lv_at hl 1 rfl) ?_
      refine fh_get (own := "FormulaSetter$Reader") (ref := "FormulaSetter$Nucleus") (C := "FormulaSetter$Nucleus") (T := T_Nu) (N := 15) (v := .null) hx hb hT i_Nu hown hK hP (mkR_nu (hi)) rfl 11 (by decide) (hT _ w71) (fun _ h9 => h9) (by show some (va_rf (((sT R_1 i 11 none) i 11).map (fun z => x + 65 + z))) = _; rw [f11]; rfl) (fh_d d_Rd_readParts 14 rfl) ?_
      refine lv_ifnullN (tgt := 83) hx hb (fh_d d_Rd_readParts 15 rfl) rfl ?_
      refine lv_iconst (v := 0) hx hb (fh_d d_Rd_readParts 22 rfl) (by decide) ?_
      exact fh_zret X hP hS (fh_d d_Rd_readParts 23 rfl) (by decide) ⟨rfl, Or.inr ⟨by simp only [pParts, e1, Option.bind_none]; rfl, rfl, rdF_mk (by repeat' first | assumption | apply okR_7 | apply okR_8 | apply okR_nu | apply okR_li | apply okR_l6 | apply okR_l7 | omega)⟩⟩
  · refine va_gets (own := "FormulaSetter$Reader") (ref := "FormulaSetter$1") hx hb (hEn _ hRO).2.2.2.2.2.2.2.1 hS hown (hT _ w508) (fun _ h9 => h9) (fh_d d_Rd_readParts 0 rfl) ?_
    refine lv_aload_n hx hb (fh_d d_Rd_readParts 1 rfl) rfl (lv_at hl 1 rfl) ?_
    refine fh_get (own := "FormulaSetter$Reader") (ref := "FormulaSetter$Nucleus") (C := "FormulaSetter$Nucleus") (T := T_Nu) (N := 15) (v := .ref (kA 2)) hx hb hT i_Nu hown hK hP (mkR_nu (hi)) rfl 5 (by decide) (hT _ w53) (fun _ h9 => h9) (by show some (va_rf ((R i 5).map kA)) = _; rw [hR5]; rfl) (fh_d d_Rd_readParts 2 rfl) ?_
    refine fh_callU (cc' := c_En_ordinal) (nL' := 1) (rest := [.ref tM]) (a := kA 2) (As := []) (Ck := "FormulaSetter$Kind") (owner := "java/lang/Enum") (x' := ⟨"FormulaSetter$Kind", "ordinal", "()I"⟩) X hR (m_En_ordinal l D ct b RO sA sV hSt kA aA yA tK tS tM hEn (r - 1) n 2 (by decide) (mkR x kA aA g (nI nc) (nI lc) (.ref (x + 1)) (nI L) (nI a) C R CL RL)) w515 w510 w511 rfl w514 w513 w19 ⟨by decide, by decide, by show _ = some 0; decide +kernel⟩ (by omega) (by decide) (fs_recv ((hEn _ hRO).1 2 (by decide)).2.1 hS) hP hS hl.1 rfl (by exact Nat.le_of_ble_eq_true rfl) (fh_d d_Rd_readParts 3 rfl) ⟨Nat.le_refl _, Nat.le_refl _⟩ (fun v9 h9 n9 H locs hq hP hS => ?_)
    obtain ⟨rfl, uo1, uo2⟩ := hq
    rw [uo1, uo2] at hP
    refine va_ti (v := .int (swM 2)) hx hb (hEn _ hRO).2.2.2.2.2.2.2.2.1 hS (i := nI 2) (vp_in_nI (by decide) (by decide)) rfl (fh_d d_Rd_readParts 4 rfl) ?_
    refine lv_tableOut (tgt := 167) hx hb (fh_d d_Rd_readParts 5 rfl) (Or.inr (by decide)) rfl ?_
    refine lv_iconst (v := 1) hx hb (fh_d d_Rd_readParts 74 rfl) (by decide) ?_
    exact fh_zret X hP hS (fh_d d_Rd_readParts 75 rfl) (by decide) ⟨rfl, Or.inl ⟨_, _, _, _, _, _, _, rfl, rfl, rfl⟩⟩
  · refine va_gets (own := "FormulaSetter$Reader") (ref := "FormulaSetter$1") hx hb (hEn _ hRO).2.2.2.2.2.2.2.1 hS hown (hT _ w508) (fun _ h9 => h9) (fh_d d_Rd_readParts 0 rfl) ?_
    refine lv_aload_n hx hb (fh_d d_Rd_readParts 1 rfl) rfl (lv_at hl 1 rfl) ?_
    refine fh_get (own := "FormulaSetter$Reader") (ref := "FormulaSetter$Nucleus") (C := "FormulaSetter$Nucleus") (T := T_Nu) (N := 15) (v := .ref (kA 3)) hx hb hT i_Nu hown hK hP (mkR_nu (hi)) rfl 5 (by decide) (hT _ w53) (fun _ h9 => h9) (by show some (va_rf ((R i 5).map kA)) = _; rw [hR5]; rfl) (fh_d d_Rd_readParts 2 rfl) ?_
    refine fh_callU (cc' := c_En_ordinal) (nL' := 1) (rest := [.ref tM]) (a := kA 3) (As := []) (Ck := "FormulaSetter$Kind") (owner := "java/lang/Enum") (x' := ⟨"FormulaSetter$Kind", "ordinal", "()I"⟩) X hR (m_En_ordinal l D ct b RO sA sV hSt kA aA yA tK tS tM hEn (r - 1) n 3 (by decide) (mkR x kA aA g (nI nc) (nI lc) (.ref (x + 1)) (nI L) (nI a) C R CL RL)) w515 w510 w511 rfl w514 w513 w19 ⟨by decide, by decide, by show _ = some 0; decide +kernel⟩ (by omega) (by decide) (fs_recv ((hEn _ hRO).1 3 (by decide)).2.1 hS) hP hS hl.1 rfl (by exact Nat.le_of_ble_eq_true rfl) (fh_d d_Rd_readParts 3 rfl) ⟨Nat.le_refl _, Nat.le_refl _⟩ (fun v9 h9 n9 H locs hq hP hS => ?_)
    obtain ⟨rfl, uo1, uo2⟩ := hq
    rw [uo1, uo2] at hP
    refine va_ti (v := .int (swM 3)) hx hb (hEn _ hRO).2.2.2.2.2.2.2.2.1 hS (i := nI 3) (vp_in_nI (by decide) (by decide)) rfl (fh_d d_Rd_readParts 4 rfl) ?_
    refine lv_tableOut (tgt := 167) hx hb (fh_d d_Rd_readParts 5 rfl) (Or.inr (by decide)) rfl ?_
    refine lv_iconst (v := 1) hx hb (fh_d d_Rd_readParts 74 rfl) (by decide) ?_
    exact fh_zret X hP hS (fh_d d_Rd_readParts 75 rfl) (by decide) ⟨rfl, Or.inl ⟨_, _, _, _, _, _, _, rfl, rfl, rfl⟩⟩
  · refine va_gets (own := "FormulaSetter$Reader") (ref := "FormulaSetter$1") hx hb (hEn _ hRO).2.2.2.2.2.2.2.1 hS hown (hT _ w508) (fun _ h9 => h9) (fh_d d_Rd_readParts 0 rfl) ?_
    refine lv_aload_n hx hb (fh_d d_Rd_readParts 1 rfl) rfl (lv_at hl 1 rfl) ?_
    refine fh_get (own := "FormulaSetter$Reader") (ref := "FormulaSetter$Nucleus") (C := "FormulaSetter$Nucleus") (T := T_Nu) (N := 15) (v := .ref (kA 4)) hx hb hT i_Nu hown hK hP (mkR_nu (hi)) rfl 5 (by decide) (hT _ w53) (fun _ h9 => h9) (by show some (va_rf ((R i 5).map kA)) = _; rw [hR5]; rfl) (fh_d d_Rd_readParts 2 rfl) ?_
    refine fh_callU (cc' := c_En_ordinal) (nL' := 1) (rest := [.ref tM]) (a := kA 4) (As := []) (Ck := "FormulaSetter$Kind") (owner := "java/lang/Enum") (x' := ⟨"FormulaSetter$Kind", "ordinal", "()I"⟩) X hR (m_En_ordinal l D ct b RO sA sV hSt kA aA yA tK tS tM hEn (r - 1) n 4 (by decide) (mkR x kA aA g (nI nc) (nI lc) (.ref (x + 1)) (nI L) (nI a) C R CL RL)) w515 w510 w511 rfl w514 w513 w19 ⟨by decide, by decide, by show _ = some 0; decide +kernel⟩ (by omega) (by decide) (fs_recv ((hEn _ hRO).1 4 (by decide)).2.1 hS) hP hS hl.1 rfl (by exact Nat.le_of_ble_eq_true rfl) (fh_d d_Rd_readParts 3 rfl) ⟨Nat.le_refl _, Nat.le_refl _⟩ (fun v9 h9 n9 H locs hq hP hS => ?_)
    obtain ⟨rfl, uo1, uo2⟩ := hq
    rw [uo1, uo2] at hP
    refine va_ti (v := .int (swM 4)) hx hb (hEn _ hRO).2.2.2.2.2.2.2.2.1 hS (i := nI 4) (vp_in_nI (by decide) (by decide)) rfl (fh_d d_Rd_readParts 4 rfl) ?_
    refine lv_tableOut (tgt := 167) hx hb (fh_d d_Rd_readParts 5 rfl) (Or.inr (by decide)) rfl ?_
    refine lv_iconst (v := 1) hx hb (fh_d d_Rd_readParts 74 rfl) (by decide) ?_
    exact fh_zret X hP hS (fh_d d_Rd_readParts 75 rfl) (by decide) ⟨rfl, Or.inl ⟨_, _, _, _, _, _, _, rfl, rfl, rfl⟩⟩
  · refine va_gets (own := "FormulaSetter$Reader") (ref := "FormulaSetter$1") hx hb (hEn _ hRO).2.2.2.2.2.2.2.1 hS hown (hT _ w508) (fun _ h9 => h9) (fh_d d_Rd_readParts 0 rfl) ?_
    refine lv_aload_n hx hb (fh_d d_Rd_readParts 1 rfl) rfl (lv_at hl 1 rfl) ?_
    refine fh_get (own := "FormulaSetter$Reader") (ref := "FormulaSetter$Nucleus") (C := "FormulaSetter$Nucleus") (T := T_Nu) (N := 15) (v := .ref (kA 5)) hx hb hT i_Nu hown hK hP (mkR_nu (hi)) rfl 5 (by decide) (hT _ w53) (fun _ h9 => h9) (by show some (va_rf ((R i 5).map kA)) = _; rw [hR5]; rfl) (fh_d d_Rd_readParts 2 rfl) ?_
    refine fh_callU (cc' := c_En_ordinal) (nL' := 1) (rest := [.ref tM]) (a := kA 5) (As := []) (Ck := "FormulaSetter$Kind") (owner := "java/lang/Enum") (x' := ⟨"FormulaSetter$Kind", "ordinal", "()I"⟩) X hR (m_En_ordinal l D ct b RO sA sV hSt kA aA yA tK tS tM hEn (r - 1) n 5 (by decide) (mkR x kA aA g (nI nc) (nI lc) (.ref (x + 1)) (nI L) (nI a) C R CL RL)) w515 w510 w511 rfl w514 w513 w19 ⟨by decide, by decide, by show _ = some 0; decide +kernel⟩ (by omega) (by decide) (fs_recv ((hEn _ hRO).1 5 (by decide)).2.1 hS) hP hS hl.1 rfl (by exact Nat.le_of_ble_eq_true rfl) (fh_d d_Rd_readParts 3 rfl) ⟨Nat.le_refl _, Nat.le_refl _⟩ (fun v9 h9 n9 H locs hq hP hS => ?_)
    obtain ⟨rfl, uo1, uo2⟩ := hq
    rw [uo1, uo2] at hP
    refine va_ti (v := .int (swM 5)) hx hb (hEn _ hRO).2.2.2.2.2.2.2.2.1 hS (i := nI 5) (vp_in_nI (by decide) (by decide)) rfl (fh_d d_Rd_readParts 4 rfl) ?_
    refine lv_tableIn (tgt := 85) hx hb (fh_d d_Rd_readParts 5 rfl) (by decide) (by decide) rfl rfl ?_
    refine lv_aload_n hx hb (fh_d d_Rd_readParts 24 rfl) rfl (lv_at hl 1 rfl) ?_
    refine lv_aload_n hx hb (fh_d d_Rd_readParts 25 rfl) rfl (lv_at hl 0 rfl) ?_
    refine lv_iload_n hx hb (fh_d d_Rd_readParts 26 rfl) rfl (lv_at hl 2 rfl) ?_
    refine lv_iconst (v := 1) hx hb (fh_d d_Rd_readParts 27 rfl) (by decide) ?_
    refine lv_iadd hx hb (fh_d d_Rd_readParts 28 rfl) ?_
    rw [nI_1 dp]
    refine fh_callV (cc' := c_Rd_readNucleus) (nL' := 3) (rest := [.ref (x + 4 + i)]) (a := x + 2) (As := [.int (nI (dp + 1))]) X hR (hN1 (r - 1) (by omega) nc lc a C R CL RL (by omega) (by omega) (by omega) (by repeat' first | assumption | apply okR_7 | apply okR_8 | apply okR_nu | apply okR_li | apply okR_l6 | apply okR_l7 | omega)) w383 w380 w382 v6 w2 ⟨by decide, by decide, by show _ = some 1; decide +kernel⟩ (by omega) (by decide) (fh_recv hK hP mkR_rd rfl) hP hS hl.1 rfl (by exact Nat.le_of_ble_eq_true rfl) (fh_d d_Rd_readParts 29 rfl) ⟨Nat.le_refl _, Nat.le_refl _⟩ (fun v9 h9 n9 H locs hq hP hS => ?_)
    obtain ⟨ua13, ⟨nc_13, lc_13, a_13, C_13, R_13, CL_13, RL_13, e13, rfl, ub13⟩ | ⟨e13, rfl, nc_13, lc_13, a_13, C_13, R_13, CL_13, RL_13, ub13, uk13⟩⟩ := hq
    · rw [ua13, ub13] at hP
      have hB13 := hB0 _ _ _ _ _ _ _ _ _ _ _ _ _ _ (by omega) (by omega) (by omega) (by repeat' first | assumption | apply okR_7 | apply okR_8 | apply okR_nu | apply okR_li | apply okR_l6 | apply okR_l7 | omega) e13
      have uk13 := hB13.2.2.2.2.2
      refine fh_put (own := "FormulaSetter$Reader") (ref := "FormulaSetter$Nucleus") (C := "FormulaSetter$Nucleus") (T := T_Nu) (N := 15) (v := .ref (x + 4 + nc)) (ty := (.object "FormulaSetter$Nucleus")) hx hb hT i_Nu t_Nu k_Nu n_Nu hown hK hP hS (mkR_nu (hi)) rfl 9 (by decide) (hT _ w65) (fun _ h9 => h9) rfl (by decide +kernel) rfl rfl (Nat.le_of_ble_eq_true rfl) (fh_d d_Rd_readParts 30 rfl) (fun H locs hP hS => ?_)
      replace hP := fh_P.eq (h' := mkR x kA aA g (nI nc_13) (nI lc_13) (.ref (x + 1)) (nI L) (nI a_13) C_13 (sT R_13 i 9 (some nc)) CL_13 RL_13) hP (mkR_nu9 (v := some nc) (hi))
      have f14 : (sT R_13 i 9 (some nc)) i 9 = some nc := sT_same
      refine lv_aload_n hx hb (fh_d d_Rd_readParts 31 rfl) rfl (lv_at hl 1 rfl) ?_
      refine fh_get (own := "FormulaSetter$Reader") (ref := "FormulaSetter$Nucleus") (C := "FormulaSetter$Nucleus") (T := T_Nu) (N := 15) (v := .ref (x + 4 + nc)) hx hb hT i_Nu hown hK hP (mkR_nu (hi)) rfl 9 (by decide) (hT _ w65) (fun _ h9 => h9) (by show some (va_rf (((sT R_13 i 9 (some nc)) i 9).map (fun z => x + 4 + z))) = _; rw [f14]; rfl) (fh_d d_Rd_readParts 32 rfl) ?_
      refine lv_ifnonnull (tgt := 105) hx hb (fh_d d_Rd_readParts 33 rfl) rfl ?_
      refine lv_aload_n hx hb (fh_d d_Rd_readParts 36 rfl) rfl (lv_at hl 1 rfl) ?_
      refine lv_aload_n hx hb (fh_d d_Rd_readParts 37 rfl) rfl (lv_at hl 0 rfl) ?_
      refine lv_iload_n hx hb (fh_d d_Rd_readParts 38 rfl) rfl (lv_at hl 2 rfl) ?_
      refine lv_iconst (v := 1) hx hb (fh_d d_Rd_readParts 39 rfl) (by decide) ?_
      refine lv_iadd hx hb (fh_d d_Rd_readParts 40 rfl) ?_
      rw [nI_1 dp]
      refine fh_callV (cc' := c_Rd_readNucleus) (nL' := 3) (rest := [.ref (x + 4 + i)]) (a := x + 2) (As := [.int (nI (dp + 1))]) X hR (hN1 (r - 1) (by omega) nc_13 lc_13 a_13 C_13 (sT R_13 i 9 (some nc)) CL_13 RL_13 (by omega) (by omega) (by omega) (by repeat' first | assumption | apply okR_7 | apply okR_8 | apply okR_nu | apply okR_li | apply okR_l6 | apply okR_l7 | omega)) w383 w380 w382 v6 w2 ⟨by decide, by decide, by show _ = some 1; decide +kernel⟩ (by omega) (by decide) (fh_recv hK hP mkR_rd rfl) hP hS hl.1 rfl (by exact Nat.le_of_ble_eq_true rfl) (fh_d d_Rd_readParts 41 rfl) ⟨Nat.le_refl _, Nat.le_refl _⟩ (fun v9 h9 n9 H locs hq hP hS => ?_)
      obtain ⟨ua16, ⟨nc_16, lc_16, a_16, C_16, R_16, CL_16, RL_16, e16, rfl, ub16⟩ | ⟨e16, rfl, nc_16, lc_16, a_16, C_16, R_16, CL_16, RL_16, ub16, uk16⟩⟩ := hq
      · rw [ua16, ub16] at hP
        have hB16 := hB0 _ _ _ _ _ _ _ _ _ _ _ _ _ _ (by omega) (by omega) (by omega) (by repeat' first | assumption | apply okR_7 | apply okR_8 | apply okR_nu | apply okR_li | apply okR_l6 | apply okR_l7 | omega) e16
        have uk16 := hB16.2.2.2.2.2
        refine fh_put (own := "FormulaSetter$Reader") (ref := "FormulaSetter$Nucleus") (C := "FormulaSetter$Nucleus") (T := T_Nu) (N := 15) (v := .ref (x + 4 + nc_13)) (ty := (.object "FormulaSetter$Nucleus")) hx hb hT i_Nu t_Nu k_Nu n_Nu hown hK hP hS (mkR_nu (hi)) rfl 10 (by decide) (hT _ w68) (fun _ h9 => h9) rfl (by decide +kernel) rfl rfl (Nat.le_of_ble_eq_true rfl) (fh_d d_Rd_readParts 42 rfl) (fun H locs hP hS => ?_)
        replace hP := fh_P.eq (h' := mkR x kA aA g (nI nc_16) (nI lc_16) (.ref (x + 1)) (nI L) (nI a_16) C_16 (sT R_16 i 10 (some nc_13)) CL_16 RL_16) hP (mkR_nu10 (v := some nc_13) (hi))
        have f17 : (sT R_16 i 10 (some nc_13)) i 10 = some nc_13 := sT_same
        refine lv_aload_n hx hb (fh_d d_Rd_readParts 43 rfl) rfl (lv_at hl 1 rfl) ?_
        refine fh_get (own := "FormulaSetter$Reader") (ref := "FormulaSetter$Nucleus") (C := "FormulaSetter$Nucleus") (T := T_Nu) (N := 15) (v := .ref (x + 4 + nc_13)) hx hb hT i_Nu hown hK hP (mkR_nu (hi)) rfl 10 (by decide) (hT _ w68) (fun _ h9 => h9) (by show some (va_rf (((sT R_16 i 10 (some nc_13)) i 10).map (fun z => x + 4 + z))) = _; rw [f17]; rfl) (fh_d d_Rd_readParts 44 rfl) ?_
        refine lv_ifnull hx hb (fh_d d_Rd_readParts 45 rfl) ?_
        refine lv_iconst (v := 1) hx hb (fh_d d_Rd_readParts 46 rfl) (by decide) ?_
        refine lv_goto (tgt := 128) hx hb (fh_d d_Rd_readParts 47 rfl) rfl ?_
        exact fh_zret X hP hS (fh_d d_Rd_readParts 49 rfl) (by decide) ⟨rfl, Or.inl ⟨_, _, _, _, _, _, _, by simp only [pParts, e13, Option.bind_some, e16]; rfl, rfl, rfl⟩⟩
      · rw [ua16, ub16] at hP
        refine W.eq (g2 := F0 m 113 ls [.null, .ref (x + 4 + i)]) rfl ?_
        refine fh_put (own := "FormulaSetter$Reader") (ref := "FormulaSetter$Nucleus") (C := "FormulaSetter$Nucleus") (T := T_Nu) (N := 15) (v := .null) (ty := (.object "FormulaSetter$Nucleus")) hx hb hT i_Nu t_Nu k_Nu n_Nu hown hK hP hS (mkR_nu (hi)) rfl 10 (by decide) (hT _ w68) (fun _ h9 => h9) rfl (by decide +kernel) rfl rfl (Nat.le_of_ble_eq_true rfl) (fh_d d_Rd_readParts 42 rfl) (fun H locs hP hS => ?_)
        replace hP := fh_P.eq (h' := mkR x kA aA g nc_16 lc_16 (.ref (x + 1)) (nI L) a_16 C_16 (sT R_16 i 10 none) CL_16 RL_16) hP (mkR_nu10 (v := none) (hi))
        have f19 : (sT R_16 i 10 none) i 10 = none := sT_same
        refine lv_aload_n hx hb (fh_d d_Rd_readParts 43 rfl) rfl (lv_at hl 1 rfl) ?_
        refine fh_get (own := "FormulaSetter$Reader") (ref := "FormulaSetter$Nucleus") (C := "FormulaSetter$Nucleus") (T := T_Nu) (N := 15) (v := .null) hx hb hT i_Nu hown hK hP (mkR_nu (hi)) rfl 10 (by decide) (hT _ w68) (fun _ h9 => h9) (by show some (va_rf (((sT R_16 i 10 none) i 10).map (fun z => x + 4 + z))) = _; rw [f19]; rfl) (fh_d d_Rd_readParts 44 rfl) ?_
        refine lv_ifnullN (tgt := 127) hx hb (fh_d d_Rd_readParts 45 rfl) rfl ?_
        refine lv_iconst (v := 0) hx hb (fh_d d_Rd_readParts 48 rfl) (by decide) ?_
        exact fh_zret X hP hS (fh_d d_Rd_readParts 49 rfl) (by decide) ⟨rfl, Or.inr ⟨by simp only [pParts, e13, Option.bind_some, e16, Option.bind_none]; rfl, rfl, rdF_mk (by repeat' first | assumption | apply okR_7 | apply okR_8 | apply okR_nu | apply okR_li | apply okR_l6 | apply okR_l7 | omega)⟩⟩
    · rw [ua13, ub13] at hP
      refine W.eq (g2 := F0 m 93 ls [.null, .ref (x + 4 + i)]) rfl ?_
      refine fh_put (own := "FormulaSetter$Reader") (ref := "FormulaSetter$Nucleus") (C := "FormulaSetter$Nucleus") (T := T_Nu) (N := 15) (v := .null) (ty := (.object "FormulaSetter$Nucleus")) hx hb hT i_Nu t_Nu k_Nu n_Nu hown hK hP hS (mkR_nu (hi)) rfl 9 (by decide) (hT _ w65) (fun _ h9 => h9) rfl (by decide +kernel) rfl rfl (Nat.le_of_ble_eq_true rfl) (fh_d d_Rd_readParts 30 rfl) (fun H locs hP hS => ?_)
      replace hP := fh_P.eq (h' := mkR x kA aA g nc_13 lc_13 (.ref (x + 1)) (nI L) a_13 C_13 (sT R_13 i 9 none) CL_13 RL_13) hP (mkR_nu9 (v := none) (hi))
      have f21 : (sT R_13 i 9 none) i 9 = none := sT_same
      refine lv_aload_n hx hb (fh_d d_Rd_readParts 31 rfl) rfl (lv_at hl 1 rfl) ?_
      refine fh_get (own := "FormulaSetter$Reader") (ref := "FormulaSetter$Nucleus") (C := "FormulaSetter$Nucleus") (T := T_Nu) (N := 15) (v := .null) hx hb hT i_Nu hown hK hP (mkR_nu (hi)) rfl 9 (by decide) (hT _ w65) (fun _ h9 => h9) (by show some (va_rf (((sT R_13 i 9 none) i 9).map (fun z => x + 4 + z))) = _; rw [f21]; rfl) (fh_d d_Rd_readParts 32 rfl) ?_
      refine lv_ifnonnullN hx hb (fh_d d_Rd_readParts 33 rfl) ?_
      refine lv_iconst (v := 0) hx hb (fh_d d_Rd_readParts 34 rfl) (by decide) ?_
      exact fh_zret X hP hS (fh_d d_Rd_readParts 35 rfl) (by decide) ⟨rfl, Or.inr ⟨by simp only [pParts, e13, Option.bind_none]; rfl, rfl, rdF_mk (by repeat' first | assumption | apply okR_7 | apply okR_8 | apply okR_nu | apply okR_li | apply okR_l6 | apply okR_l7 | omega)⟩⟩
  · refine va_gets (own := "FormulaSetter$Reader") (ref := "FormulaSetter$1") hx hb (hEn _ hRO).2.2.2.2.2.2.2.1 hS hown (hT _ w508) (fun _ h9 => h9) (fh_d d_Rd_readParts 0 rfl) ?_
    refine lv_aload_n hx hb (fh_d d_Rd_readParts 1 rfl) rfl (lv_at hl 1 rfl) ?_
    refine fh_get (own := "FormulaSetter$Reader") (ref := "FormulaSetter$Nucleus") (C := "FormulaSetter$Nucleus") (T := T_Nu) (N := 15) (v := .ref (kA 6)) hx hb hT i_Nu hown hK hP (mkR_nu (hi)) rfl 5 (by decide) (hT _ w53) (fun _ h9 => h9) (by show some (va_rf ((R i 5).map kA)) = _; rw [hR5]; rfl) (fh_d d_Rd_readParts 2 rfl) ?_
    refine fh_callU (cc' := c_En_ordinal) (nL' := 1) (rest := [.ref tM]) (a := kA 6) (As := []) (Ck := "FormulaSetter$Kind") (owner := "java/lang/Enum") (x' := ⟨"FormulaSetter$Kind", "ordinal", "()I"⟩) X hR (m_En_ordinal l D ct b RO sA sV hSt kA aA yA tK tS tM hEn (r - 1) n 6 (by decide) (mkR x kA aA g (nI nc) (nI lc) (.ref (x + 1)) (nI L) (nI a) C R CL RL)) w515 w510 w511 rfl w514 w513 w19 ⟨by decide, by decide, by show _ = some 0; decide +kernel⟩ (by omega) (by decide) (fs_recv ((hEn _ hRO).1 6 (by decide)).2.1 hS) hP hS hl.1 rfl (by exact Nat.le_of_ble_eq_true rfl) (fh_d d_Rd_readParts 3 rfl) ⟨Nat.le_refl _, Nat.le_refl _⟩ (fun v9 h9 n9 H locs hq hP hS => ?_)
    obtain ⟨rfl, uo1, uo2⟩ := hq
    rw [uo1, uo2] at hP
    refine va_ti (v := .int (swM 6)) hx hb (hEn _ hRO).2.2.2.2.2.2.2.2.1 hS (i := nI 6) (vp_in_nI (by decide) (by decide)) rfl (fh_d d_Rd_readParts 4 rfl) ?_
    refine lv_tableIn (tgt := 129) hx hb (fh_d d_Rd_readParts 5 rfl) (by decide) (by decide) rfl rfl ?_
    refine lv_aload_n hx hb (fh_d d_Rd_readParts 50 rfl) rfl (lv_at hl 1 rfl) ?_
    refine lv_aload_n hx hb (fh_d d_Rd_readParts 51 rfl) rfl (lv_at hl 0 rfl) ?_
    refine lv_iload_n hx hb (fh_d d_Rd_readParts 52 rfl) rfl (lv_at hl 2 rfl) ?_
    refine lv_iconst (v := 1) hx hb (fh_d d_Rd_readParts 53 rfl) (by decide) ?_
    refine lv_iadd hx hb (fh_d d_Rd_readParts 54 rfl) ?_
    rw [nI_1 dp]
    refine fh_callV (cc' := c_Rd_readNucleus) (nL' := 3) (rest := [.ref (x + 4 + i)]) (a := x + 2) (As := [.int (nI (dp + 1))]) X hR (hN1 (r - 1) (by omega) nc lc a C R CL RL (by omega) (by omega) (by omega) (by repeat' first | assumption | apply okR_7 | apply okR_8 | apply okR_nu | apply okR_li | apply okR_l6 | apply okR_l7 | omega)) w383 w380 w382 v6 w2 ⟨by decide, by decide, by show _ = some 1; decide +kernel⟩ (by omega) (by decide) (fh_recv hK hP mkR_rd rfl) hP hS hl.1 rfl (by exact Nat.le_of_ble_eq_true rfl) (fh_d d_Rd_readParts 55 rfl) ⟨Nat.le_refl _, Nat.le_refl _⟩ (fun v9 h9 n9 H locs hq hP hS => ?_)
    obtain ⟨ua23, ⟨nc_23, lc_23, a_23, C_23, R_23, CL_23, RL_23, e23, rfl, ub23⟩ | ⟨e23, rfl, nc_23, lc_23, a_23, C_23, R_23, CL_23, RL_23, ub23, uk23⟩⟩ := hq
    · rw [ua23, ub23] at hP
      have hB23 := hB0 _ _ _ _ _ _ _ _ _ _ _ _ _ _ (by omega) (by omega) (by omega) (by repeat' first | assumption | apply okR_7 | apply okR_8 | apply okR_nu | apply okR_li | apply okR_l6 | apply okR_l7 | omega) e23
      have uk23 := hB23.2.2.2.2.2
      refine fh_put (own := "FormulaSetter$Reader") (ref := "FormulaSetter$Nucleus") (C := "FormulaSetter$Nucleus") (T := T_Nu) (N := 15) (v := .ref (x + 4 + nc)) (ty := (.object "FormulaSetter$Nucleus")) hx hb hT i_Nu t_Nu k_Nu n_Nu hown hK hP hS (mkR_nu (hi)) rfl 9 (by decide) (hT _ w65) (fun _ h9 => h9) rfl (by decide +kernel) rfl rfl (Nat.le_of_ble_eq_true rfl) (fh_d d_Rd_readParts 56 rfl) (fun H locs hP hS => ?_)
      replace hP := fh_P.eq (h' := mkR x kA aA g (nI nc_23) (nI lc_23) (.ref (x + 1)) (nI L) (nI a_23) C_23 (sT R_23 i 9 (some nc)) CL_23 RL_23) hP (mkR_nu9 (v := some nc) (hi))
      have f24 : (sT R_23 i 9 (some nc)) i 9 = some nc := sT_same
      refine lv_aload_n hx hb (fh_d d_Rd_readParts 57 rfl) rfl (lv_at hl 1 rfl) ?_
      refine fh_get (own := "FormulaSetter$Reader") (ref := "FormulaSetter$Nucleus") (C := "FormulaSetter$Nucleus") (T := T_Nu) (N := 15) (v := .ref (x + 4 + nc)) hx hb hT i_Nu hown hK hP (mkR_nu (hi)) rfl 9 (by decide) (hT _ w65) (fun _ h9 => h9) (by show some (va_rf (((sT R_23 i 9 (some nc)) i 9).map (fun z => x + 4 + z))) = _; rw [f24]; rfl) (fh_d d_Rd_readParts 58 rfl) ?_
      refine lv_ifnull hx hb (fh_d d_Rd_readParts 59 rfl) ?_
      refine lv_iconst (v := 1) hx hb (fh_d d_Rd_readParts 60 rfl) (by decide) ?_
      refine lv_goto (tgt := 152) hx hb (fh_d d_Rd_readParts 61 rfl) rfl ?_
      exact fh_zret X hP hS (fh_d d_Rd_readParts 63 rfl) (by decide) ⟨rfl, Or.inl ⟨_, _, _, _, _, _, _, by simp only [pParts, e23, Option.bind_some]; rfl, rfl, rfl⟩⟩
    · rw [ua23, ub23] at hP
      refine W.eq (g2 := F0 m 137 ls [.null, .ref (x + 4 + i)]) rfl ?_
      refine fh_put (own := "FormulaSetter$Reader") (ref := "FormulaSetter$Nucleus") (C := "FormulaSetter$Nucleus") (T := T_Nu) (N := 15) (v := .null) (ty := (.object "FormulaSetter$Nucleus")) hx hb hT i_Nu t_Nu k_Nu n_Nu hown hK hP hS (mkR_nu (hi)) rfl 9 (by decide) (hT _ w65) (fun _ h9 => h9) rfl (by decide +kernel) rfl rfl (Nat.le_of_ble_eq_true rfl) (fh_d d_Rd_readParts 56 rfl) (fun H locs hP hS => ?_)
      replace hP := fh_P.eq (h' := mkR x kA aA g nc_23 lc_23 (.ref (x + 1)) (nI L) a_23 C_23 (sT R_23 i 9 none) CL_23 RL_23) hP (mkR_nu9 (v := none) (hi))
      have f26 : (sT R_23 i 9 none) i 9 = none := sT_same
      refine lv_aload_n hx hb (fh_d d_Rd_readParts 57 rfl) rfl (lv_at hl 1 rfl) ?_
      refine fh_get (own := "FormulaSetter$Reader") (ref := "FormulaSetter$Nucleus") (C := "FormulaSetter$Nucleus") (T := T_Nu) (N := 15) (v := .null) hx hb hT i_Nu hown hK hP (mkR_nu (hi)) rfl 9 (by decide) (hT _ w65) (fun _ h9 => h9) (by show some (va_rf (((sT R_23 i 9 none) i 9).map (fun z => x + 4 + z))) = _; rw [f26]; rfl) (fh_d d_Rd_readParts 58 rfl) ?_
      refine lv_ifnullN (tgt := 151) hx hb (fh_d d_Rd_readParts 59 rfl) rfl ?_
      refine lv_iconst (v := 0) hx hb (fh_d d_Rd_readParts 62 rfl) (by decide) ?_
      exact fh_zret X hP hS (fh_d d_Rd_readParts 63 rfl) (by decide) ⟨rfl, Or.inr ⟨by simp only [pParts, e23, Option.bind_none]; rfl, rfl, rdF_mk (by repeat' first | assumption | apply okR_7 | apply okR_8 | apply okR_nu | apply okR_li | apply okR_l6 | apply okR_l7 | omega)⟩⟩
  · refine va_gets (own := "FormulaSetter$Reader") (ref := "FormulaSetter$1") hx hb (hEn _ hRO).2.2.2.2.2.2.2.1 hS hown (hT _ w508) (fun _ h9 => h9) (fh_d d_Rd_readParts 0 rfl) ?_
    refine lv_aload_n hx hb (fh_d d_Rd_readParts 1 rfl) rfl (lv_at hl 1 rfl) ?_
    refine fh_get (own := "FormulaSetter$Reader") (ref := "FormulaSetter$Nucleus") (C := "FormulaSetter$Nucleus") (T := T_Nu) (N := 15) (v := .ref (kA 7)) hx hb hT i_Nu hown hK hP (mkR_nu (hi)) rfl 5 (by decide) (hT _ w53) (fun _ h9 => h9) (by show some (va_rf ((R i 5).map kA)) = _; rw [hR5]; rfl) (fh_d d_Rd_readParts 2 rfl) ?_
    refine fh_callU (cc' := c_En_ordinal) (nL' := 1) (rest := [.ref tM]) (a := kA 7) (As := []) (Ck := "FormulaSetter$Kind") (owner := "java/lang/Enum") (x' := ⟨"FormulaSetter$Kind", "ordinal", "()I"⟩) X hR (m_En_ordinal l D ct b RO sA sV hSt kA aA yA tK tS tM hEn (r - 1) n 7 (by decide) (mkR x kA aA g (nI nc) (nI lc) (.ref (x + 1)) (nI L) (nI a) C R CL RL)) w515 w510 w511 rfl w514 w513 w19 ⟨by decide, by decide, by show _ = some 0; decide +kernel⟩ (by omega) (by decide) (fs_recv ((hEn _ hRO).1 7 (by decide)).2.1 hS) hP hS hl.1 rfl (by exact Nat.le_of_ble_eq_true rfl) (fh_d d_Rd_readParts 3 rfl) ⟨Nat.le_refl _, Nat.le_refl _⟩ (fun v9 h9 n9 H locs hq hP hS => ?_)
    obtain ⟨rfl, uo1, uo2⟩ := hq
    rw [uo1, uo2] at hP
    refine va_ti (v := .int (swM 7)) hx hb (hEn _ hRO).2.2.2.2.2.2.2.2.1 hS (i := nI 7) (vp_in_nI (by decide) (by decide)) rfl (fh_d d_Rd_readParts 4 rfl) ?_
    refine lv_tableIn (tgt := 129) hx hb (fh_d d_Rd_readParts 5 rfl) (by decide) (by decide) rfl rfl ?_
    refine lv_aload_n hx hb (fh_d d_Rd_readParts 50 rfl) rfl (lv_at hl 1 rfl) ?_
    refine lv_aload_n hx hb (fh_d d_Rd_readParts 51 rfl) rfl (lv_at hl 0 rfl) ?_
    refine lv_iload_n hx hb (fh_d d_Rd_readParts 52 rfl) rfl (lv_at hl 2 rfl) ?_
    refine lv_iconst (v := 1) hx hb (fh_d d_Rd_readParts 53 rfl) (by decide) ?_
    refine lv_iadd hx hb (fh_d d_Rd_readParts 54 rfl) ?_
    rw [nI_1 dp]
    refine fh_callV (cc' := c_Rd_readNucleus) (nL' := 3) (rest := [.ref (x + 4 + i)]) (a := x + 2) (As := [.int (nI (dp + 1))]) X hR (hN1 (r - 1) (by omega) nc lc a C R CL RL (by omega) (by omega) (by omega) (by repeat' first | assumption | apply okR_7 | apply okR_8 | apply okR_nu | apply okR_li | apply okR_l6 | apply okR_l7 | omega)) w383 w380 w382 v6 w2 ⟨by decide, by decide, by show _ = some 1; decide +kernel⟩ (by omega) (by decide) (fh_recv hK hP mkR_rd rfl) hP hS hl.1 rfl (by exact Nat.le_of_ble_eq_true rfl) (fh_d d_Rd_readParts 55 rfl) ⟨Nat.le_refl _, Nat.le_refl _⟩ (fun v9 h9 n9 H locs hq hP hS => ?_)
    obtain ⟨ua28, ⟨nc_28, lc_28, a_28, C_28, R_28, CL_28, RL_28, e28, rfl, ub28⟩ | ⟨e28, rfl, nc_28, lc_28, a_28, C_28, R_28, CL_28, RL_28, ub28, uk28⟩⟩ := hq
    · rw [ua28, ub28] at hP
      have hB28 := hB0 _ _ _ _ _ _ _ _ _ _ _ _ _ _ (by omega) (by omega) (by omega) (by repeat' first | assumption | apply okR_7 | apply okR_8 | apply okR_nu | apply okR_li | apply okR_l6 | apply okR_l7 | omega) e28
      have uk28 := hB28.2.2.2.2.2
      refine fh_put (own := "FormulaSetter$Reader") (ref := "FormulaSetter$Nucleus") (C := "FormulaSetter$Nucleus") (T := T_Nu) (N := 15) (v := .ref (x + 4 + nc)) (ty := (.object "FormulaSetter$Nucleus")) hx hb hT i_Nu t_Nu k_Nu n_Nu hown hK hP hS (mkR_nu (hi)) rfl 9 (by decide) (hT _ w65) (fun _ h9 => h9) rfl (by decide +kernel) rfl rfl (Nat.le_of_ble_eq_true rfl) (fh_d d_Rd_readParts 56 rfl) (fun H locs hP hS => ?_)
      replace hP := fh_P.eq (h' := mkR x kA aA g (nI nc_28) (nI lc_28) (.ref (x + 1)) (nI L) (nI a_28) C_28 (sT R_28 i 9 (some nc)) CL_28 RL_28) hP (mkR_nu9 (v := some nc) (hi))
      have f29 : (sT R_28 i 9 (some nc)) i 9 = some nc := sT_same
      refine lv_aload_n hx hb (fh_d d_Rd_readParts 57 rfl) rfl (lv_at hl 1 rfl) ?_
      refine fh_get (own := "FormulaSetter$Reader") (ref := "FormulaSetter$Nucleus") (C := "FormulaSetter$Nucleus") (T := T_Nu) (N := 15) (v := .ref (x + 4 + nc)) hx hb hT i_Nu hown hK hP (mkR_nu (hi)) rfl 9 (by decide) (hT _ w65) (fun _ h9 => h9) (by show some (va_rf (((sT R_28 i 9 (some nc)) i 9).map (fun z => x + 4 + z))) = _; rw [f29]; rfl) (fh_d d_Rd_readParts 58 rfl) ?_
      refine lv_ifnull hx hb (fh_d d_Rd_readParts 59 rfl) ?_
      refine lv_iconst (v := 1) hx hb (fh_d d_Rd_readParts 60 rfl) (by decide) ?_
      refine lv_goto (tgt := 152) hx hb (fh_d d_Rd_readParts 61 rfl) rfl ?_
      exact fh_zret X hP hS (fh_d d_Rd_readParts 63 rfl) (by decide) ⟨rfl, Or.inl ⟨_, _, _, _, _, _, _, by simp only [pParts, e28, Option.bind_some]; rfl, rfl, rfl⟩⟩
    · rw [ua28, ub28] at hP
      refine W.eq (g2 := F0 m 137 ls [.null, .ref (x + 4 + i)]) rfl ?_
      refine fh_put (own := "FormulaSetter$Reader") (ref := "FormulaSetter$Nucleus") (C := "FormulaSetter$Nucleus") (T := T_Nu) (N := 15) (v := .null) (ty := (.object "FormulaSetter$Nucleus")) hx hb hT i_Nu t_Nu k_Nu n_Nu hown hK hP hS (mkR_nu (hi)) rfl 9 (by decide) (hT _ w65) (fun _ h9 => h9) rfl (by decide +kernel) rfl rfl (Nat.le_of_ble_eq_true rfl) (fh_d d_Rd_readParts 56 rfl) (fun H locs hP hS => ?_)
      replace hP := fh_P.eq (h' := mkR x kA aA g nc_28 lc_28 (.ref (x + 1)) (nI L) a_28 C_28 (sT R_28 i 9 none) CL_28 RL_28) hP (mkR_nu9 (v := none) (hi))
      have f31 : (sT R_28 i 9 none) i 9 = none := sT_same
      refine lv_aload_n hx hb (fh_d d_Rd_readParts 57 rfl) rfl (lv_at hl 1 rfl) ?_
      refine fh_get (own := "FormulaSetter$Reader") (ref := "FormulaSetter$Nucleus") (C := "FormulaSetter$Nucleus") (T := T_Nu) (N := 15) (v := .null) hx hb hT i_Nu hown hK hP (mkR_nu (hi)) rfl 9 (by decide) (hT _ w65) (fun _ h9 => h9) (by show some (va_rf (((sT R_28 i 9 none) i 9).map (fun z => x + 4 + z))) = _; rw [f31]; rfl) (fh_d d_Rd_readParts 58 rfl) ?_
      refine lv_ifnullN (tgt := 151) hx hb (fh_d d_Rd_readParts 59 rfl) rfl ?_
      refine lv_iconst (v := 0) hx hb (fh_d d_Rd_readParts 62 rfl) (by decide) ?_
      exact fh_zret X hP hS (fh_d d_Rd_readParts 63 rfl) (by decide) ⟨rfl, Or.inr ⟨by simp only [pParts, e28, Option.bind_none]; rfl, rfl, rdF_mk (by repeat' first | assumption | apply okR_7 | apply okR_8 | apply okR_nu | apply okR_li | apply okR_l6 | apply okR_l7 | omega)⟩⟩
  · refine va_gets (own := "FormulaSetter$Reader") (ref := "FormulaSetter$1") hx hb (hEn _ hRO).2.2.2.2.2.2.2.1 hS hown (hT _ w508) (fun _ h9 => h9) (fh_d d_Rd_readParts 0 rfl) ?_
    refine lv_aload_n hx hb (fh_d d_Rd_readParts 1 rfl) rfl (lv_at hl 1 rfl) ?_
    refine fh_get (own := "FormulaSetter$Reader") (ref := "FormulaSetter$Nucleus") (C := "FormulaSetter$Nucleus") (T := T_Nu) (N := 15) (v := .ref (kA 8)) hx hb hT i_Nu hown hK hP (mkR_nu (hi)) rfl 5 (by decide) (hT _ w53) (fun _ h9 => h9) (by show some (va_rf ((R i 5).map kA)) = _; rw [hR5]; rfl) (fh_d d_Rd_readParts 2 rfl) ?_
    refine fh_callU (cc' := c_En_ordinal) (nL' := 1) (rest := [.ref tM]) (a := kA 8) (As := []) (Ck := "FormulaSetter$Kind") (owner := "java/lang/Enum") (x' := ⟨"FormulaSetter$Kind", "ordinal", "()I"⟩) X hR (m_En_ordinal l D ct b RO sA sV hSt kA aA yA tK tS tM hEn (r - 1) n 8 (by decide) (mkR x kA aA g (nI nc) (nI lc) (.ref (x + 1)) (nI L) (nI a) C R CL RL)) w515 w510 w511 rfl w514 w513 w19 ⟨by decide, by decide, by show _ = some 0; decide +kernel⟩ (by omega) (by decide) (fs_recv ((hEn _ hRO).1 8 (by decide)).2.1 hS) hP hS hl.1 rfl (by exact Nat.le_of_ble_eq_true rfl) (fh_d d_Rd_readParts 3 rfl) ⟨Nat.le_refl _, Nat.le_refl _⟩ (fun v9 h9 n9 H locs hq hP hS => ?_)
    obtain ⟨rfl, uo1, uo2⟩ := hq
    rw [uo1, uo2] at hP
    refine va_ti (v := .int (swM 8)) hx hb (hEn _ hRO).2.2.2.2.2.2.2.2.1 hS (i := nI 8) (vp_in_nI (by decide) (by decide)) rfl (fh_d d_Rd_readParts 4 rfl) ?_
    refine lv_tableIn (tgt := 129) hx hb (fh_d d_Rd_readParts 5 rfl) (by decide) (by decide) rfl rfl ?_
    refine lv_aload_n hx hb (fh_d d_Rd_readParts 50 rfl) rfl (lv_at hl 1 rfl) ?_
    refine lv_aload_n hx hb (fh_d d_Rd_readParts 51 rfl) rfl (lv_at hl 0 rfl) ?_
    refine lv_iload_n hx hb (fh_d d_Rd_readParts 52 rfl) rfl (lv_at hl 2 rfl) ?_
    refine lv_iconst (v := 1) hx hb (fh_d d_Rd_readParts 53 rfl) (by decide) ?_
    refine lv_iadd hx hb (fh_d d_Rd_readParts 54 rfl) ?_
    rw [nI_1 dp]
    refine fh_callV (cc' := c_Rd_readNucleus) (nL' := 3) (rest := [.ref (x + 4 + i)]) (a := x + 2) (As := [.int (nI (dp + 1))]) X hR (hN1 (r - 1) (by omega) nc lc a C R CL RL (by omega) (by omega) (by omega) (by repeat' first | assumption | apply okR_7 | apply okR_8 | apply okR_nu | apply okR_li | apply okR_l6 | apply okR_l7 | omega)) w383 w380 w382 v6 w2 ⟨by decide, by decide, by show _ = some 1; decide +kernel⟩ (by omega) (by decide) (fh_recv hK hP mkR_rd rfl) hP hS hl.1 rfl (by exact Nat.le_of_ble_eq_true rfl) (fh_d d_Rd_readParts 55 rfl) ⟨Nat.le_refl _, Nat.le_refl _⟩ (fun v9 h9 n9 H locs hq hP hS => ?_)
    obtain ⟨ua33, ⟨nc_33, lc_33, a_33, C_33, R_33, CL_33, RL_33, e33, rfl, ub33⟩ | ⟨e33, rfl, nc_33, lc_33, a_33, C_33, R_33, CL_33, RL_33, ub33, uk33⟩⟩ := hq
    · rw [ua33, ub33] at hP
      have hB33 := hB0 _ _ _ _ _ _ _ _ _ _ _ _ _ _ (by omega) (by omega) (by omega) (by repeat' first | assumption | apply okR_7 | apply okR_8 | apply okR_nu | apply okR_li | apply okR_l6 | apply okR_l7 | omega) e33
      have uk33 := hB33.2.2.2.2.2
      refine fh_put (own := "FormulaSetter$Reader") (ref := "FormulaSetter$Nucleus") (C := "FormulaSetter$Nucleus") (T := T_Nu) (N := 15) (v := .ref (x + 4 + nc)) (ty := (.object "FormulaSetter$Nucleus")) hx hb hT i_Nu t_Nu k_Nu n_Nu hown hK hP hS (mkR_nu (hi)) rfl 9 (by decide) (hT _ w65) (fun _ h9 => h9) rfl (by decide +kernel) rfl rfl (Nat.le_of_ble_eq_true rfl) (fh_d d_Rd_readParts 56 rfl) (fun H locs hP hS => ?_)
      replace hP := fh_P.eq (h' := mkR x kA aA g (nI nc_33) (nI lc_33) (.ref (x + 1)) (nI L) (nI a_33) C_33 (sT R_33 i 9 (some nc)) CL_33 RL_33) hP (mkR_nu9 (v := some nc) (hi))
      have f34 : (sT R_33 i 9 (some nc)) i 9 = some nc := sT_same
      refine lv_aload_n hx hb (fh_d d_Rd_readParts 57 rfl) rfl (lv_at hl 1 rfl) ?_
      refine fh_get (own := "FormulaSetter$Reader") (ref := "FormulaSetter$Nucleus") (C := "FormulaSetter$Nucleus") (T := T_Nu) (N := 15) (v := .ref (x + 4 + nc)) hx hb hT i_Nu hown hK hP (mkR_nu (hi)) rfl 9 (by decide) (hT _ w65) (fun _ h9 => h9) (by show some (va_rf (((sT R_33 i 9 (some nc)) i 9).map (fun z => x + 4 + z))) = _; rw [f34]; rfl) (fh_d d_Rd_readParts 58 rfl) ?_
      refine lv_ifnull hx hb (fh_d d_Rd_readParts 59 rfl) ?_
      refine lv_iconst (v := 1) hx hb (fh_d d_Rd_readParts 60 rfl) (by decide) ?_
      refine lv_goto (tgt := 152) hx hb (fh_d d_Rd_readParts 61 rfl) rfl ?_
      exact fh_zret X hP hS (fh_d d_Rd_readParts 63 rfl) (by decide) ⟨rfl, Or.inl ⟨_, _, _, _, _, _, _, by simp only [pParts, e33, Option.bind_some]; rfl, rfl, rfl⟩⟩
    · rw [ua33, ub33] at hP
      refine W.eq (g2 := F0 m 137 ls [.null, .ref (x + 4 + i)]) rfl ?_
      refine fh_put (own := "FormulaSetter$Reader") (ref := "FormulaSetter$Nucleus") (C := "FormulaSetter$Nucleus") (T := T_Nu) (N := 15) (v := .null) (ty := (.object "FormulaSetter$Nucleus")) hx hb hT i_Nu t_Nu k_Nu n_Nu hown hK hP hS (mkR_nu (hi)) rfl 9 (by decide) (hT _ w65) (fun _ h9 => h9) rfl (by decide +kernel) rfl rfl (Nat.le_of_ble_eq_true rfl) (fh_d d_Rd_readParts 56 rfl) (fun H locs hP hS => ?_)
      replace hP := fh_P.eq (h' := mkR x kA aA g nc_33 lc_33 (.ref (x + 1)) (nI L) a_33 C_33 (sT R_33 i 9 none) CL_33 RL_33) hP (mkR_nu9 (v := none) (hi))
      have f36 : (sT R_33 i 9 none) i 9 = none := sT_same
      refine lv_aload_n hx hb (fh_d d_Rd_readParts 57 rfl) rfl (lv_at hl 1 rfl) ?_
      refine fh_get (own := "FormulaSetter$Reader") (ref := "FormulaSetter$Nucleus") (C := "FormulaSetter$Nucleus") (T := T_Nu) (N := 15) (v := .null) hx hb hT i_Nu hown hK hP (mkR_nu (hi)) rfl 9 (by decide) (hT _ w65) (fun _ h9 => h9) (by show some (va_rf (((sT R_33 i 9 none) i 9).map (fun z => x + 4 + z))) = _; rw [f36]; rfl) (fh_d d_Rd_readParts 58 rfl) ?_
      refine lv_ifnullN (tgt := 151) hx hb (fh_d d_Rd_readParts 59 rfl) rfl ?_
      refine lv_iconst (v := 0) hx hb (fh_d d_Rd_readParts 62 rfl) (by decide) ?_
      exact fh_zret X hP hS (fh_d d_Rd_readParts 63 rfl) (by decide) ⟨rfl, Or.inr ⟨by simp only [pParts, e33, Option.bind_none]; rfl, rfl, rdF_mk (by repeat' first | assumption | apply okR_7 | apply okR_8 | apply okR_nu | apply okR_li | apply okR_l6 | apply okR_l7 | omega)⟩⟩
  · refine va_gets (own := "FormulaSetter$Reader") (ref := "FormulaSetter$1") hx hb (hEn _ hRO).2.2.2.2.2.2.2.1 hS hown (hT _ w508) (fun _ h9 => h9) (fh_d d_Rd_readParts 0 rfl) ?_
    refine lv_aload_n hx hb (fh_d d_Rd_readParts 1 rfl) rfl (lv_at hl 1 rfl) ?_
    refine fh_get (own := "FormulaSetter$Reader") (ref := "FormulaSetter$Nucleus") (C := "FormulaSetter$Nucleus") (T := T_Nu) (N := 15) (v := .ref (kA 9)) hx hb hT i_Nu hown hK hP (mkR_nu (hi)) rfl 5 (by decide) (hT _ w53) (fun _ h9 => h9) (by show some (va_rf ((R i 5).map kA)) = _; rw [hR5]; rfl) (fh_d d_Rd_readParts 2 rfl) ?_
    refine fh_callU (cc' := c_En_ordinal) (nL' := 1) (rest := [.ref tM]) (a := kA 9) (As := []) (Ck := "FormulaSetter$Kind") (owner := "java/lang/Enum") (x' := ⟨"FormulaSetter$Kind", "ordinal", "()I"⟩) X hR (m_En_ordinal l D ct b RO sA sV hSt kA aA yA tK tS tM hEn (r - 1) n 9 (by decide) (mkR x kA aA g (nI nc) (nI lc) (.ref (x + 1)) (nI L) (nI a) C R CL RL)) w515 w510 w511 rfl w514 w513 w19 ⟨by decide, by decide, by show _ = some 0; decide +kernel⟩ (by omega) (by decide) (fs_recv ((hEn _ hRO).1 9 (by decide)).2.1 hS) hP hS hl.1 rfl (by exact Nat.le_of_ble_eq_true rfl) (fh_d d_Rd_readParts 3 rfl) ⟨Nat.le_refl _, Nat.le_refl _⟩ (fun v9 h9 n9 H locs hq hP hS => ?_)
    obtain ⟨rfl, uo1, uo2⟩ := hq
    rw [uo1, uo2] at hP
    refine va_ti (v := .int (swM 9)) hx hb (hEn _ hRO).2.2.2.2.2.2.2.2.1 hS (i := nI 9) (vp_in_nI (by decide) (by decide)) rfl (fh_d d_Rd_readParts 4 rfl) ?_
    refine lv_tableIn (tgt := 153) hx hb (fh_d d_Rd_readParts 5 rfl) (by decide) (by decide) rfl rfl ?_
    refine lv_aload_n hx hb (fh_d d_Rd_readParts 64 rfl) rfl (lv_at hl 0 rfl) ?_
    refine lv_aload_n hx hb (fh_d d_Rd_readParts 65 rfl) rfl (lv_at hl 1 rfl) ?_
    refine lv_iload_n hx hb (fh_d d_Rd_readParts 66 rfl) rfl (lv_at hl 2 rfl) ?_
    refine fh_callV (cc' := c_Rd_readSides) (nL' := 3) (rest := []) (a := x + 2) (As := [.ref (x + 4 + i), .int (nI dp)]) X hR (m_Rd_readSides l D ct b RO hR sA sV hSt kA aA yA tK tS tM hEn hAd n x g f L hL hg1 hf7 L1 dp r0 hL1 hB1 (r - 1) (by omega) (by omega) i hi nc lc a C R CL RL hnc hlc hal hok) w523 w520 w522 v12 w2 ⟨by decide, by decide, by show _ = some 2; decide +kernel⟩ (by omega) (by decide) (fh_recv hK hP mkR_rd rfl) hP hS hl.1 rfl (by exact Nat.le_of_ble_eq_true rfl) (fh_d d_Rd_readParts 67 rfl) ⟨Nat.le_refl _, Nat.le_refl _⟩ (fun v9 h9 n9 H locs hq hP hS => ?_)
    obtain ⟨ua, ⟨nc9, lc9, a9, C9, R9, CL9, RL9, e9, rfl, ub⟩ | ⟨e9, rfl, nc9, lc9, a9, C9, R9, CL9, RL9, ub, uk9⟩⟩ := hq
    · rw [ua, ub] at hP
      exact fh_zret X hP hS (fh_d d_Rd_readParts 68 rfl) (by decide) ⟨rfl, Or.inl ⟨_, _, _, _, _, _, _, e9, rfl, rfl⟩⟩
    · rw [ua, ub] at hP
      exact fh_zret X hP hS (fh_d d_Rd_readParts 68 rfl) (by decide) ⟨rfl, Or.inr ⟨e9, rfl, rdF_mk (by repeat' first | assumption | apply okR_7 | apply okR_8 | apply okR_nu | apply okR_li | apply okR_l6 | apply okR_l7 | omega)⟩⟩
  · refine va_gets (own := "FormulaSetter$Reader") (ref := "FormulaSetter$1") hx hb (hEn _ hRO).2.2.2.2.2.2.2.1 hS hown (hT _ w508) (fun _ h9 => h9) (fh_d d_Rd_readParts 0 rfl) ?_
    refine lv_aload_n hx hb (fh_d d_Rd_readParts 1 rfl) rfl (lv_at hl 1 rfl) ?_
    refine fh_get (own := "FormulaSetter$Reader") (ref := "FormulaSetter$Nucleus") (C := "FormulaSetter$Nucleus") (T := T_Nu) (N := 15) (v := .ref (kA 10)) hx hb hT i_Nu hown hK hP (mkR_nu (hi)) rfl 5 (by decide) (hT _ w53) (fun _ h9 => h9) (by show some (va_rf ((R i 5).map kA)) = _; rw [hR5]; rfl) (fh_d d_Rd_readParts 2 rfl) ?_
    refine fh_callU (cc' := c_En_ordinal) (nL' := 1) (rest := [.ref tM]) (a := kA 10) (As := []) (Ck := "FormulaSetter$Kind") (owner := "java/lang/Enum") (x' := ⟨"FormulaSetter$Kind", "ordinal", "()I"⟩) X hR (m_En_ordinal l D ct b RO sA sV hSt kA aA yA tK tS tM hEn (r - 1) n 10 (by decide) (mkR x kA aA g (nI nc) (nI lc) (.ref (x + 1)) (nI L) (nI a) C R CL RL)) w515 w510 w511 rfl w514 w513 w19 ⟨by decide, by decide, by show _ = some 0; decide +kernel⟩ (by omega) (by decide) (fs_recv ((hEn _ hRO).1 10 (by decide)).2.1 hS) hP hS hl.1 rfl (by exact Nat.le_of_ble_eq_true rfl) (fh_d d_Rd_readParts 3 rfl) ⟨Nat.le_refl _, Nat.le_refl _⟩ (fun v9 h9 n9 H locs hq hP hS => ?_)
    obtain ⟨rfl, uo1, uo2⟩ := hq
    rw [uo1, uo2] at hP
    refine va_ti (v := .int (swM 10)) hx hb (hEn _ hRO).2.2.2.2.2.2.2.2.1 hS (i := nI 10) (vp_in_nI (by decide) (by decide)) rfl (fh_d d_Rd_readParts 4 rfl) ?_
    refine lv_tableIn (tgt := 160) hx hb (fh_d d_Rd_readParts 5 rfl) (by decide) (by decide) rfl rfl ?_
    refine lv_aload_n hx hb (fh_d d_Rd_readParts 69 rfl) rfl (lv_at hl 0 rfl) ?_
    refine lv_aload_n hx hb (fh_d d_Rd_readParts 70 rfl) rfl (lv_at hl 1 rfl) ?_
    refine lv_iload_n hx hb (fh_d d_Rd_readParts 71 rfl) rfl (lv_at hl 2 rfl) ?_
    refine fh_callV (cc' := c_Rd_readCells) (nL' := 8) (rest := []) (a := x + 2) (As := [.ref (x + 4 + i), .int (nI dp)]) X hR (m_Rd_readCells l D ct b RO hR sA sV hSt kA aA yA tK tS tM hEn hAd n x g f L hL hg1 hf7 L1 dp r0 hL1 hB1 (r - 1) (by omega) (by omega) i hi nc lc a C R CL RL hnc hlc hal hok) w533 w530 w532 v14 w2 ⟨by decide, by decide, by show _ = some 2; decide +kernel⟩ (by omega) (by decide) (fh_recv hK hP mkR_rd rfl) hP hS hl.1 rfl (by exact Nat.le_of_ble_eq_true rfl) (fh_d d_Rd_readParts 72 rfl) ⟨Nat.le_refl _, Nat.le_refl _⟩ (fun v9 h9 n9 H locs hq hP hS => ?_)
    obtain ⟨ua, ⟨nc9, lc9, a9, C9, R9, CL9, RL9, e9, rfl, ub⟩ | ⟨e9, rfl, nc9, lc9, a9, C9, R9, CL9, RL9, ub, uk9⟩⟩ := hq
    · rw [ua, ub] at hP
      exact fh_zret X hP hS (fh_d d_Rd_readParts 73 rfl) (by decide) ⟨rfl, Or.inl ⟨_, _, _, _, _, _, _, e9, rfl, rfl⟩⟩
    · rw [ua, ub] at hP
      exact fh_zret X hP hS (fh_d d_Rd_readParts 73 rfl) (by decide) ⟨rfl, Or.inr ⟨e9, rfl, rdF_mk (by repeat' first | assumption | apply okR_7 | apply okR_8 | apply okR_nu | apply okR_li | apply okR_l6 | apply okR_l7 | omega)⟩⟩
