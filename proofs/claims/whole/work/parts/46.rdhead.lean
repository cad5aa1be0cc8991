/-! The Reader: readHead. Printed by wip/whole/gen/p46.py -/
theorem cmdK_ok {f : Nat → Int32} {L a : Nat} : ∀ t k i, 11 - k = t → cmdK f L a k = some i → k ≤ i ∧ i < 11 ∧ ¬ (st_b (kC i)).length = 0 ∧ scm f L a (kC i)
  | 0, k, i, h, e => by rw [cmdK_n (by omega)] at e; exact absurd e (by simp)
  | t + 1, k, i, h, e => by
    by_cases q : ¬ (st_b (kC k)).length = 0 ∧ scm f L a (kC k)
    · rw [cmdK_y (by omega) q] at e
      obtain rfl := Option.some.inj e
      exact ⟨Nat.le_refl _, by omega, q⟩
    · rw [cmdK_s (by omega) q] at e
      have := cmdK_ok t (k + 1) i (by omega) e
      exact ⟨by omega, this.2⟩
theorem cmdK_2 {f : Nat → Int32} {L a k : Nat} (e : cmdK f L a 0 = some k) : 2 ≤ k ∧ k < 11 := by
  obtain ⟨-, h1, h2, -⟩ := cmdK_ok _ 0 k rfl e
  refine ⟨?_, h1⟩
  match k, h2 with
  | 0, h => exact absurd rfl h
  | 1, h => exact absurd rfl h
  | k + 2, _ => omega
theorem sT_up {α : Type} {T : Nat → Nat → α} {i k : Nat} {v w : α} : sT (sT T i k v) i k w = sT T i k w := by
  funext j q
  by_cases h : j = i ∧ q = k
  · obtain ⟨rfl, rfl⟩ := h; rw [sT_same, sT_same]
  · rw [sT_ne h, sT_ne h, sT_ne h]
/-- kind, place behind, code and class of what begins a nucleus at a -/
def rdHead (f : Nat → Int32) (L a : Nat) : Option (Nat × Nat × Int32 × Nat) := if hre f L a = 92 then (cmdK f L a 0).map (fun k => (k, cmdA a (some k), kO k, kAt k)) else if hre f L a = 123 then some (1, a + 1, 0, 0) else (chA (hre f L a)).map (fun t => (0, a + 1, hre f L a, t))
/-- some Reader's memory -/
def rdF (x : Nat) (kA aA : Nat → Nat) (g : fh_H) (L : Nat) (h : fh_H) : Prop := ∃ nc lc at_ C R CL RL, h = mkR x kA aA g nc lc (.ref (x + 1)) (nI L) at_ C R CL RL ∧ okR C CL
theorem rdF_mk {x : Nat} {kA aA : Nat → Nat} {g : fh_H} {L : Nat} {nc lc at_ : Int32} {C : Nat → Nat → Int32} {R : Nat → Nat → Option Nat} {CL : Nat → Nat → Int32} {RL : Nat → Nat → Option Nat} (hok : okR C CL) : rdF x kA aA g L (mkR x kA aA g nc lc (.ref (x + 1)) (nI L) at_ C R CL RL) := ⟨_, _, _, _, _, _, _, rfl, hok⟩
set_option maxHeartbeats 4000000 in
set_option maxRecDepth 100000 in
theorem m_Rd_readHead (l : Launch) (D : va_G) (ct : Nat → ClassId) (b : Nat) (RO : State → Prop) (hR : fh_R b RO) (sA sV : Nat → Nat) (hSt : ∀ U, RO U → ro_S b sA sV U) (kA aA yA : Nat → Nat) (tK tS tM : Nat) (hEn : ∀ U, RO U → ro_E b sA kA aA yA tK tS tM U) (hAd : ad_ok kA aA yA) (r : Nat) (hr : 6 ≤ r) (n x : Nat) (g : fh_H) (C : Nat → Nat → Int32) (R : Nat → Nat → Option Nat) (CL : Nat → Nat → Int32) (RL : Nat → Nat → Option Nat) (nc lc : Int32) (f : Nat → Int32) (L a : Nat) (hL : L ≤ 160) (ha : a ≤ 400) (hg1 : g (x + 1) = some (.inl (ct 1, 160, .inl f))) (hf7 : ∀ j, f j = (nI (ixI (f j))) ∧ ixI (f j) < 128) (i : Nat) (hi : i < 60) (hok : okR C CL) : fh_C l D fh_cl (fh_tys ct) b RO y_Rd_readHead (Cond.code y_Rd_readHead c_Rd_readHead 3 (Option.some FieldType.boolean) :: fh_T) (fh_rm r 0 0) [.ref (x + 2), .ref (x + 4 + i)] (mkR x kA aA g nc lc (.ref (x + 1)) (nI L) (nI a) C R CL RL) n (fun v h' n' => n' = n ∧ ((∃ k a' cd t, rdHead f L (sk f L a) = some (k, a', cd, t) ∧ v = some (.int 1) ∧ h' = mkR x kA aA g nc lc (.ref (x + 1)) (nI L) (nI a') (sT C i 7 cd) (sT (sT R i 5 (some k)) i 6 (some t)) CL RL) ∨ (rdHead f L (sk f L a) = none ∧ v = some (.int 0) ∧ rdF x kA aA g L h'))) 0 0 := by
  refine fh_enter (by decide) (Nat.le_of_ble_eq_true rfl) [(0, .ref (x + 2)), (1, .ref (x + 4 + i))] rfl ?_
  intro p e s m args below meth c H ls X hP hS hl
  have hx := X.1
  have hb := X.2.1
  have hml := X.2.2.1
  have hown : s.vm.findClass "FormulaSetter$Reader" = some m.cls := X.2.2.2.1
  have hT := X.2.2.2.2.1
  have hK := X.2.2.2.2.2.1
  have hRO := X.2.2.2.2.2.2.1
  have hnm : meth.name = "readHead" := X.2.2.2.2.2.2.2.2.2.2
  have hf : ∀ j, f j = (nI (ixI (f j))) ∧ ixI (f j) < 256 := fun j => ⟨(hf7 j).1, by have := (hf7 j).2; omega⟩
  have hid := sk_id f L _ a rfl
  refine lv_aload_n hx hb (fh_d d_Rd_readHead 0 rfl) rfl (lv_at hl 0 rfl) ?_
  refine fh_callV (cc' := c_Rd_peek) (nL' := 1) (rest := []) (a := x + 2) (As := []) X hR (m_Rd_peek l D ct b RO (r - 1) n x kA aA g C R CL RL nc lc f L (a) hL (by omega) hg1 hf) w319 w316 w318 v3 w2 ⟨by decide, by decide, by show _ = some 0; decide +kernel⟩ (by omega) (by decide) (fh_recv hK hP mkR_rd rfl) hP hS hl.1 rfl (by exact Nat.le_of_ble_eq_true rfl) (fh_d d_Rd_readHead 1 rfl) ⟨Nat.le_refl _, Nat.le_refl _⟩ (fun v9 h9 n9 H locs hq hP hS => ?_)
  obtain ⟨rfl, u1, u2⟩ := hq
  rw [u1, u2] at hP
  have hsk := sk_ge f L _ a rfl
  have hsk2 : sk f L a ≤ 400 := by
    by_cases q9 : a ≤ L
    · have := hsk.2 q9; omega
    · rw [sk_n (by omega)]; omega
  refine lv_istore_n (lv' := [(2, .int (hre f L (sk f L a))), (0, .ref (x + 2)), (1, .ref (x + 4 + i))]) hx hb (fh_d d_Rd_readHead 2 rfl) rfl hl (by decide) rfl (fun ls hl => ?_)
  refine lv_iload_n hx hb (fh_d d_Rd_readHead 3 rfl) rfl (lv_at hl 0 rfl) ?_
  refine lv_bipush (v := 92) hx hb (fh_d d_Rd_readHead 4 rfl) (by decide) ?_
  refine lv_icmp_ne (tgt := 22) hx hb (fh_d d_Rd_readHead 5 rfl) rfl (fun c3 => ?_) (fun c3 => ?_)
  · refine lv_aload_n hx hb (fh_d d_Rd_readHead 11 rfl) rfl (lv_at hl 2 rfl) ?_
    refine lv_iload_n hx hb (fh_d d_Rd_readHead 12 rfl) rfl (lv_at hl 0 rfl) ?_
    refine lv_bipush (v := 123) hx hb (fh_d d_Rd_readHead 13 rfl) (by decide) ?_
    refine lv_icmp_ne (tgt := 35) hx hb (fh_d d_Rd_readHead 14 rfl) rfl (fun c4 => ?_) (fun c4 => ?_)
    · refine va_gets (own := "FormulaSetter$Reader") (ref := "FormulaSetter$Kind") (n := "CHARACTER") hx hb ((hEn _ hRO).1 0 (by decide)).1 hS hown (hT _ w408) (fun _ h9 => h9) (fh_d d_Rd_readHead 17 rfl) ?_
      refine fh_put (own := "FormulaSetter$Reader") (ref := "FormulaSetter$Nucleus") (C := "FormulaSetter$Nucleus") (T := T_Nu) (N := 15) (v := .ref (kA 0)) (ty := (.object "FormulaSetter$Kind")) hx hb hT i_Nu t_Nu k_Nu n_Nu hown hK hP hS (mkR_nu (hi)) rfl 5 (by decide) (hT _ w53) (fun _ h9 => h9) rfl (by decide +kernel) rfl rfl (Nat.le_of_ble_eq_true rfl) (fh_d d_Rd_readHead 18 rfl) (fun H locs hP hS => ?_)
      replace hP := fh_P.eq (h' := mkR x kA aA g nc lc (.ref (x + 1)) (nI L) (nI (sk f L a)) C (sT R i 5 (some 0)) CL RL) hP (mkR_nu5 (v := some 0) (hi))
      have f5 : (sT R i 5 (some 0)) i 5 = some 0 := sT_same
      refine lv_aload_n hx hb (fh_d d_Rd_readHead 19 rfl) rfl (lv_at hl 2 rfl) ?_
      refine lv_iload_n hx hb (fh_d d_Rd_readHead 20 rfl) rfl (lv_at hl 0 rfl) ?_
      refine fh_put (own := "FormulaSetter$Reader") (ref := "FormulaSetter$Nucleus") (C := "FormulaSetter$Nucleus") (T := T_Nu) (N := 15) (v := .int (hre f L (sk f L a))) (ty := .int) hx hb hT i_Nu t_Nu k_Nu n_Nu hown hK hP hS (mkR_nu (hi)) rfl 7 (by decide) (hT _ w59) (fun _ h9 => h9) rfl (by decide +kernel) rfl rfl (Nat.le_of_ble_eq_true rfl) (fh_d d_Rd_readHead 21 rfl) (fun H locs hP hS => ?_)
      replace hP := fh_P.eq (h' := mkR x kA aA g nc lc (.ref (x + 1)) (nI L) (nI (sk f L a)) (sT C i 7 (hre f L (sk f L a))) (sT R i 5 (some 0)) CL RL) hP (mkR_nu7 (v := hre f L (sk f L a)) (hi))
      have f6 : (sT C i 7 (hre f L (sk f L a))) i 7 = hre f L (sk f L a) := sT_same
      refine lv_aload_n hx hb (fh_d d_Rd_readHead 22 rfl) rfl (lv_at hl 1 rfl) ?_
      refine lv_dup hx hb (fh_d d_Rd_readHead 23 rfl) rfl ?_
      refine fh_get (own := "FormulaSetter$Reader") (ref := "FormulaSetter$Reader") (C := "FormulaSetter$Reader") (T := T_Rd) (N := 7) (v := .int (nI (sk f L a))) hx hb hT i_Rd hown hK hP mkR_rd rfl 6 (by decide) (hT _ w186) (fun _ h9 => h9) (rfl) (fh_d d_Rd_readHead 24 rfl) ?_
      refine lv_iconst (v := 1) hx hb (fh_d d_Rd_readHead 25 rfl) (by decide) ?_
      refine lv_iadd hx hb (fh_d d_Rd_readHead 26 rfl) ?_
      refine fh_put (own := "FormulaSetter$Reader") (ref := "FormulaSetter$Reader") (C := "FormulaSetter$Reader") (T := T_Rd) (N := 7) (v := .int ((nI (sk f L a)) + 1)) (ty := .int) hx hb hT i_Rd t_Rd k_Rd n_Rd hown hK hP hS mkR_rd rfl 6 (by decide) (hT _ w186) (fun _ h9 => h9) rfl (by decide +kernel) rfl rfl (Nat.le_of_ble_eq_true rfl) (fh_d d_Rd_readHead 27 rfl) (fun H locs hP hS => ?_)
      replace hP := fh_P.eq (h' := mkR x kA aA g nc lc (.ref (x + 1)) (nI L) ((nI (sk f L a)) + 1) (sT C i 7 (hre f L (sk f L a))) (sT R i 5 (some 0)) CL RL) hP mkR_urd
      rw [nI_1] at hP
      refine lv_aload_n hx hb (fh_d d_Rd_readHead 28 rfl) rfl (lv_at hl 2 rfl) ?_
      refine fh_get (own := "FormulaSetter$Reader") (ref := "FormulaSetter$Nucleus") (C := "FormulaSetter$Nucleus") (T := T_Nu) (N := 15) (v := .ref (kA 0)) hx hb hT i_Nu hown hK hP (mkR_nu (hi)) rfl 5 (by decide) (hT _ w53) (fun _ h9 => h9) (by show some (va_rf (((sT R i 5 (some 0)) i 5).map kA)) = _; rw [f5]; rfl) (fh_d d_Rd_readHead 29 rfl) ?_
      refine lv_ifnonnull (tgt := 65) hx hb (fh_d d_Rd_readHead 30 rfl) rfl ?_
      refine lv_aload_n hx hb (fh_d d_Rd_readHead 33 rfl) rfl (lv_at hl 2 rfl) ?_
      refine fh_get (own := "FormulaSetter$Reader") (ref := "FormulaSetter$Nucleus") (C := "FormulaSetter$Nucleus") (T := T_Nu) (N := 15) (v := .ref (kA 0)) hx hb hT i_Nu hown hK hP (mkR_nu (hi)) rfl 5 (by decide) (hT _ w53) (fun _ h9 => h9) (by show some (va_rf (((sT R i 5 (some 0)) i 5).map kA)) = _; rw [f5]; rfl) (fh_d d_Rd_readHead 34 rfl) ?_
      refine va_gets (own := "FormulaSetter$Reader") (ref := "FormulaSetter$Kind") (n := "CHARACTER") hx hb ((hEn _ hRO).1 0 (by decide)).1 hS hown (hT _ w408) (fun _ h9 => h9) (fh_d d_Rd_readHead 35 rfl) ?_
      refine lv_acmp_ne (rx := some (kA 0)) (ry := some (kA 0)) (tgt := 86) hx hb (fh_d d_Rd_readHead 36 rfl) rfl (fun c8 => absurd c8 (Classical.not_not.mpr rfl)) (fun c8 => ?_)
      refine lv_aload_n hx hb (fh_d d_Rd_readHead 37 rfl) rfl (lv_at hl 2 rfl) ?_
      refine lv_iload_n hx hb (fh_d d_Rd_readHead 38 rfl) rfl (lv_at hl 0 rfl) ?_
      have hC := m_At_ofCharacter l D ct b RO hR sA sV hSt kA aA yA tK tS tM hEn (r - 1) n (ixI (hre f L (sk f L a))) (by omega) (hre_7 hf7 _).2 (mkR x kA aA g nc lc (.ref (x + 1)) (nI L) (nI (sk f L a + 1)) (sT C i 7 (hre f L (sk f L a))) (sT R i 5 (some 0)) CL RL)
      rw [(hre_7 hf7 _).1] at hC
      refine fh_callS (cc' := c_At_ofCharacter) (nL' := 1) (rest := [.ref (x + 4 + i)]) (av := [.int (hre f L (sk f L a))]) X hR (hC) w412 w410 w411 w20 ⟨by decide, by decide, by show _ = some 1; decide +kernel⟩ (by omega) (by decide) hP hS hl.1 rfl (by exact Nat.le_of_ble_eq_true rfl) (fh_d d_Rd_readHead 39 rfl) ⟨Nat.le_refl _, Nat.le_refl _⟩ (fun v9 h9 n9 H locs hq hP hS => ?_)
      obtain ⟨rfl, u9, u10⟩ := hq
      rw [u9, u10] at hP
      rcases hq1 : chA (hre f L (sk f L a)) with _ | t
      · refine W.eq (g2 := F0 m 80 ls [.null, .ref (x + 4 + i)]) (by rfl) ?_
        refine fh_put (own := "FormulaSetter$Reader") (ref := "FormulaSetter$Nucleus") (C := "FormulaSetter$Nucleus") (T := T_Nu) (N := 15) (v := .null) (ty := (.object "FormulaSetter$Atom")) hx hb hT i_Nu t_Nu k_Nu n_Nu hown hK hP hS (mkR_nu (hi)) rfl 6 (by decide) (hT _ w57) (fun _ h9 => h9) rfl (by decide +kernel) rfl rfl (Nat.le_of_ble_eq_true rfl) (fh_d d_Rd_readHead 40 rfl) (fun H locs hP hS => ?_)
        replace hP := fh_P.eq (h' := mkR x kA aA g nc lc (.ref (x + 1)) (nI L) (nI (sk f L a + 1)) (sT C i 7 (hre f L (sk f L a))) (sT (sT R i 5 (some 0)) i 6 none) CL RL) hP (mkR_nu6 (v := none) (hi))
        have f11 : (sT (sT R i 5 (some 0)) i 6 none) i 5 = some 0 := (sT_ne (by omega)).trans f5
        have f12 : (sT (sT R i 5 (some 0)) i 6 none) i 6 = none := sT_same
        refine lv_goto (tgt := 108) hx hb (fh_d d_Rd_readHead 41 rfl) rfl ?_
        refine lv_aload_n hx hb (fh_d d_Rd_readHead 52 rfl) rfl (lv_at hl 2 rfl) ?_
        refine fh_get (own := "FormulaSetter$Reader") (ref := "FormulaSetter$Nucleus") (C := "FormulaSetter$Nucleus") (T := T_Nu) (N := 15) (v := .null) hx hb hT i_Nu hown hK hP (mkR_nu (hi)) rfl 6 (by decide) (hT _ w57) (fun _ h9 => h9) (by show some (va_rf (((sT (sT R i 5 (some 0)) i 6 none) i 6).map aA)) = _; rw [f12]; rfl) (fh_d d_Rd_readHead 53 rfl) ?_
        refine lv_ifnullN (tgt := 119) hx hb (fh_d d_Rd_readHead 54 rfl) rfl ?_
        refine lv_iconst (v := 0) hx hb (fh_d d_Rd_readHead 57 rfl) (by decide) ?_
        exact fh_zret X hP hS (fh_d d_Rd_readHead 58 rfl) (by decide) ⟨rfl, Or.inr ⟨by unfold rdHead; rw [if_neg c3, if_neg c4, hq1]; rfl, rfl, rdF_mk (by repeat' first | assumption | apply okR_7 | apply okR_8 | apply okR_nu | apply okR_li | apply okR_l6 | apply okR_l7 | omega)⟩⟩
      · refine W.eq (g2 := F0 m 80 ls [.ref (aA t), .ref (x + 4 + i)]) (by rfl) ?_
        refine fh_put (own := "FormulaSetter$Reader") (ref := "FormulaSetter$Nucleus") (C := "FormulaSetter$Nucleus") (T := T_Nu) (N := 15) (v := .ref (aA t)) (ty := (.object "FormulaSetter$Atom")) hx hb hT i_Nu t_Nu k_Nu n_Nu hown hK hP hS (mkR_nu (hi)) rfl 6 (by decide) (hT _ w57) (fun _ h9 => h9) rfl (by decide +kernel) rfl rfl (Nat.le_of_ble_eq_true rfl) (fh_d d_Rd_readHead 40 rfl) (fun H locs hP hS => ?_)
        replace hP := fh_P.eq (h' := mkR x kA aA g nc lc (.ref (x + 1)) (nI L) (nI (sk f L a + 1)) (sT C i 7 (hre f L (sk f L a))) (sT (sT R i 5 (some 0)) i 6 (some t)) CL RL) hP (mkR_nu6 (v := some t) (hi))
        have f14 : (sT (sT R i 5 (some 0)) i 6 (some t)) i 5 = some 0 := (sT_ne (by omega)).trans f5
        have f15 : (sT (sT R i 5 (some 0)) i 6 (some t)) i 6 = some t := sT_same
        refine lv_goto (tgt := 108) hx hb (fh_d d_Rd_readHead 41 rfl) rfl ?_
        refine lv_aload_n hx hb (fh_d d_Rd_readHead 52 rfl) rfl (lv_at hl 2 rfl) ?_
        refine fh_get (own := "FormulaSetter$Reader") (ref := "FormulaSetter$Nucleus") (C := "FormulaSetter$Nucleus") (T := T_Nu) (N := 15) (v := .ref (aA t)) hx hb hT i_Nu hown hK hP (mkR_nu (hi)) rfl 6 (by decide) (hT _ w57) (fun _ h9 => h9) (by show some (va_rf (((sT (sT R i 5 (some 0)) i 6 (some t)) i 6).map aA)) = _; rw [f15]; rfl) (fh_d d_Rd_readHead 53 rfl) ?_
        refine lv_ifnull hx hb (fh_d d_Rd_readHead 54 rfl) ?_
        refine lv_iconst (v := 1) hx hb (fh_d d_Rd_readHead 55 rfl) (by decide) ?_
        refine lv_goto (tgt := 120) hx hb (fh_d d_Rd_readHead 56 rfl) rfl ?_
        exact fh_zret X hP hS (fh_d d_Rd_readHead 58 rfl) (by decide) ⟨rfl, Or.inl ⟨0, _, _, _, by unfold rdHead; rw [if_neg c3, if_neg c4, hq1]; try rfl, rfl, by first | rfl | (rw [sT_up]; rfl) | rw [sT_up]⟩⟩
    · refine va_gets (own := "FormulaSetter$Reader") (ref := "FormulaSetter$Kind") (n := "GROUP") hx hb ((hEn _ hRO).1 1 (by decide)).1 hS hown (hT _ w406) (fun _ h9 => h9) (fh_d d_Rd_readHead 15 rfl) ?_
      refine lv_goto (tgt := 38) hx hb (fh_d d_Rd_readHead 16 rfl) rfl ?_
      refine fh_put (own := "FormulaSetter$Reader") (ref := "FormulaSetter$Nucleus") (C := "FormulaSetter$Nucleus") (T := T_Nu) (N := 15) (v := .ref (kA 1)) (ty := (.object "FormulaSetter$Kind")) hx hb hT i_Nu t_Nu k_Nu n_Nu hown hK hP hS (mkR_nu (hi)) rfl 5 (by decide) (hT _ w53) (fun _ h9 => h9) rfl (by decide +kernel) rfl rfl (Nat.le_of_ble_eq_true rfl) (fh_d d_Rd_readHead 18 rfl) (fun H locs hP hS => ?_)
      replace hP := fh_P.eq (h' := mkR x kA aA g nc lc (.ref (x + 1)) (nI L) (nI (sk f L a)) C (sT R i 5 (some 1)) CL RL) hP (mkR_nu5 (v := some 1) (hi))
      have f17 : (sT R i 5 (some 1)) i 5 = some 1 := sT_same
      refine lv_aload_n hx hb (fh_d d_Rd_readHead 19 rfl) rfl (lv_at hl 2 rfl) ?_
      refine lv_iload_n hx hb (fh_d d_Rd_readHead 20 rfl) rfl (lv_at hl 0 rfl) ?_
      refine fh_put (own := "FormulaSetter$Reader") (ref := "FormulaSetter$Nucleus") (C := "FormulaSetter$Nucleus") (T := T_Nu) (N := 15) (v := .int (hre f L (sk f L a))) (ty := .int) hx hb hT i_Nu t_Nu k_Nu n_Nu hown hK hP hS (mkR_nu (hi)) rfl 7 (by decide) (hT _ w59) (fun _ h9 => h9) rfl (by decide +kernel) rfl rfl (Nat.le_of_ble_eq_true rfl) (fh_d d_Rd_readHead 21 rfl) (fun H locs hP hS => ?_)
      replace hP := fh_P.eq (h' := mkR x kA aA g nc lc (.ref (x + 1)) (nI L) (nI (sk f L a)) (sT C i 7 (hre f L (sk f L a))) (sT R i 5 (some 1)) CL RL) hP (mkR_nu7 (v := hre f L (sk f L a)) (hi))
      have f18 : (sT C i 7 (hre f L (sk f L a))) i 7 = hre f L (sk f L a) := sT_same
      refine lv_aload_n hx hb (fh_d d_Rd_readHead 22 rfl) rfl (lv_at hl 1 rfl) ?_
      refine lv_dup hx hb (fh_d d_Rd_readHead 23 rfl) rfl ?_
      refine fh_get (own := "FormulaSetter$Reader") (ref := "FormulaSetter$Reader") (C := "FormulaSetter$Reader") (T := T_Rd) (N := 7) (v := .int (nI (sk f L a))) hx hb hT i_Rd hown hK hP mkR_rd rfl 6 (by decide) (hT _ w186) (fun _ h9 => h9) (rfl) (fh_d d_Rd_readHead 24 rfl) ?_
      refine lv_iconst (v := 1) hx hb (fh_d d_Rd_readHead 25 rfl) (by decide) ?_
      refine lv_iadd hx hb (fh_d d_Rd_readHead 26 rfl) ?_
      refine fh_put (own := "FormulaSetter$Reader") (ref := "FormulaSetter$Reader") (C := "FormulaSetter$Reader") (T := T_Rd) (N := 7) (v := .int ((nI (sk f L a)) + 1)) (ty := .int) hx hb hT i_Rd t_Rd k_Rd n_Rd hown hK hP hS mkR_rd rfl 6 (by decide) (hT _ w186) (fun _ h9 => h9) rfl (by decide +kernel) rfl rfl (Nat.le_of_ble_eq_true rfl) (fh_d d_Rd_readHead 27 rfl) (fun H locs hP hS => ?_)
      replace hP := fh_P.eq (h' := mkR x kA aA g nc lc (.ref (x + 1)) (nI L) ((nI (sk f L a)) + 1) (sT C i 7 (hre f L (sk f L a))) (sT R i 5 (some 1)) CL RL) hP mkR_urd
      rw [nI_1] at hP
      refine lv_aload_n hx hb (fh_d d_Rd_readHead 28 rfl) rfl (lv_at hl 2 rfl) ?_
      refine fh_get (own := "FormulaSetter$Reader") (ref := "FormulaSetter$Nucleus") (C := "FormulaSetter$Nucleus") (T := T_Nu) (N := 15) (v := .ref (kA 1)) hx hb hT i_Nu hown hK hP (mkR_nu (hi)) rfl 5 (by decide) (hT _ w53) (fun _ h9 => h9) (by show some (va_rf (((sT R i 5 (some 1)) i 5).map kA)) = _; rw [f17]; rfl) (fh_d d_Rd_readHead 29 rfl) ?_
      refine lv_ifnonnull (tgt := 65) hx hb (fh_d d_Rd_readHead 30 rfl) rfl ?_
      refine lv_aload_n hx hb (fh_d d_Rd_readHead 33 rfl) rfl (lv_at hl 2 rfl) ?_
      refine fh_get (own := "FormulaSetter$Reader") (ref := "FormulaSetter$Nucleus") (C := "FormulaSetter$Nucleus") (T := T_Nu) (N := 15) (v := .ref (kA 1)) hx hb hT i_Nu hown hK hP (mkR_nu (hi)) rfl 5 (by decide) (hT _ w53) (fun _ h9 => h9) (by show some (va_rf (((sT R i 5 (some 1)) i 5).map kA)) = _; rw [f17]; rfl) (fh_d d_Rd_readHead 34 rfl) ?_
      refine va_gets (own := "FormulaSetter$Reader") (ref := "FormulaSetter$Kind") (n := "CHARACTER") hx hb ((hEn _ hRO).1 0 (by decide)).1 hS hown (hT _ w408) (fun _ h9 => h9) (fh_d d_Rd_readHead 35 rfl) ?_
      refine lv_acmp_ne (rx := some (kA 1)) (ry := some (kA 0)) (tgt := 86) hx hb (fh_d d_Rd_readHead 36 rfl) rfl (fun c20 => ?_) (fun c20 => absurd c20 (fun z => absurd (hAd.1 _ _ (by decide) (by decide) (Option.some.inj z)) (by decide)))
      refine lv_aload_n hx hb (fh_d d_Rd_readHead 42 rfl) rfl (lv_at hl 2 rfl) ?_
      refine lv_aload_n hx hb (fh_d d_Rd_readHead 43 rfl) rfl (lv_at hl 2 rfl) ?_
      refine fh_get (own := "FormulaSetter$Reader") (ref := "FormulaSetter$Nucleus") (C := "FormulaSetter$Nucleus") (T := T_Nu) (N := 15) (v := .ref (kA 1)) hx hb hT i_Nu hown hK hP (mkR_nu (hi)) rfl 5 (by decide) (hT _ w53) (fun _ h9 => h9) (by show some (va_rf (((sT R i 5 (some 1)) i 5).map kA)) = _; rw [f17]; rfl) (fh_d d_Rd_readHead 44 rfl) ?_
      refine fh_callV (cc' := c_Ki_atom) (nL' := 1) (rest := [.ref (x + 4 + i)]) (a := kA 1) (As := []) X hR (m_Ki_atom l D ct b RO sA sV hSt kA aA yA tK tS tM hEn hAd (r - 1) n 1 (by decide) (mkR x kA aA g nc lc (.ref (x + 1)) (nI L) (nI (sk f L a + 1)) (sT C i 7 (hre f L (sk f L a))) (sT R i 5 (some 1)) CL RL)) w492 w489 w490 w491 w21 ⟨by decide, by decide, by show _ = some 0; decide +kernel⟩ (by omega) (by decide) (fs_recv ((hEn _ hRO).1 1 (by decide)).2.1 hS) hP hS hl.1 rfl (by exact Nat.le_of_ble_eq_true rfl) (fh_d d_Rd_readHead 45 rfl) ⟨Nat.le_refl _, Nat.le_refl _⟩ (fun v9 h9 n9 H locs hq hP hS => ?_)
      obtain ⟨rfl, u21, u22⟩ := hq
      rw [u21, u22] at hP
      refine fh_put (own := "FormulaSetter$Reader") (ref := "FormulaSetter$Nucleus") (C := "FormulaSetter$Nucleus") (T := T_Nu) (N := 15) (v := .ref (aA (kAt 1))) (ty := (.object "FormulaSetter$Atom")) hx hb hT i_Nu t_Nu k_Nu n_Nu hown hK hP hS (mkR_nu (hi)) rfl 6 (by decide) (hT _ w57) (fun _ h9 => h9) rfl (by decide +kernel) rfl rfl (Nat.le_of_ble_eq_true rfl) (fh_d d_Rd_readHead 46 rfl) (fun H locs hP hS => ?_)
      replace hP := fh_P.eq (h' := mkR x kA aA g nc lc (.ref (x + 1)) (nI L) (nI (sk f L a + 1)) (sT C i 7 (hre f L (sk f L a))) (sT (sT R i 5 (some 1)) i 6 (some (kAt 1))) CL RL) hP (mkR_nu6 (v := some (kAt 1)) (hi))
      have f23 : (sT (sT R i 5 (some 1)) i 6 (some (kAt 1))) i 5 = some 1 := (sT_ne (by omega)).trans f17
      have f24 : (sT (sT R i 5 (some 1)) i 6 (some (kAt 1))) i 6 = some (kAt 1) := sT_same
      refine lv_aload_n hx hb (fh_d d_Rd_readHead 47 rfl) rfl (lv_at hl 2 rfl) ?_
      refine lv_aload_n hx hb (fh_d d_Rd_readHead 48 rfl) rfl (lv_at hl 2 rfl) ?_
      refine fh_get (own := "FormulaSetter$Reader") (ref := "FormulaSetter$Nucleus") (C := "FormulaSetter$Nucleus") (T := T_Nu) (N := 15) (v := .ref (kA 1)) hx hb hT i_Nu hown hK hP (mkR_nu (hi)) rfl 5 (by decide) (hT _ w53) (fun _ h9 => h9) (by show some (va_rf (((sT (sT R i 5 (some 1)) i 6 (some (kAt 1))) i 5).map kA)) = _; rw [f23]; rfl) (fh_d d_Rd_readHead 49 rfl) ?_
      refine vk_getf (own := "FormulaSetter$Reader") (ref := "FormulaSetter$Kind") hx hb (((hEn _ hRO).1 1 (by decide)).2.2.2.2) hS hown (hT _ w1245) (fun _ h9 => h9) (fh_d d_Rd_readHead 50 rfl) ?_
      refine fh_put (own := "FormulaSetter$Reader") (ref := "FormulaSetter$Nucleus") (C := "FormulaSetter$Nucleus") (T := T_Nu) (N := 15) (v := .int (kO 1)) (ty := .int) hx hb hT i_Nu t_Nu k_Nu n_Nu hown hK hP hS (mkR_nu (hi)) rfl 7 (by decide) (hT _ w59) (fun _ h9 => h9) rfl (by decide +kernel) rfl rfl (Nat.le_of_ble_eq_true rfl) (fh_d d_Rd_readHead 51 rfl) (fun H locs hP hS => ?_)
      replace hP := fh_P.eq (h' := mkR x kA aA g nc lc (.ref (x + 1)) (nI L) (nI (sk f L a + 1)) (sT (sT C i 7 (hre f L (sk f L a))) i 7 (kO 1)) (sT (sT R i 5 (some 1)) i 6 (some (kAt 1))) CL RL) hP (mkR_nu7 (v := kO 1) (hi))
      have f25 : (sT (sT C i 7 (hre f L (sk f L a))) i 7 (kO 1)) i 7 = kO 1 := sT_same
      refine lv_aload_n hx hb (fh_d d_Rd_readHead 52 rfl) rfl (lv_at hl 2 rfl) ?_
      refine fh_get (own := "FormulaSetter$Reader") (ref := "FormulaSetter$Nucleus") (C := "FormulaSetter$Nucleus") (T := T_Nu) (N := 15) (v := .ref (aA (kAt 1))) hx hb hT i_Nu hown hK hP (mkR_nu (hi)) rfl 6 (by decide) (hT _ w57) (fun _ h9 => h9) (by show some (va_rf (((sT (sT R i 5 (some 1)) i 6 (some (kAt 1))) i 6).map aA)) = _; rw [f24]; rfl) (fh_d d_Rd_readHead 53 rfl) ?_
      refine lv_ifnull hx hb (fh_d d_Rd_readHead 54 rfl) ?_
      refine lv_iconst (v := 1) hx hb (fh_d d_Rd_readHead 55 rfl) (by decide) ?_
      refine lv_goto (tgt := 120) hx hb (fh_d d_Rd_readHead 56 rfl) rfl ?_
      exact fh_zret X hP hS (fh_d d_Rd_readHead 58 rfl) (by decide) ⟨rfl, Or.inl ⟨1, _, 0, 0, by unfold rdHead; rw [if_neg c3, if_pos c4]; try rfl, rfl, by first | rfl | (rw [sT_up]; rfl) | rw [sT_up]⟩⟩
  · refine lv_aload_n hx hb (fh_d d_Rd_readHead 6 rfl) rfl (lv_at hl 2 rfl) ?_
    refine lv_aload_n hx hb (fh_d d_Rd_readHead 7 rfl) rfl (lv_at hl 1 rfl) ?_
    have hC := m_Rd_takeCommand l D ct b RO hR sA sV hSt kA aA yA tK tS tM hEn (r - 1) (by omega) n x g C R CL RL nc lc f L (sk f L a) hL (sk_le ha hL) hg1 hf7 hid
    refine fh_callV (cc' := c_Rd_takeCommand) (nL' := 3) (rest := [.ref (x + 4 + i)]) (a := x + 2) (As := []) X hR (hC) w399 w396 w398 v9 w2 ⟨by decide, by decide, by show _ = some 0; decide +kernel⟩ (by omega) (by decide) (fh_recv hK hP mkR_rd rfl) hP hS hl.1 rfl (by exact Nat.le_of_ble_eq_true rfl) (fh_d d_Rd_readHead 8 rfl) ⟨Nat.le_refl _, Nat.le_refl _⟩ (fun v9 h9 n9 H locs hq hP hS => ?_)
    obtain ⟨rfl, u27, u28⟩ := hq
    rw [u27, u28] at hP
    rcases hq0 : cmdK f L (sk f L a) 0 with _ | k
    · rw [hq0] at hP
      replace hP : fh_P D fh_cl b (mkR x kA aA g nc lc (.ref (x + 1)) (nI L) (nI (sk f L a)) C R CL RL) n H := hP
      refine W.eq (g2 := F0 m 16 ls [.null, .ref (x + 4 + i)]) rfl ?_
      refine fh_put (own := "FormulaSetter$Reader") (ref := "FormulaSetter$Nucleus") (C := "FormulaSetter$Nucleus") (T := T_Nu) (N := 15) (v := .null) (ty := (.object "FormulaSetter$Kind")) hx hb hT i_Nu t_Nu k_Nu n_Nu hown hK hP hS (mkR_nu (hi)) rfl 5 (by decide) (hT _ w53) (fun _ h9 => h9) rfl (by decide +kernel) rfl rfl (Nat.le_of_ble_eq_true rfl) (fh_d d_Rd_readHead 9 rfl) (fun H locs hP hS => ?_)
      replace hP := fh_P.eq (h' := mkR x kA aA g nc lc (.ref (x + 1)) (nI L) (nI (sk f L a)) C (sT R i 5 none) CL RL) hP (mkR_nu5 (v := none) (hi))
      have f29 : (sT R i 5 none) i 5 = none := sT_same
      refine lv_goto (tgt := 56) hx hb (fh_d d_Rd_readHead 10 rfl) rfl ?_
      refine lv_aload_n hx hb (fh_d d_Rd_readHead 28 rfl) rfl (lv_at hl 2 rfl) ?_
      refine fh_get (own := "FormulaSetter$Reader") (ref := "FormulaSetter$Nucleus") (C := "FormulaSetter$Nucleus") (T := T_Nu) (N := 15) (v := .null) hx hb hT i_Nu hown hK hP (mkR_nu (hi)) rfl 5 (by decide) (hT _ w53) (fun _ h9 => h9) (by show some (va_rf (((sT R i 5 none) i 5).map kA)) = _; rw [f29]; rfl) (fh_d d_Rd_readHead 29 rfl) ?_
      refine lv_ifnonnullN hx hb (fh_d d_Rd_readHead 30 rfl) ?_
      refine lv_iconst (v := 0) hx hb (fh_d d_Rd_readHead 31 rfl) (by decide) ?_
      exact fh_zret X hP hS (fh_d d_Rd_readHead 32 rfl) (by decide) ⟨rfl, Or.inr ⟨by unfold rdHead; rw [if_pos c3, hq0]; rfl, rfl, rdF_mk (by repeat' first | assumption | apply okR_7 | apply okR_8 | apply okR_nu | apply okR_li | apply okR_l6 | apply okR_l7 | omega)⟩⟩
    · rw [hq0] at hP
      replace hP : fh_P D fh_cl b (mkR x kA aA g nc lc (.ref (x + 1)) (nI L) (nI (cmdA (sk f L a) (some k))) C R CL RL) n H := hP
      refine W.eq (g2 := F0 m 16 ls [.ref (kA k), .ref (x + 4 + i)]) rfl ?_
      have hk := cmdK_2 hq0
      refine fh_put (own := "FormulaSetter$Reader") (ref := "FormulaSetter$Nucleus") (C := "FormulaSetter$Nucleus") (T := T_Nu) (N := 15) (v := .ref (kA k)) (ty := (.object "FormulaSetter$Kind")) hx hb hT i_Nu t_Nu k_Nu n_Nu hown hK hP hS (mkR_nu (hi)) rfl 5 (by decide) (hT _ w53) (fun _ h9 => h9) rfl (by decide +kernel) rfl rfl (Nat.le_of_ble_eq_true rfl) (fh_d d_Rd_readHead 9 rfl) (fun H locs hP hS => ?_)
      replace hP := fh_P.eq (h' := mkR x kA aA g nc lc (.ref (x + 1)) (nI L) (nI (cmdA (sk f L a) (some k))) C (sT R i 5 (some k)) CL RL) hP (mkR_nu5 (v := some k) (hi))
      have f31 : (sT R i 5 (some k)) i 5 = some k := sT_same
      refine lv_goto (tgt := 56) hx hb (fh_d d_Rd_readHead 10 rfl) rfl ?_
      refine lv_aload_n hx hb (fh_d d_Rd_readHead 28 rfl) rfl (lv_at hl 2 rfl) ?_
      refine fh_get (own := "FormulaSetter$Reader") (ref := "FormulaSetter$Nucleus") (C := "FormulaSetter$Nucleus") (T := T_Nu) (N := 15) (v := .ref (kA k)) hx hb hT i_Nu hown hK hP (mkR_nu (hi)) rfl 5 (by decide) (hT _ w53) (fun _ h9 => h9) (by show some (va_rf (((sT R i 5 (some k)) i 5).map kA)) = _; rw [f31]; rfl) (fh_d d_Rd_readHead 29 rfl) ?_
      refine lv_ifnonnull (tgt := 65) hx hb (fh_d d_Rd_readHead 30 rfl) rfl ?_
      refine lv_aload_n hx hb (fh_d d_Rd_readHead 33 rfl) rfl (lv_at hl 2 rfl) ?_
      refine fh_get (own := "FormulaSetter$Reader") (ref := "FormulaSetter$Nucleus") (C := "FormulaSetter$Nucleus") (T := T_Nu) (N := 15) (v := .ref (kA k)) hx hb hT i_Nu hown hK hP (mkR_nu (hi)) rfl 5 (by decide) (hT _ w53) (fun _ h9 => h9) (by show some (va_rf (((sT R i 5 (some k)) i 5).map kA)) = _; rw [f31]; rfl) (fh_d d_Rd_readHead 34 rfl) ?_
      refine va_gets (own := "FormulaSetter$Reader") (ref := "FormulaSetter$Kind") (n := "CHARACTER") hx hb ((hEn _ hRO).1 0 (by decide)).1 hS hown (hT _ w408) (fun _ h9 => h9) (fh_d d_Rd_readHead 35 rfl) ?_
      refine lv_acmp_ne (rx := some (kA k)) (ry := some (kA 0)) (tgt := 86) hx hb (fh_d d_Rd_readHead 36 rfl) rfl (fun c33 => ?_) (fun c33 => absurd c33 (fun z => absurd (hAd.1 _ _ hk.2 (by decide) (Option.some.inj z)) (by omega)))
      refine lv_aload_n hx hb (fh_d d_Rd_readHead 42 rfl) rfl (lv_at hl 2 rfl) ?_
      refine lv_aload_n hx hb (fh_d d_Rd_readHead 43 rfl) rfl (lv_at hl 2 rfl) ?_
      refine fh_get (own := "FormulaSetter$Reader") (ref := "FormulaSetter$Nucleus") (C := "FormulaSetter$Nucleus") (T := T_Nu) (N := 15) (v := .ref (kA k)) hx hb hT i_Nu hown hK hP (mkR_nu (hi)) rfl 5 (by decide) (hT _ w53) (fun _ h9 => h9) (by show some (va_rf (((sT R i 5 (some k)) i 5).map kA)) = _; rw [f31]; rfl) (fh_d d_Rd_readHead 44 rfl) ?_
      refine fh_callV (cc' := c_Ki_atom) (nL' := 1) (rest := [.ref (x + 4 + i)]) (a := kA k) (As := []) X hR (m_Ki_atom l D ct b RO sA sV hSt kA aA yA tK tS tM hEn hAd (r - 1) n k hk.2 (mkR x kA aA g nc lc (.ref (x + 1)) (nI L) (nI (cmdA (sk f L a) (some k))) C (sT R i 5 (some k)) CL RL)) w492 w489 w490 w491 w21 ⟨by decide, by decide, by show _ = some 0; decide +kernel⟩ (by omega) (by decide) (fs_recv ((hEn _ hRO).1 k hk.2).2.1 hS) hP hS hl.1 rfl (by exact Nat.le_of_ble_eq_true rfl) (fh_d d_Rd_readHead 45 rfl) ⟨Nat.le_refl _, Nat.le_refl _⟩ (fun v9 h9 n9 H locs hq hP hS => ?_)
      obtain ⟨rfl, u34, u35⟩ := hq
      rw [u34, u35] at hP
      refine fh_put (own := "FormulaSetter$Reader") (ref := "FormulaSetter$Nucleus") (C := "FormulaSetter$Nucleus") (T := T_Nu) (N := 15) (v := .ref (aA (kAt k))) (ty := (.object "FormulaSetter$Atom")) hx hb hT i_Nu t_Nu k_Nu n_Nu hown hK hP hS (mkR_nu (hi)) rfl 6 (by decide) (hT _ w57) (fun _ h9 => h9) rfl (by decide +kernel) rfl rfl (Nat.le_of_ble_eq_true rfl) (fh_d d_Rd_readHead 46 rfl) (fun H locs hP hS => ?_)
      replace hP := fh_P.eq (h' := mkR x kA aA g nc lc (.ref (x + 1)) (nI L) (nI (cmdA (sk f L a) (some k))) C (sT (sT R i 5 (some k)) i 6 (some (kAt k))) CL RL) hP (mkR_nu6 (v := some (kAt k)) (hi))
      have f36 : (sT (sT R i 5 (some k)) i 6 (some (kAt k))) i 5 = some k := (sT_ne (by omega)).trans f31
      have f37 : (sT (sT R i 5 (some k)) i 6 (some (kAt k))) i 6 = some (kAt k) := sT_same
      refine lv_aload_n hx hb (fh_d d_Rd_readHead 47 rfl) rfl (lv_at hl 2 rfl) ?_
      refine lv_aload_n hx hb (fh_d d_Rd_readHead 48 rfl) rfl (lv_at hl 2 rfl) ?_
      refine fh_get (own := "FormulaSetter$Reader") (ref := "FormulaSetter$Nucleus") (C := "FormulaSetter$Nucleus") (T := T_Nu) (N := 15) (v := .ref (kA k)) hx hb hT i_Nu hown hK hP (mkR_nu (hi)) rfl 5 (by decide) (hT _ w53) (fun _ h9 => h9) (by show some (va_rf (((sT (sT R i 5 (some k)) i 6 (some (kAt k))) i 5).map kA)) = _; rw [f36]; rfl) (fh_d d_Rd_readHead 49 rfl) ?_
      refine vk_getf (own := "FormulaSetter$Reader") (ref := "FormulaSetter$Kind") hx hb (((hEn _ hRO).1 k hk.2).2.2.2.2) hS hown (hT _ w1245) (fun _ h9 => h9) (fh_d d_Rd_readHead 50 rfl) ?_
      refine fh_put (own := "FormulaSetter$Reader") (ref := "FormulaSetter$Nucleus") (C := "FormulaSetter$Nucleus") (T := T_Nu) (N := 15) (v := .int (kO k)) (ty := .int) hx hb hT i_Nu t_Nu k_Nu n_Nu hown hK hP hS (mkR_nu (hi)) rfl 7 (by decide) (hT _ w59) (fun _ h9 => h9) rfl (by decide +kernel) rfl rfl (Nat.le_of_ble_eq_true rfl) (fh_d d_Rd_readHead 51 rfl) (fun H locs hP hS => ?_)
      replace hP := fh_P.eq (h' := mkR x kA aA g nc lc (.ref (x + 1)) (nI L) (nI (cmdA (sk f L a) (some k))) (sT C i 7 (kO k)) (sT (sT R i 5 (some k)) i 6 (some (kAt k))) CL RL) hP (mkR_nu7 (v := kO k) (hi))
      have f38 : (sT C i 7 (kO k)) i 7 = kO k := sT_same
      refine lv_aload_n hx hb (fh_d d_Rd_readHead 52 rfl) rfl (lv_at hl 2 rfl) ?_
      refine fh_get (own := "FormulaSetter$Reader") (ref := "FormulaSetter$Nucleus") (C := "FormulaSetter$Nucleus") (T := T_Nu) (N := 15) (v := .ref (aA (kAt k))) hx hb hT i_Nu hown hK hP (mkR_nu (hi)) rfl 6 (by decide) (hT _ w57) (fun _ h9 => h9) (by show some (va_rf (((sT (sT R i 5 (some k)) i 6 (some (kAt k))) i 6).map aA)) = _; rw [f37]; rfl) (fh_d d_Rd_readHead 53 rfl) ?_
      refine lv_ifnull hx hb (fh_d d_Rd_readHead 54 rfl) ?_
      refine lv_iconst (v := 1) hx hb (fh_d d_Rd_readHead 55 rfl) (by decide) ?_
      refine lv_goto (tgt := 120) hx hb (fh_d d_Rd_readHead 56 rfl) rfl ?_
      exact fh_zret X hP hS (fh_d d_Rd_readHead 58 rfl) (by decide) ⟨rfl, Or.inl ⟨k, _, _, _, by unfold rdHead; rw [if_pos c3, hq0]; try rfl, rfl, by first | rfl | (rw [sT_up]; rfl) | rw [sT_up]⟩⟩
