/-! The Reader: readNucleus. Printed by wip/whole/gen/p52.py -/
theorem chA_lt {c : Int32} {t : Nat} (h : chA c = some t) : t < 8 ∧ ¬ c = 0 := by
  refine ⟨?_, fun z => ?_⟩
  · unfold chA at h
    split at h
    · obtain rfl := Option.some.inj h; decide
    · split at h
      · obtain rfl := Option.some.inj h; decide
      · split at h
        · obtain rfl := Option.some.inj h; decide
        · split at h
          · obtain rfl := Option.some.inj h; decide
          · split at h
            · obtain rfl := Option.some.inj h; decide
            · split at h
              · obtain rfl := Option.some.inj h; decide
              · exact absurd h (by simp)
  · rw [z, show chA 0 = none from by decide] at h; exact absurd h (by simp)
theorem kAt_lt : ∀ k, k < 11 → kAt k < 8 := by decide
theorem rdHead_ok {f : Nat → Int32} {L a k a' t : Nat} {cd : Int32} (h : rdHead f L a = some (k, a', cd, t)) : a < a' ∧ a' ≤ L ∧ k < 11 ∧ t < 8 := by
  unfold rdHead at h
  by_cases q : hre f L a = 92
  · rw [if_pos q] at h
    rcases hq0 : cmdK f L a 0 with _ | z
    · rw [hq0] at h; exact absurd h (by simp)
    · rw [hq0] at h
      have h2 := cmdK_ok _ 0 z rfl hq0
      have h3 := h2.2.2.2.2.1
      have e := Option.some.inj h
      rw [Prod.mk.injEq, Prod.mk.injEq, Prod.mk.injEq] at e
      obtain ⟨rfl, rfl, -, rfl⟩ := e
      refine ⟨?_, ?_, h2.2.1, kAt_lt _ h2.2.1⟩
      · show a < a + (_ + 1); omega
      · show a + (_ + 1) ≤ L; omega
  · rw [if_neg q] at h
    by_cases q2 : hre f L a = 123
    · rw [if_pos q2] at h
      have e := Option.some.inj h
      rw [Prod.mk.injEq, Prod.mk.injEq, Prod.mk.injEq] at e
      obtain ⟨rfl, rfl, -, rfl⟩ := e
      have := hre_lt (f := f) (L := L) (k := a) (by rw [q2]; decide)
      exact ⟨by omega, by omega, by decide, by decide⟩
    · rw [if_neg q2] at h
      rcases hq1 : chA (hre f L a) with _ | z
      · rw [hq1] at h; exact absurd h (by simp)
      · rw [hq1] at h
        have h2 := chA_lt hq1
        have e := Option.some.inj h
        rw [Prod.mk.injEq, Prod.mk.injEq, Prod.mk.injEq] at e
        obtain ⟨rfl, rfl, -, rfl⟩ := e
        have := hre_lt h2.2
        exact ⟨by omega, by omega, by decide, h2.1⟩
set_option maxHeartbeats 4000000 in
set_option maxRecDepth 100000 in
theorem m_Rd_readNucleus (l : Launch) (D : va_G) (ct : Nat → ClassId) (b : Nat) (RO : State → Prop) (hR : fh_R b RO) (sA sV : Nat → Nat) (hSt : ∀ U, RO U → ro_S b sA sV U) (kA aA yA : Nat → Nat) (tK tS tM : Nat) (hEn : ∀ U, RO U → ro_E b sA kA aA yA tK tS tM U) (hAd : ad_ok kA aA yA) (n x : Nat) (g : fh_H) (f : Nat → Int32) (L : Nat) (hL : L ≤ 160) (hg1 : g (x + 1) = some (.inl (ct 1, 160, .inl f))) (hf7 : ∀ j, f j = (nI (ixI (f j))) ∧ ixI (f j) < 128) (hg3 : g (x + 3) = some (.inl (ct 4, 60, fh_q (rd_F (x + 4) 60)))) (N1 L1 : RT → Option RT) (dp r0 : Nat) (hN1 : cN l D ct b RO kA aA n x g L (dp + 1) r0 N1) (hB0 : bN L N1) (hL1 : cL l D ct b RO kA aA n x g L (dp + 1) r0 L1) (hB1 : bL L L1) (hdp : dp ≤ 6) (r : Nat) (hr : r0 + 3 ≤ r) (hr7 : 7 ≤ r) (nc lc a : Nat) (C : Nat → Nat → Int32) (R : Nat → Nat → Option Nat) (CL : Nat → Nat → Int32) (RL : Nat → Nat → Option Nat) (hnc : nc ≤ 60) (hlc : lc ≤ 161) (hal : a ≤ L) (hok : okR C CL) : fh_C l D fh_cl (fh_tys ct) b RO y_Rd_readNucleus (Cond.code y_Rd_readNucleus c_Rd_readNucleus 3 (Option.some (FieldType.object "FormulaSetter$Nucleus")) :: fh_T) (fh_rm r 0 0) [.ref (x + 2), .int (nI dp)] (mkR x kA aA g (nI nc) (nI lc) (.ref (x + 1)) (nI L) (nI a) C R CL RL) n (rdP x kA aA g L n (x + 4 + nc) (pNu f L N1 L1 (nc, lc, a, C, R, CL, RL))) 0 0 := by
  refine fh_enter (by decide) (Nat.le_of_ble_eq_true rfl) [(0, .ref (x + 2)), (1, .int (nI dp))] rfl ?_
  intro p e s m args below meth c H ls X hP hS hl
  have hx := X.1
  have hb := X.2.1
  have hml := X.2.2.1
  have hown : s.vm.findClass "FormulaSetter$Reader" = some m.cls := X.2.2.2.1
  have hT := X.2.2.2.2.1
  have hK := X.2.2.2.2.2.1
  have hRO := X.2.2.2.2.2.2.1
  have hnm : meth.name = "readNucleus" := X.2.2.2.2.2.2.2.2.2.2
  have hf : ∀ j, f j = (nI (ixI (f j))) ∧ ixI (f j) < 256 := fun j => ⟨(hf7 j).1, by have := (hf7 j).2; omega⟩
  refine lv_iload_n hx hb (fh_d d_Rd_readNucleus 0 rfl) rfl (lv_at hl 1 rfl) ?_
  refine lv_bipush (v := 6) hx hb (fh_d d_Rd_readNucleus 1 rfl) (by decide) ?_
  refine lv_icmp_le (tgt := 8) hx hb (fh_d d_Rd_readNucleus 2 rfl) rfl (fun c1 => ?_) (fun c1 => absurd c1 (fun c9 => c1 ((nI_leI (a := dp) (b := 6) (by omega) (by decide)).mpr hdp)))
  refine lv_aload_n hx hb (fh_d d_Rd_readNucleus 5 rfl) rfl (lv_at hl 0 rfl) ?_
  refine fh_callV (cc' := c_Rd_freshNucleus) (nL' := 2) (rest := []) (a := x + 2) (As := []) X hR (m_Rd_freshNucleus l D ct b RO hR (r - 1) (by omega) n x kA aA g C R CL RL (nI lc) (nI L) (nI a) nc hnc hg3) w387 w384 w386 v7 w2 ⟨by decide, by decide, by show _ = some 0; decide +kernel⟩ (by omega) (by decide) (fh_recv hK hP mkR_rd rfl) hP hS hl.1 rfl (by exact Nat.le_of_ble_eq_true rfl) (fh_d d_Rd_readNucleus 6 rfl) ⟨Nat.le_refl _, Nat.le_refl _⟩ (fun v9 h9 n9 H locs hq hP hS => ?_)
  obtain ⟨ua, ⟨hn60, rfl, ub⟩ | ⟨hn60, rfl, ub⟩⟩ := hq
  · rw [ua, ub] at hP
    refine W.eq (g2 := F0 m 12 ls [.ref (x + 4 + nc)]) rfl ?_
    refine lv_astore_n (lv' := [(2, .ref (x + 4 + nc)), (0, .ref (x + 2)), (1, .int (nI dp))]) hx hb (fh_d d_Rd_readNucleus 7 rfl) rfl hl (by decide) rfl (fun ls hl => ?_)
    refine lv_aload_n hx hb (fh_d d_Rd_readNucleus 8 rfl) rfl (lv_at hl 0 rfl) ?_
    refine lv_ifnull hx hb (fh_d d_Rd_readNucleus 9 rfl) ?_
    refine lv_aload_n hx hb (fh_d d_Rd_readNucleus 10 rfl) rfl (lv_at hl 1 rfl) ?_
    refine lv_aload_n hx hb (fh_d d_Rd_readNucleus 11 rfl) rfl (lv_at hl 0 rfl) ?_
    refine fh_callV (cc' := c_Rd_readHead) (nL' := 3) (rest := []) (a := x + 2) (As := [.ref (x + 4 + nc)]) X hR (m_Rd_readHead l D ct b RO hR sA sV hSt kA aA yA tK tS tM hEn hAd (r - 1) (by omega) n x g (nu_c C nc) (nu_r R nc) CL RL (nI (nc + 1)) (nI lc) f L a hL (by omega) hg1 hf7 nc hn60 (by repeat' first | assumption | apply okR_7 | apply okR_8 | apply okR_nu | apply okR_li | apply okR_l6 | apply okR_l7 | omega)) w395 w392 w394 v8 w2 ⟨by decide, by decide, by show _ = some 1; decide +kernel⟩ (by omega) (by decide) (fh_recv hK hP mkR_rd rfl) hP hS hl.1 rfl (by exact Nat.le_of_ble_eq_true rfl) (fh_d d_Rd_readNucleus 12 rfl) ⟨Nat.le_refl _, Nat.le_refl _⟩ (fun v9 h9 n9 H locs hq hP hS => ?_)
    obtain ⟨uc, ⟨k, a', cd, t, eh, rfl, ud⟩ | ⟨eh, rfl, nc9, lc9, a9, C9, R9, CL9, RL9, ud, uk9⟩⟩ := hq
    · rw [uc, ud] at hP
      have hh := rdHead_ok eh
      refine lv_if_eq (tgt := 34) hx hb (fh_d d_Rd_readNucleus 13 rfl) rfl (fun c3 => absurd c3 (by decide)) (fun c3 => ?_)
      refine lv_aload_n hx hb (fh_d d_Rd_readNucleus 14 rfl) rfl (lv_at hl 1 rfl) ?_
      refine lv_aload_n hx hb (fh_d d_Rd_readNucleus 15 rfl) rfl (lv_at hl 0 rfl) ?_
      refine lv_iload_n hx hb (fh_d d_Rd_readNucleus 16 rfl) rfl (lv_at hl 2 rfl) ?_
      refine fh_callV (cc' := c_Rd_readParts) (nL' := 3) (rest := []) (a := x + 2) (As := [.ref (x + 4 + nc), .int (nI dp)]) X hR (m_Rd_readParts l D ct b RO hR sA sV hSt kA aA yA tK tS tM hEn hAd n x g f L hL hg1 hf7 N1 L1 dp r0 hN1 hB0 hL1 hB1 (r - 1) (by omega) (by omega) nc hn60 (nc + 1) lc a' (sT (nu_c C nc) nc 7 cd) (sT (sT (nu_r R nc) nc 5 (some k)) nc 6 (some t)) CL RL (by omega) hlc hh.2.1 (by repeat' first | assumption | apply okR_7 | apply okR_8 | apply okR_nu | apply okR_li | apply okR_l6 | apply okR_l7 | omega) k hh.2.2.1 ((sT_ne (by omega)).trans sT_same)) w507 w504 w506 v10 w2 ⟨by decide, by decide, by show _ = some 2; decide +kernel⟩ (by omega) (by decide) (fh_recv hK hP mkR_rd rfl) hP hS hl.1 rfl (by exact Nat.le_of_ble_eq_true rfl) (fh_d d_Rd_readNucleus 17 rfl) ⟨Nat.le_refl _, Nat.le_refl _⟩ (fun v9 h9 n9 H locs hq hP hS => ?_)
      obtain ⟨ue, ⟨nc9, lc9, a9, C9, R9, CL9, RL9, e9, rfl, uf⟩ | ⟨e9, rfl, nc9, lc9, a9, C9, R9, CL9, RL9, uf, uk9⟩⟩ := hq
      · rw [ue, uf] at hP
        refine lv_if_ne (tgt := 36) hx hb (fh_d d_Rd_readNucleus 18 rfl) rfl (fun c4 => ?_) (fun c4 => absurd c4 (by decide))
        refine lv_aload_n hx hb (fh_d d_Rd_readNucleus 21 rfl) rfl (lv_at hl 0 rfl) ?_
        exact fh_aret (r := some (x + 4 + nc)) X hP hS (fh_d d_Rd_readNucleus 22 rfl) ⟨rfl, Or.inl ⟨_, _, _, _, _, _, _, by simp only [pNu, if_pos hn60, eh, Option.bind_some]; exact e9, rfl, rfl⟩⟩
      · rw [ue, uf] at hP
        refine lv_if_ne (tgt := 36) hx hb (fh_d d_Rd_readNucleus 18 rfl) rfl (fun c5 => absurd c5 (Classical.not_not.mpr rfl)) (fun c5 => ?_)
        refine lv_null hx hb (fh_d d_Rd_readNucleus 19 rfl) ?_
        exact fh_aret (r := none) X hP hS (fh_d d_Rd_readNucleus 20 rfl) ⟨rfl, Or.inr ⟨by simp only [pNu, if_pos hn60, eh, Option.bind_some]; exact e9, rfl, rdF_mk (by repeat' first | assumption | apply okR_7 | apply okR_8 | apply okR_nu | apply okR_li | apply okR_l6 | apply okR_l7 | omega)⟩⟩
    · rw [uc, ud] at hP
      refine lv_if_eq (tgt := 34) hx hb (fh_d d_Rd_readNucleus 13 rfl) rfl (fun c6 => ?_) (fun c6 => absurd c6 (Classical.not_not.mpr rfl))
      refine lv_null hx hb (fh_d d_Rd_readNucleus 19 rfl) ?_
      exact fh_aret (r := none) X hP hS (fh_d d_Rd_readNucleus 20 rfl) ⟨rfl, Or.inr ⟨by simp only [pNu, if_pos hn60, eh, Option.bind_none], rfl, rdF_mk (by repeat' first | assumption | apply okR_7 | apply okR_8 | apply okR_nu | apply okR_li | apply okR_l6 | apply okR_l7 | omega)⟩⟩
  · rw [ua, ub] at hP
    refine W.eq (g2 := F0 m 12 ls [.null]) rfl ?_
    refine lv_astore_nN (lv' := [(2, .null), (0, .ref (x + 2)), (1, .int (nI dp))]) hx hb (fh_d d_Rd_readNucleus 7 rfl) rfl hl (by decide) rfl (fun ls hl => ?_)
    refine lv_aload_nN hx hb (fh_d d_Rd_readNucleus 8 rfl) rfl (lv_at hl 0 rfl) ?_
    refine lv_ifnullN (tgt := 34) hx hb (fh_d d_Rd_readNucleus 9 rfl) rfl ?_
    refine lv_null hx hb (fh_d d_Rd_readNucleus 19 rfl) ?_
    exact fh_aret (r := none) X hP hS (fh_d d_Rd_readNucleus 20 rfl) ⟨rfl, Or.inr ⟨by simp only [pNu, if_neg (show ¬ nc < 60 by omega)], rfl, rdF_mk (by repeat' first | assumption | apply okR_7 | apply okR_8 | apply okR_nu | apply okR_li | apply okR_l6 | apply okR_l7 | omega)⟩⟩

set_option maxHeartbeats 4000000 in
set_option maxRecDepth 100000 in
theorem m_Rd_readNucleus0 (l : Launch) (D : va_G) (ct : Nat → ClassId) (b : Nat) (RO : State → Prop) (hR : fh_R b RO) (sA sV : Nat → Nat) (hSt : ∀ U, RO U → ro_S b sA sV U) (kA aA yA : Nat → Nat) (tK tS tM : Nat) (hEn : ∀ U, RO U → ro_E b sA kA aA yA tK tS tM U) (hAd : ad_ok kA aA yA) (n x : Nat) (g : fh_H) (f : Nat → Int32) (L : Nat) (hL : L ≤ 160) (hg1 : g (x + 1) = some (.inl (ct 1, 160, .inl f))) (hf7 : ∀ j, f j = (nI (ixI (f j))) ∧ ixI (f j) < 128) (dp : Nat) (hdp : 7 ≤ dp) (hdp2 : dp ≤ 100) (r : Nat) (nc lc a : Nat) (C : Nat → Nat → Int32) (R : Nat → Nat → Option Nat) (CL : Nat → Nat → Int32) (RL : Nat → Nat → Option Nat) (hok : okR C CL) : fh_C l D fh_cl (fh_tys ct) b RO y_Rd_readNucleus (Cond.code y_Rd_readNucleus c_Rd_readNucleus 3 (Option.some (FieldType.object "FormulaSetter$Nucleus")) :: fh_T) (fh_rm r 0 0) [.ref (x + 2), .int (nI dp)] (mkR x kA aA g (nI nc) (nI lc) (.ref (x + 1)) (nI L) (nI a) C R CL RL) n (rdP x kA aA g L n (x + 4 + nc) none) 0 0 := by
  refine fh_enter (by decide) (Nat.le_of_ble_eq_true rfl) [(0, .ref (x + 2)), (1, .int (nI dp))] rfl ?_
  intro p e s m args below meth c H ls X hP hS hl
  have hx := X.1
  have hb := X.2.1
  have hml := X.2.2.1
  have hown : s.vm.findClass "FormulaSetter$Reader" = some m.cls := X.2.2.2.1
  have hT := X.2.2.2.2.1
  have hK := X.2.2.2.2.2.1
  have hRO := X.2.2.2.2.2.2.1
  have hnm : meth.name = "readNucleus" := X.2.2.2.2.2.2.2.2.2.2
  have hf : ∀ j, f j = (nI (ixI (f j))) ∧ ixI (f j) < 256 := fun j => ⟨(hf7 j).1, by have := (hf7 j).2; omega⟩
  refine lv_iload_n hx hb (fh_d d_Rd_readNucleus 0 rfl) rfl (lv_at hl 1 rfl) ?_
  refine lv_bipush (v := 6) hx hb (fh_d d_Rd_readNucleus 1 rfl) (by decide) ?_
  refine lv_icmp_le (tgt := 8) hx hb (fh_d d_Rd_readNucleus 2 rfl) rfl (fun c1 => absurd c1 (fun c9 => absurd ((nI_leI (a := dp) (b := 6) (by omega) (by decide)).mp c9) (by omega))) (fun c1 => ?_)
  refine lv_null hx hb (fh_d d_Rd_readNucleus 3 rfl) ?_
  exact fh_aret (r := none) X hP hS (fh_d d_Rd_readNucleus 4 rfl) ⟨rfl, Or.inr ⟨rfl, rfl, rdF_mk (by repeat' first | assumption | apply okR_7 | apply okR_8 | apply okR_nu | apply okR_li | apply okR_l6 | apply okR_l7 | omega)⟩⟩
