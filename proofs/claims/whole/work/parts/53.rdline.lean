/-! The Reader: readLine. Printed by wip/whole/gen/p53.py -/
/-- what reading a nucleus leaves as it was, and what it makes -/
def gN (L : Nat) (N : RT → Option RT) : Prop := ∀ (nc lc a : Nat) (C : Nat → Nat → Int32) (R : Nat → Nat → Option Nat) (CL : Nat → Nat → Int32) (RL : Nat → Nat → Option Nat) (nc' lc' a' : Nat) (C' : Nat → Nat → Int32) (R' : Nat → Nat → Option Nat) (CL' : Nat → Nat → Int32) (RL' : Nat → Nat → Option Nat), nc ≤ 60 → lc ≤ 161 → a ≤ L → N (nc, lc, a, C, R, CL, RL) = some (nc', lc', a', C', R', CL', RL') → nc < nc' ∧ (∀ q c, q < nc → R' q c = R q c) ∧ (∀ q c, q < lc → RL' q c = RL q c) ∧ (∃ t, t < 8 ∧ R' nc 6 = some t) ∧ R' nc 14 = none
theorem pScr_ok {f : Nat → Int32} {L : Nat} {N1 : RT → Option RT} {i : Nat} (hB : bN L N1) (hG : gN L N1) : ∀ (k : Nat) (nc lc a : Nat) (C : Nat → Nat → Int32) (R : Nat → Nat → Option Nat) (CL : Nat → Nat → Int32) (RL : Nat → Nat → Option Nat) (nc' lc' a' : Nat) (C' : Nat → Nat → Int32) (R' : Nat → Nat → Option Nat) (CL' : Nat → Nat → Int32) (RL' : Nat → Nat → Option Nat), nc ≤ 60 → lc ≤ 161 → a ≤ L → okR C CL → i < nc → pScr f L N1 i k (nc, lc, a, C, R, CL, RL) = some (nc', lc', a', C', R', CL', RL') → nc ≤ nc' ∧ nc' ≤ 60 ∧ lc ≤ lc' ∧ lc' ≤ 161 ∧ a' ≤ L ∧ (∀ q c, q < nc → ¬ (q = i ∧ (c = 12 ∨ c = 13)) → R' q c = R q c) ∧ (∀ q c, q < lc → RL' q c = RL q c) ∧ okR C' CL'
  | 0, nc, lc, a, C, R, CL, RL, nc', lc', a', C', R', CL', RL', hnc, hlc, hal, hok, hi, h => by
    have e := Option.some.inj h
    simp only [Prod.mk.injEq] at e
    obtain ⟨rfl, rfl, rfl, rfl, rfl, rfl, rfl⟩ := e
    exact ⟨Nat.le_refl _, hnc, Nat.le_refl _, hlc, hal, fun _ _ _ _ => rfl, fun _ _ _ => rfl, hok⟩
  | k + 1, nc, lc, a, C, R, CL, RL, nc', lc', a', C', R', CL', RL', hnc, hlc, hal, hok, hi, h => by
    have hs := (sk_ge f L _ a rfl).2 hal
    unfold pScr at h
    by_cases q : hre f L (sk f L a) = 94
    · rw [if_pos q] at h
      have hlt := hre_lt (f := f) (L := L) (k := sk f L a) (by rw [q]; decide)
      by_cases q2 : R i 12 = none
      · rw [if_pos q2] at h
        rcases e1 : N1 (nc, lc, sk f L a + 1, C, R, CL, RL) with _ | ⟨nc1, lc1, a1, C1, R1, CL1, RL1⟩
        · rw [e1] at h; exact absurd h (by simp)
        · rw [e1] at h
          have h1 := hB _ _ _ _ _ _ _ _ _ _ _ _ _ _ hnc hlc (by omega) hok e1
          have h2 := hG _ _ _ _ _ _ _ _ _ _ _ _ _ _ hnc hlc (by omega) e1
          have h3 := pScr_ok hB hG k _ _ _ _ _ _ _ _ _ _ _ _ _ _ h1.2.1 h1.2.2.2.1 h1.2.2.2.2.1 h1.2.2.2.2.2 (by omega) h
          refine ⟨by omega, h3.2.1, by omega, h3.2.2.2.1, h3.2.2.2.2.1, fun z w hz hw => ?_, fun z w hz => ?_, h3.2.2.2.2.2.2.2⟩
          · rw [h3.2.2.2.2.2.1 z w (by omega) hw, sT_ne (by omega)]
            exact h2.2.1 z w hz
          · rw [h3.2.2.2.2.2.2.1 z w (by omega)]
            exact h2.2.2.1 z w hz
      · rw [if_neg q2] at h; exact absurd h (by simp)
    · rw [if_neg q] at h
      by_cases q1 : hre f L (sk f L a) = 95
      · rw [if_pos q1] at h
        have hlt := hre_lt (f := f) (L := L) (k := sk f L a) (by rw [q1]; decide)
        by_cases q2 : R i 13 = none
        · rw [if_pos q2] at h
          rcases e1 : N1 (nc, lc, sk f L a + 1, C, R, CL, RL) with _ | ⟨nc1, lc1, a1, C1, R1, CL1, RL1⟩
          · rw [e1] at h; exact absurd h (by simp)
          · rw [e1] at h
            have h1 := hB _ _ _ _ _ _ _ _ _ _ _ _ _ _ hnc hlc (by omega) hok e1
            have h2 := hG _ _ _ _ _ _ _ _ _ _ _ _ _ _ hnc hlc (by omega) e1
            have h3 := pScr_ok hB hG k _ _ _ _ _ _ _ _ _ _ _ _ _ _ h1.2.1 h1.2.2.2.1 h1.2.2.2.2.1 h1.2.2.2.2.2 (by omega) h
            refine ⟨by omega, h3.2.1, by omega, h3.2.2.2.1, h3.2.2.2.2.1, fun z w hz hw => ?_, fun z w hz => ?_, h3.2.2.2.2.2.2.2⟩
            · rw [h3.2.2.2.2.2.1 z w (by omega) hw, sT_ne (by omega)]
              exact h2.2.1 z w hz
            · rw [h3.2.2.2.2.2.2.1 z w (by omega)]
              exact h2.2.2.1 z w hz
        · rw [if_neg q2] at h; exact absurd h (by simp)
      · rw [if_neg q1] at h
        have e := Option.some.inj h
        simp only [Prod.mk.injEq] at e
        obtain ⟨rfl, rfl, rfl, rfl, rfl, rfl, rfl⟩ := e
        exact ⟨Nat.le_refl _, hnc, Nat.le_refl _, hlc, hs, fun _ _ _ _ => rfl, fun _ _ _ => rfl, hok⟩
theorem nxL_last {R : Nat → Nat → Option Nat} {q : Nat} : ∀ its : List Nat, nxL R its → its.getLast? = some q → R q 14 = none
  | [], _, h => nomatch h
  | [a], hn, h => by obtain rfl := Option.some.inj h; exact hn.1
  | a :: b :: t, hn, h => nxL_last (b :: t) hn.2 (by rw [List.getLast?_cons_cons] at h; exact h)
theorem nxL_snoc {R R' : Nat → Nat → Option Nat} {q z : Nat} (hq : R q 14 = none) (hq2 : R' q 14 = some z) (hz : R' z 14 = none) : ∀ its : List Nat, nxL R its → its.getLast? = some q → (∀ i ∈ its, i ≠ q → R' i 14 = R i 14) → nxL R' (its ++ [z])
  | [], _, h, _ => nomatch h
  | [a], hn, h, hk => by obtain rfl := Option.some.inj h; exact ⟨hq2, hz, trivial⟩
  | a :: b :: t, hn, h, hk => by
    have ha : a ≠ q := fun e => by
      have h1 : R a 14 = some b := hn.1
      rw [e, hq] at h1; exact nomatch h1
    refine ⟨?_, nxL_snoc hq hq2 hz (b :: t) hn.2 (by rw [List.getLast?_cons_cons] at h; exact h) (fun i hi => hk i (List.mem_cons_of_mem _ hi))⟩
    rw [hk a List.mem_cons_self ha]; exact hn.1
theorem head_snoc {its : List Nat} {q z : Nat} (h : its.getLast? = some q) : (its ++ [z]).head? = its.head? := by
  cases its with
  | nil => exact nomatch h
  | cons a t => rfl
set_option maxHeartbeats 4000000 in
set_option maxRecDepth 100000 in
theorem m_Rd_readLine (l : Launch) (D : va_G) (ct : Nat → ClassId) (b : Nat) (RO : State → Prop) (hR : fh_R b RO) (sA sV : Nat → Nat) (hSt : ∀ U, RO U → ro_S b sA sV U) (kA aA yA : Nat → Nat) (tK tS tM : Nat) (hEn : ∀ U, RO U → ro_E b sA kA aA yA tK tS tM U) (hAd : ad_ok kA aA yA) (n x : Nat) (g : fh_H) (f : Nat → Int32) (L : Nat) (hL : L ≤ 160) (hg1 : g (x + 1) = some (.inl (ct 1, 160, .inl f))) (hf7 : ∀ j, f j = (nI (ixI (f j))) ∧ ixI (f j) < 128) (hg6 : g (x + 64) = some (.inl (ct 5, 161, fh_q (rd_F (x + 65) 161)))) (N N1 : RT → Option RT) (dp rN r0 : Nat) (hN : cN l D ct b RO kA aA n x g L dp rN N) (hB : bN L N) (hG : gN L N) (hN1 : cN l D ct b RO kA aA n x g L (dp + 1) r0 N1) (hB1 : bN L N1) (hG1 : gN L N1) (r : Nat) (hr : rN + 1 ≤ r) (hr0 : r0 + 2 ≤ r) (hr6 : 6 ≤ r) (nc lc a : Nat) (C : Nat → Nat → Int32) (R : Nat → Nat → Option Nat) (CL : Nat → Nat → Int32) (RL : Nat → Nat → Option Nat) (hnc : nc ≤ 60) (hlc : lc ≤ 161) (hal : a ≤ L) (hok : okR C CL) : fh_C l D fh_cl (fh_tys ct) b RO y_Rd_readLine (Cond.code y_Rd_readLine c_Rd_readLine 6 (Option.some (FieldType.object "FormulaSetter$Line")) :: fh_T) (fh_rm r 0 0) [.ref (x + 2), .int (nI dp)] (mkR x kA aA g (nI nc) (nI lc) (.ref (x + 1)) (nI L) (nI a) C R CL RL) n (rdP x kA aA g L n (x + 65 + lc) (pLn f L N N1 (nc, lc, a, C, R, CL, RL))) 0 0 := by
  refine fh_enter (by decide) (Nat.le_of_ble_eq_true rfl) [(0, .ref (x + 2)), (1, .int (nI dp))] rfl ?_
  intro p e s m args below meth c H ls X hP hS hl
  have hx := X.1
  have hb := X.2.1
  have hml := X.2.2.1
  have hown : s.vm.findClass "FormulaSetter$Reader" = some m.cls := X.2.2.2.1
  have hT := X.2.2.2.2.1
  have hK := X.2.2.2.2.2.1
  have hRO := X.2.2.2.2.2.2.1
  have hnm : meth.name = "readLine" := X.2.2.2.2.2.2.2.2.2.2
  have hf : ∀ j, f j = (nI (ixI (f j))) ∧ ixI (f j) < 256 := fun j => ⟨(hf7 j).1, by have := (hf7 j).2; omega⟩
  obtain ⟨j, hj⟩ : ∃ z, z = lc := ⟨_, rfl⟩
  obtain ⟨Q0, hQ0⟩ : ∃ z, z = pLn f L N N1 (nc, lc, a, C, R, CL, RL) := ⟨_, rfl⟩
  rw [← hQ0]
  have loop : ∀ (t i0 : Nat), i0 + t = 61 → ∀ (its : List Nat) (nc lc a : Nat) (C : Nat → Nat → Int32) (R : Nat → Nat → Option Nat) (CL : Nat → Nat → Int32) (RL : Nat → Nat → Option Nat), its.length = i0 → i0 ≤ nc → nc ≤ 60 → lc ≤ 161 → a ≤ L → okR C CL → j < lc → RL j 5 = its.head? → nxL R its → (∀ i ∈ its, i < nc ∧ ∃ t, t < 8 ∧ R i 6 = some t) → pLine f L N N1 j t its (nc, lc, a, C, R, CL, RL) = Q0 → ∀ (H : Heap) (locs : List Loc) (ls : Array Slot), fh_P D fh_cl b (mkR x kA aA g (nI nc) (nI lc) (.ref (x + 1)) (nI L) (nI a) C R CL RL) n H → va_S (fh_A b) s.heap H locs → lv_has ls 6 [(4, .int (nI i0)), (3, va_rf (its.getLast?.map (fun z => x + 4 + z))), (2, .ref (x + 65 + j)), (0, .ref (x + 2)), (1, .int (nI dp))] → W p l e (fh_rm r 0 0) s m args below meth c H locs 0 0 (MQ below (fh_Post D fh_cl b (rdP x kA aA g L n (x + 65 + j) Q0)) args s 0 0 (fh_A b)) (F0 m 16 ls []) := by
    intro t
    induction t with
    | zero =>
      intro i0 hik its nc lc a C R CL RL hle hi0 hnc hlc hal hok hjl hfi hnx hits hq0 H locs ls hP hS hl
      omega
    | succ t ih =>
      intro i0 hik its nc lc a C R CL RL hle hi0 hnc hlc hal hok hjl hfi hnx hits hq0 H locs ls hP hS hl
      have hsl := (sk_ge f L _ a rfl).2 hal
      rcases hlast : its.getLast? with _ | q
      · rw [hlast] at hl
        have hl : lv_has ls 6 [(4, .int (nI i0)), (3, .null), (2, .ref (x + 65 + j)), (0, .ref (x + 2)), (1, .int (nI dp))] := hl
        refine lv_iload hx hb (fh_d d_Rd_readLine 11 rfl) (lv_at hl 0 rfl) ?_
        refine lv_bipush (v := 60) hx hb (fh_d d_Rd_readLine 12 rfl) (by decide) ?_
        refine lv_icmp_gt (tgt := 82) hx hb (fh_d d_Rd_readLine 13 rfl) rfl (fun c1 => absurd c1 (fun c9 => absurd ((nI_ltI (a := 60) (b := i0) (by decide) (by omega)).mp c9) (by omega))) (fun c1 => ?_)
        refine lv_aload_n hx hb (fh_d d_Rd_readLine 14 rfl) rfl (lv_at hl 3 rfl) ?_
        have hC := m_Rd_isLineEnd l D ct b RO hR sA sV hSt (r - 1) (by omega) n x kA aA g C R CL RL (nI nc) (nI lc) f L a hL (by omega) hg1 hf7
        by_cases qe : lend f L (sk f L a)
        · rw [if_pos qe] at hC
          refine fh_callV (cc' := c_Rd_isLineEnd) (nL' := 2) (rest := []) (a := x + 2) (As := []) X hR (hC) w315 w312 w314 v2 w2 ⟨by decide, by decide, by show _ = some 0; decide +kernel⟩ (by omega) (by decide) (fh_recv hK hP mkR_rd rfl) hP hS hl.1 rfl (by exact Nat.le_of_ble_eq_true rfl) (fh_d d_Rd_readLine 15 rfl) ⟨Nat.le_refl _, Nat.le_refl _⟩ (fun v9 h9 n9 H locs hq hP hS => ?_)
          obtain ⟨rfl, u2, u3⟩ := hq
          rw [u2, u3] at hP
          refine lv_if_ne (tgt := 82) hx hb (fh_d d_Rd_readLine 16 rfl) rfl (fun c4 => ?_) (fun c4 => absurd c4 (by decide))
          refine lv_aload_n hx hb (fh_d d_Rd_readLine 43 rfl) rfl (lv_at hl 2 rfl) ?_
          refine fh_callV (cc' := c_Li_settleAtoms) (nL' := 3) (rest := []) (a := x + 65 + j) (As := []) X hR (m_Li_settleAtoms l D ct b RO sA sV hSt kA aA yA tK tS tM hEn hAd (r - 1) n x g C R CL RL (nI nc) (nI lc) (.ref (x + 1)) (nI L) (nI (sk f L a)) j (by omega) its hfi (fun i hi => by have := (hits i hi).1; omega) hnx (fun i hi => (hits i hi).2)) w541 w538 w539 w540 w5 ⟨by decide, by decide, by show _ = some 0; decide +kernel⟩ (by omega) (by decide) (fh_recv hK hP (mkR_li (by omega)) rfl) hP hS hl.1 rfl (by exact Nat.le_of_ble_eq_true rfl) (fh_d d_Rd_readLine 44 rfl) ⟨Nat.le_refl _, Nat.le_refl _⟩ (fun v9 h9 n9 H locs hq hP hS => ?_)
          obtain ⟨rfl, u5, u6⟩ := hq
          rw [u5, u6] at hP
          refine lv_aload_n hx hb (fh_d d_Rd_readLine 45 rfl) rfl (lv_at hl 2 rfl) ?_
          exact fh_aret (r := some (x + 65 + j)) X hP hS (fh_d d_Rd_readLine 46 rfl) ⟨rfl, Or.inl ⟨_, _, _, _, _, _, _, by rw [← hq0]; simp only [pLine, if_pos qe], rfl, rfl⟩⟩
        · rw [if_neg qe] at hC
          refine fh_callV (cc' := c_Rd_isLineEnd) (nL' := 2) (rest := []) (a := x + 2) (As := []) X hR (hC) w315 w312 w314 v2 w2 ⟨by decide, by decide, by show _ = some 0; decide +kernel⟩ (by omega) (by decide) (fh_recv hK hP mkR_rd rfl) hP hS hl.1 rfl (by exact Nat.le_of_ble_eq_true rfl) (fh_d d_Rd_readLine 15 rfl) ⟨Nat.le_refl _, Nat.le_refl _⟩ (fun v9 h9 n9 H locs hq hP hS => ?_)
          obtain ⟨rfl, u7, u8⟩ := hq
          rw [u7, u8] at hP
          refine lv_if_ne (tgt := 82) hx hb (fh_d d_Rd_readLine 16 rfl) rfl (fun c9 => absurd c9 (Classical.not_not.mpr rfl)) (fun c9 => ?_)
          refine lv_aload_n hx hb (fh_d d_Rd_readLine 17 rfl) rfl (lv_at hl 3 rfl) ?_
          refine lv_iload_n hx hb (fh_d d_Rd_readLine 18 rfl) rfl (lv_at hl 4 rfl) ?_
          refine fh_callV (cc' := c_Rd_readNucleus) (nL' := 3) (rest := []) (a := x + 2) (As := [.int (nI dp)]) X hR (hN (r - 1) (by omega) nc lc (sk f L a) C R CL RL (by omega) (by omega) (by omega) (by repeat' first | assumption | apply okR_7 | apply okR_8 | apply okR_nu | apply okR_li | apply okR_l6 | apply okR_l7 | omega)) w383 w380 w382 v6 w2 ⟨by decide, by decide, by show _ = some 1; decide +kernel⟩ (by omega) (by decide) (fh_recv hK hP mkR_rd rfl) hP hS hl.1 rfl (by exact Nat.le_of_ble_eq_true rfl) (fh_d d_Rd_readLine 19 rfl) ⟨Nat.le_refl _, Nat.le_refl _⟩ (fun v9 h9 n9 H locs hq hP hS => ?_)
          obtain ⟨ua10, ⟨nc_10, lc_10, a_10, C_10, R_10, CL_10, RL_10, e10, rfl, ub10⟩ | ⟨e10, rfl, nc_10, lc_10, a_10, C_10, R_10, CL_10, RL_10, ub10, uk10⟩⟩ := hq
          · rw [ua10, ub10] at hP
            have hB10 := hB _ _ _ _ _ _ _ _ _ _ _ _ _ _ (by omega) (by omega) (by omega) (by repeat' first | assumption | apply okR_7 | apply okR_8 | apply okR_nu | apply okR_li | apply okR_l6 | apply okR_l7 | omega) e10
            have uk10 := hB10.2.2.2.2.2
            have hg1_ := hG _ _ _ _ _ _ _ _ _ _ _ _ _ _ (by omega) (by omega) (by omega) e10
            refine lv_astore (lv' := [(5, .ref (x + 4 + nc)), (4, .int (nI i0)), (3, .null), (2, .ref (x + 65 + j)), (0, .ref (x + 2)), (1, .int (nI dp))]) hx hb (fh_d d_Rd_readLine 20 rfl) hl (by decide) rfl (fun ls hl => ?_)
            refine lv_aload hx hb (fh_d d_Rd_readLine 21 rfl) (lv_at hl 0 rfl) ?_
            refine lv_ifnull hx hb (fh_d d_Rd_readLine 22 rfl) ?_
            refine lv_aload_n hx hb (fh_d d_Rd_readLine 23 rfl) rfl (lv_at hl 4 rfl) ?_
            refine lv_aload hx hb (fh_d d_Rd_readLine 24 rfl) (lv_at hl 0 rfl) ?_
            refine lv_iload_n hx hb (fh_d d_Rd_readLine 25 rfl) rfl (lv_at hl 5 rfl) ?_
            refine fh_callV (cc' := c_Rd_readScripts) (nL' := 6) (rest := []) (a := x + 2) (As := [.ref (x + 4 + nc), .int (nI dp)]) X hR (m_Rd_readScripts l D ct b RO hR sA sV hSt kA aA yA tK tS tM hEn hAd n x g f L hL hg1 hf7 N1 dp r0 hN1 hB1 (r - 1) (by omega) (by omega) nc (by omega) nc_10 lc_10 a_10 C_10 R_10 CL_10 RL_10 (by omega) (by omega) (by omega) (by repeat' first | assumption | apply okR_7 | apply okR_8 | apply okR_nu | apply okR_li | apply okR_l6 | apply okR_l7 | omega)) w537 w534 w536 v15 w2 ⟨by decide, by decide, by show _ = some 2; decide +kernel⟩ (by omega) (by decide) (fh_recv hK hP mkR_rd rfl) hP hS hl.1 rfl (by exact Nat.le_of_ble_eq_true rfl) (fh_d d_Rd_readLine 26 rfl) ⟨Nat.le_refl _, Nat.le_refl _⟩ (fun v9 h9 n9 H locs hq9 hP hS => ?_)
            obtain ⟨ue, ⟨nc9, lc9, a9, C9, R9, CL9, RL9, e9, rfl, uf⟩ | ⟨e9, rfl, nc9, lc9, a9, C9, R9, CL9, RL9, uf, uk9⟩⟩ := hq9
            · rw [ue, uf] at hP
              have h9 := pScr_ok hB1 hG1 2 _ _ _ _ _ _ _ _ _ _ _ _ _ _ (by omega) (by omega) (by omega) (by repeat' first | assumption | apply okR_7 | apply okR_8 | apply okR_nu | apply okR_li | apply okR_l6 | apply okR_l7 | omega) (by omega) e9
              have hr9 : ∀ z w, z < nc → R9 z w = R z w := fun z w hz => (h9.2.2.2.2.2.1 z w (by omega) (by omega)).trans (hg1_.2.1 z w hz)
              have hl9 : ∀ z w, z < lc → RL9 z w = RL z w := fun z w hz => (h9.2.2.2.2.2.2.1 z w (by omega)).trans (hg1_.2.2.1 z w hz)
              obtain ⟨t0, ht0, hat0⟩ := hg1_.2.2.2.1
              have h6 : R9 nc 6 = some t0 := (h9.2.2.2.2.2.1 nc 6 (by omega) (by omega)).trans hat0
              have h14 : R9 nc 14 = none := (h9.2.2.2.2.2.1 nc 14 (by omega) (by omega)).trans hg1_.2.2.2.2
              refine lv_if_ne (tgt := 54) hx hb (fh_d d_Rd_readLine 27 rfl) rfl (fun c12 => ?_) (fun c12 => absurd c12 (by decide))
              refine lv_aload_nN hx hb (fh_d d_Rd_readLine 30 rfl) rfl (lv_at hl 2 rfl) ?_
              refine lv_ifnonnullN hx hb (fh_d d_Rd_readLine 31 rfl) ?_
              refine lv_aload_n hx hb (fh_d d_Rd_readLine 32 rfl) rfl (lv_at hl 3 rfl) ?_
              refine lv_aload hx hb (fh_d d_Rd_readLine 33 rfl) (lv_at hl 0 rfl) ?_
              refine fh_put (own := "FormulaSetter$Reader") (ref := "FormulaSetter$Line") (C := "FormulaSetter$Line") (T := T_Li) (N := 9) (v := .ref (x + 4 + nc)) (ty := (.object "FormulaSetter$Nucleus")) hx hb hT i_Li t_Li k_Li n_Li hown hK hP hS (mkR_li (by omega)) rfl 5 (by decide) (hT _ w155) (fun _ h9 => h9) rfl (by decide +kernel) rfl rfl (Nat.le_of_ble_eq_true rfl) (fh_d d_Rd_readLine 34 rfl) (fun H locs hP hS => ?_)
              replace hP := fh_P.eq (h' := mkR x kA aA g (nI nc9) (nI lc9) (.ref (x + 1)) (nI L) (nI a9) C9 R9 CL9 (sT RL9 j 5 (some nc))) hP (mkR_li5 (v := some nc) (by omega))
              have f14 : (sT RL9 j 5 (some nc)) j 5 = some nc := sT_same
              refine lv_goto (tgt := 73) hx hb (fh_d d_Rd_readLine 35 rfl) rfl ?_
              refine lv_aload hx hb (fh_d d_Rd_readLine 39 rfl) (lv_at hl 0 rfl) ?_
              refine lv_astore_n (lv' := [(3, .ref (x + 4 + nc)), (5, .ref (x + 4 + nc)), (4, .int (nI i0)), (2, .ref (x + 65 + j)), (0, .ref (x + 2)), (1, .int (nI dp))]) hx hb (fh_d d_Rd_readLine 40 rfl) rfl hl (by decide) rfl (fun ls hl => ?_)
              refine lv_iinc (k := 2) (v := (nI i0) + 1) (lv' := [(4, .int ((nI i0) + 1)), (3, .ref (x + 4 + nc)), (5, .ref (x + 4 + nc)), (2, .ref (x + 65 + j)), (0, .ref (x + 2)), (1, .int (nI dp))]) hx hb (fh_d d_Rd_readLine 41 rfl) hl rfl (by rfl) (by decide) rfl (fun ls hl => ?_)
              refine lv_goto (tgt := 16) hx hb (fh_d d_Rd_readLine 42 rfl) rfl ?_
              rw [nI_1] at hl
              refine ih (i0 + 1) (by omega) (its ++ [nc]) _ _ _ _ _ _ _ (by rw [List.length_append, hle]; rfl) (by omega) h9.2.1 h9.2.2.2.1 h9.2.2.2.2.1 h9.2.2.2.2.2.2.2 (by omega) ?_ ?_ ?_ ?_ H _ _ hP hS (by rw [List.getLast?_concat]; exact lv_sub hl [0, 1, 3, 4, 5] rfl)
              · rw [List.getLast?_eq_none_iff.mp hlast]; exact sT_same
              · rw [List.getLast?_eq_none_iff.mp hlast]; exact ⟨h14, trivial⟩
              · intro z hz
                rw [List.getLast?_eq_none_iff.mp hlast] at hz
                obtain rfl := List.mem_singleton.mp hz
                exact ⟨by omega, t0, ht0, h6⟩
              · rw [← hq0]; simp only [pLine, if_neg qe, e10, Option.bind_some, e9, hlast]; rfl
            · rw [ue, uf] at hP
              refine lv_if_ne (tgt := 54) hx hb (fh_d d_Rd_readLine 27 rfl) rfl (fun c15 => absurd c15 (Classical.not_not.mpr rfl)) (fun c15 => ?_)
              refine lv_null hx hb (fh_d d_Rd_readLine 28 rfl) ?_
              exact fh_aret (r := none) X hP hS (fh_d d_Rd_readLine 29 rfl) ⟨rfl, Or.inr ⟨by rw [← hq0]; simp only [pLine, if_neg qe, e10, Option.bind_some, e9, Option.bind_none], rfl, rdF_mk (by repeat' first | assumption | apply okR_7 | apply okR_8 | apply okR_nu | apply okR_li | apply okR_l6 | apply okR_l7 | omega)⟩⟩
          · rw [ua10, ub10] at hP
            refine W.eq (g2 := F0 m 35 ls [.null]) rfl ?_
            refine lv_astoreN (lv' := [(5, .null), (4, .int (nI i0)), (3, .null), (2, .ref (x + 65 + j)), (0, .ref (x + 2)), (1, .int (nI dp))]) hx hb (fh_d d_Rd_readLine 20 rfl) hl (by decide) rfl (fun ls hl => ?_)
            refine lv_aloadN hx hb (fh_d d_Rd_readLine 21 rfl) (lv_at hl 0 rfl) ?_
            refine lv_ifnullN (tgt := 52) hx hb (fh_d d_Rd_readLine 22 rfl) rfl ?_
            refine lv_null hx hb (fh_d d_Rd_readLine 28 rfl) ?_
            exact fh_aret (r := none) X hP hS (fh_d d_Rd_readLine 29 rfl) ⟨rfl, Or.inr ⟨by rw [← hq0]; simp only [pLine, if_neg qe, e10, Option.bind_none], rfl, rdF_mk (by repeat' first | assumption | apply okR_7 | apply okR_8 | apply okR_nu | apply okR_li | apply okR_l6 | apply okR_l7 | omega)⟩⟩
      · rw [hlast] at hl
        have hqm := List.mem_of_getLast? hlast
        have hq := (hits q hqm).1
        have hl : lv_has ls 6 [(4, .int (nI i0)), (3, .ref (x + 4 + q)), (2, .ref (x + 65 + j)), (0, .ref (x + 2)), (1, .int (nI dp))] := hl
        refine lv_iload hx hb (fh_d d_Rd_readLine 11 rfl) (lv_at hl 0 rfl) ?_
        refine lv_bipush (v := 60) hx hb (fh_d d_Rd_readLine 12 rfl) (by decide) ?_
        refine lv_icmp_gt (tgt := 82) hx hb (fh_d d_Rd_readLine 13 rfl) rfl (fun c17 => absurd c17 (fun c9 => absurd ((nI_ltI (a := 60) (b := i0) (by decide) (by omega)).mp c9) (by omega))) (fun c17 => ?_)
        refine lv_aload_n hx hb (fh_d d_Rd_readLine 14 rfl) rfl (lv_at hl 3 rfl) ?_
        have hC := m_Rd_isLineEnd l D ct b RO hR sA sV hSt (r - 1) (by omega) n x kA aA g C R CL RL (nI nc) (nI lc) f L a hL (by omega) hg1 hf7
        by_cases qe : lend f L (sk f L a)
        · rw [if_pos qe] at hC
          refine fh_callV (cc' := c_Rd_isLineEnd) (nL' := 2) (rest := []) (a := x + 2) (As := []) X hR (hC) w315 w312 w314 v2 w2 ⟨by decide, by decide, by show _ = some 0; decide +kernel⟩ (by omega) (by decide) (fh_recv hK hP mkR_rd rfl) hP hS hl.1 rfl (by exact Nat.le_of_ble_eq_true rfl) (fh_d d_Rd_readLine 15 rfl) ⟨Nat.le_refl _, Nat.le_refl _⟩ (fun v9 h9 n9 H locs hq hP hS => ?_)
          obtain ⟨rfl, u18, u19⟩ := hq
          rw [u18, u19] at hP
          refine lv_if_ne (tgt := 82) hx hb (fh_d d_Rd_readLine 16 rfl) rfl (fun c20 => ?_) (fun c20 => absurd c20 (by decide))
          refine lv_aload_n hx hb (fh_d d_Rd_readLine 43 rfl) rfl (lv_at hl 2 rfl) ?_
          refine fh_callV (cc' := c_Li_settleAtoms) (nL' := 3) (rest := []) (a := x + 65 + j) (As := []) X hR (m_Li_settleAtoms l D ct b RO sA sV hSt kA aA yA tK tS tM hEn hAd (r - 1) n x g C R CL RL (nI nc) (nI lc) (.ref (x + 1)) (nI L) (nI (sk f L a)) j (by omega) its hfi (fun i hi => by have := (hits i hi).1; omega) hnx (fun i hi => (hits i hi).2)) w541 w538 w539 w540 w5 ⟨by decide, by decide, by show _ = some 0; decide +kernel⟩ (by omega) (by decide) (fh_recv hK hP (mkR_li (by omega)) rfl) hP hS hl.1 rfl (by exact Nat.le_of_ble_eq_true rfl) (fh_d d_Rd_readLine 44 rfl) ⟨Nat.le_refl _, Nat.le_refl _⟩ (fun v9 h9 n9 H locs hq hP hS => ?_)
          obtain ⟨rfl, u21, u22⟩ := hq
          rw [u21, u22] at hP
          refine lv_aload_n hx hb (fh_d d_Rd_readLine 45 rfl) rfl (lv_at hl 2 rfl) ?_
          exact fh_aret (r := some (x + 65 + j)) X hP hS (fh_d d_Rd_readLine 46 rfl) ⟨rfl, Or.inl ⟨_, _, _, _, _, _, _, by rw [← hq0]; simp only [pLine, if_pos qe], rfl, rfl⟩⟩
        · rw [if_neg qe] at hC
          refine fh_callV (cc' := c_Rd_isLineEnd) (nL' := 2) (rest := []) (a := x + 2) (As := []) X hR (hC) w315 w312 w314 v2 w2 ⟨by decide, by decide, by show _ = some 0; decide +kernel⟩ (by omega) (by decide) (fh_recv hK hP mkR_rd rfl) hP hS hl.1 rfl (by exact Nat.le_of_ble_eq_true rfl) (fh_d d_Rd_readLine 15 rfl) ⟨Nat.le_refl _, Nat.le_refl _⟩ (fun v9 h9 n9 H locs hq hP hS => ?_)
          obtain ⟨rfl, u23, u24⟩ := hq
          rw [u23, u24] at hP
          refine lv_if_ne (tgt := 82) hx hb (fh_d d_Rd_readLine 16 rfl) rfl (fun c25 => absurd c25 (Classical.not_not.mpr rfl)) (fun c25 => ?_)
          refine lv_aload_n hx hb (fh_d d_Rd_readLine 17 rfl) rfl (lv_at hl 3 rfl) ?_
          refine lv_iload_n hx hb (fh_d d_Rd_readLine 18 rfl) rfl (lv_at hl 4 rfl) ?_
          refine fh_callV (cc' := c_Rd_readNucleus) (nL' := 3) (rest := []) (a := x + 2) (As := [.int (nI dp)]) X hR (hN (r - 1) (by omega) nc lc (sk f L a) C R CL RL (by omega) (by omega) (by omega) (by repeat' first | assumption | apply okR_7 | apply okR_8 | apply okR_nu | apply okR_li | apply okR_l6 | apply okR_l7 | omega)) w383 w380 w382 v6 w2 ⟨by decide, by decide, by show _ = some 1; decide +kernel⟩ (by omega) (by decide) (fh_recv hK hP mkR_rd rfl) hP hS hl.1 rfl (by exact Nat.le_of_ble_eq_true rfl) (fh_d d_Rd_readLine 19 rfl) ⟨Nat.le_refl _, Nat.le_refl _⟩ (fun v9 h9 n9 H locs hq hP hS => ?_)
          obtain ⟨ua26, ⟨nc_26, lc_26, a_26, C_26, R_26, CL_26, RL_26, e26, rfl, ub26⟩ | ⟨e26, rfl, nc_26, lc_26, a_26, C_26, R_26, CL_26, RL_26, ub26, uk26⟩⟩ := hq
          · rw [ua26, ub26] at hP
            have hB26 := hB _ _ _ _ _ _ _ _ _ _ _ _ _ _ (by omega) (by omega) (by omega) (by repeat' first | assumption | apply okR_7 | apply okR_8 | apply okR_nu | apply okR_li | apply okR_l6 | apply okR_l7 | omega) e26
            have uk26 := hB26.2.2.2.2.2
            have hg1_ := hG _ _ _ _ _ _ _ _ _ _ _ _ _ _ (by omega) (by omega) (by omega) e26
            refine lv_astore (lv' := [(5, .ref (x + 4 + nc)), (4, .int (nI i0)), (3, .ref (x + 4 + q)), (2, .ref (x + 65 + j)), (0, .ref (x + 2)), (1, .int (nI dp))]) hx hb (fh_d d_Rd_readLine 20 rfl) hl (by decide) rfl (fun ls hl => ?_)
            refine lv_aload hx hb (fh_d d_Rd_readLine 21 rfl) (lv_at hl 0 rfl) ?_
            refine lv_ifnull hx hb (fh_d d_Rd_readLine 22 rfl) ?_
            refine lv_aload_n hx hb (fh_d d_Rd_readLine 23 rfl) rfl (lv_at hl 4 rfl) ?_
            refine lv_aload hx hb (fh_d d_Rd_readLine 24 rfl) (lv_at hl 0 rfl) ?_
            refine lv_iload_n hx hb (fh_d d_Rd_readLine 25 rfl) rfl (lv_at hl 5 rfl) ?_
            refine fh_callV (cc' := c_Rd_readScripts) (nL' := 6) (rest := []) (a := x + 2) (As := [.ref (x + 4 + nc), .int (nI dp)]) X hR (m_Rd_readScripts l D ct b RO hR sA sV hSt kA aA yA tK tS tM hEn hAd n x g f L hL hg1 hf7 N1 dp r0 hN1 hB1 (r - 1) (by omega) (by omega) nc (by omega) nc_26 lc_26 a_26 C_26 R_26 CL_26 RL_26 (by omega) (by omega) (by omega) (by repeat' first | assumption | apply okR_7 | apply okR_8 | apply okR_nu | apply okR_li | apply okR_l6 | apply okR_l7 | omega)) w537 w534 w536 v15 w2 ⟨by decide, by decide, by show _ = some 2; decide +kernel⟩ (by omega) (by decide) (fh_recv hK hP mkR_rd rfl) hP hS hl.1 rfl (by exact Nat.le_of_ble_eq_true rfl) (fh_d d_Rd_readLine 26 rfl) ⟨Nat.le_refl _, Nat.le_refl _⟩ (fun v9 h9 n9 H locs hq9 hP hS => ?_)
            obtain ⟨ue, ⟨nc9, lc9, a9, C9, R9, CL9, RL9, e9, rfl, uf⟩ | ⟨e9, rfl, nc9, lc9, a9, C9, R9, CL9, RL9, uf, uk9⟩⟩ := hq9
            · rw [ue, uf] at hP
              have h9 := pScr_ok hB1 hG1 2 _ _ _ _ _ _ _ _ _ _ _ _ _ _ (by omega) (by omega) (by omega) (by repeat' first | assumption | apply okR_7 | apply okR_8 | apply okR_nu | apply okR_li | apply okR_l6 | apply okR_l7 | omega) (by omega) e9
              have hr9 : ∀ z w, z < nc → R9 z w = R z w := fun z w hz => (h9.2.2.2.2.2.1 z w (by omega) (by omega)).trans (hg1_.2.1 z w hz)
              have hl9 : ∀ z w, z < lc → RL9 z w = RL z w := fun z w hz => (h9.2.2.2.2.2.2.1 z w (by omega)).trans (hg1_.2.2.1 z w hz)
              obtain ⟨t0, ht0, hat0⟩ := hg1_.2.2.2.1
              have h6 : R9 nc 6 = some t0 := (h9.2.2.2.2.2.1 nc 6 (by omega) (by omega)).trans hat0
              have h14 : R9 nc 14 = none := (h9.2.2.2.2.2.1 nc 14 (by omega) (by omega)).trans hg1_.2.2.2.2
              refine lv_if_ne (tgt := 54) hx hb (fh_d d_Rd_readLine 27 rfl) rfl (fun c28 => ?_) (fun c28 => absurd c28 (by decide))
              refine lv_aload_n hx hb (fh_d d_Rd_readLine 30 rfl) rfl (lv_at hl 2 rfl) ?_
              refine lv_ifnonnull (tgt := 67) hx hb (fh_d d_Rd_readLine 31 rfl) rfl ?_
              refine lv_aload_n hx hb (fh_d d_Rd_readLine 36 rfl) rfl (lv_at hl 2 rfl) ?_
              refine lv_aload hx hb (fh_d d_Rd_readLine 37 rfl) (lv_at hl 0 rfl) ?_
              refine fh_put (own := "FormulaSetter$Reader") (ref := "FormulaSetter$Nucleus") (C := "FormulaSetter$Nucleus") (T := T_Nu) (N := 15) (v := .ref (x + 4 + nc)) (ty := (.object "FormulaSetter$Nucleus")) hx hb hT i_Nu t_Nu k_Nu n_Nu hown hK hP hS (mkR_nu (by omega)) rfl 14 (by decide) (hT _ w81) (fun _ h9 => h9) rfl (by decide +kernel) rfl rfl (Nat.le_of_ble_eq_true rfl) (fh_d d_Rd_readLine 38 rfl) (fun H locs hP hS => ?_)
              replace hP := fh_P.eq (h' := mkR x kA aA g (nI nc9) (nI lc9) (.ref (x + 1)) (nI L) (nI a9) C9 (sT R9 q 14 (some nc)) CL9 RL9) hP (mkR_nu14 (v := some nc) (by omega))
              have f30 : (sT R9 q 14 (some nc)) q 14 = some nc := sT_same
              refine lv_aload hx hb (fh_d d_Rd_readLine 39 rfl) (lv_at hl 0 rfl) ?_
              refine lv_astore_n (lv' := [(3, .ref (x + 4 + nc)), (5, .ref (x + 4 + nc)), (4, .int (nI i0)), (2, .ref (x + 65 + j)), (0, .ref (x + 2)), (1, .int (nI dp))]) hx hb (fh_d d_Rd_readLine 40 rfl) rfl hl (by decide) rfl (fun ls hl => ?_)
              refine lv_iinc (k := 2) (v := (nI i0) + 1) (lv' := [(4, .int ((nI i0) + 1)), (3, .ref (x + 4 + nc)), (5, .ref (x + 4 + nc)), (2, .ref (x + 65 + j)), (0, .ref (x + 2)), (1, .int (nI dp))]) hx hb (fh_d d_Rd_readLine 41 rfl) hl rfl (by rfl) (by decide) rfl (fun ls hl => ?_)
              refine lv_goto (tgt := 16) hx hb (fh_d d_Rd_readLine 42 rfl) rfl ?_
              rw [nI_1] at hl
              refine ih (i0 + 1) (by omega) (its ++ [nc]) _ _ _ _ _ _ _ (by rw [List.length_append, hle]; rfl) (by omega) h9.2.1 h9.2.2.2.1 h9.2.2.2.2.1 h9.2.2.2.2.2.2.2 (by omega) ?_ ?_ ?_ ?_ H _ _ hP hS (by rw [List.getLast?_concat]; exact lv_sub hl [0, 1, 3, 4, 5] rfl)
              · rw [head_snoc hlast, hl9 j 5 (by omega)]; exact hfi
              · exact nxL_snoc (nxL_last its hnx hlast) sT_same ((sT_ne (by omega)).trans h14) its hnx hlast (fun z hz hne => (sT_ne (fun w => hne w.1)).trans (hr9 z 14 (hits z hz).1))
              · intro z hz
                rcases List.mem_append.mp hz with hz | hz
                · obtain ⟨g1, t1, g2, g3⟩ := hits z hz
                  exact ⟨by omega, t1, g2, (sT_ne (by omega)).trans ((hr9 z 6 g1).trans g3)⟩
                · obtain rfl := List.mem_singleton.mp hz
                  exact ⟨by omega, t0, ht0, (sT_ne (by omega)).trans h6⟩
              · rw [← hq0]; simp only [pLine, if_neg qe, e26, Option.bind_some, e9, hlast]; rfl
            · rw [ue, uf] at hP
              refine lv_if_ne (tgt := 54) hx hb (fh_d d_Rd_readLine 27 rfl) rfl (fun c31 => absurd c31 (Classical.not_not.mpr rfl)) (fun c31 => ?_)
              refine lv_null hx hb (fh_d d_Rd_readLine 28 rfl) ?_
              exact fh_aret (r := none) X hP hS (fh_d d_Rd_readLine 29 rfl) ⟨rfl, Or.inr ⟨by rw [← hq0]; simp only [pLine, if_neg qe, e26, Option.bind_some, e9, Option.bind_none], rfl, rdF_mk (by repeat' first | assumption | apply okR_7 | apply okR_8 | apply okR_nu | apply okR_li | apply okR_l6 | apply okR_l7 | omega)⟩⟩
          · rw [ua26, ub26] at hP
            refine W.eq (g2 := F0 m 35 ls [.null]) rfl ?_
            refine lv_astoreN (lv' := [(5, .null), (4, .int (nI i0)), (3, .ref (x + 4 + q)), (2, .ref (x + 65 + j)), (0, .ref (x + 2)), (1, .int (nI dp))]) hx hb (fh_d d_Rd_readLine 20 rfl) hl (by decide) rfl (fun ls hl => ?_)
            refine lv_aloadN hx hb (fh_d d_Rd_readLine 21 rfl) (lv_at hl 0 rfl) ?_
            refine lv_ifnullN (tgt := 52) hx hb (fh_d d_Rd_readLine 22 rfl) rfl ?_
            refine lv_null hx hb (fh_d d_Rd_readLine 28 rfl) ?_
            exact fh_aret (r := none) X hP hS (fh_d d_Rd_readLine 29 rfl) ⟨rfl, Or.inr ⟨by rw [← hq0]; simp only [pLine, if_neg qe, e26, Option.bind_none], rfl, rdF_mk (by repeat' first | assumption | apply okR_7 | apply okR_8 | apply okR_nu | apply okR_li | apply okR_l6 | apply okR_l7 | omega)⟩⟩
  refine lv_aload_n hx hb (fh_d d_Rd_readLine 0 rfl) rfl (lv_at hl 0 rfl) ?_
  refine fh_callV (cc' := c_Rd_freshLine) (nL' := 2) (rest := []) (a := x + 2) (As := []) X hR (m_Rd_freshLine l D ct b RO hR (r - 1) (by omega) n x kA aA g C R CL RL (nI nc) (nI L) (nI a) lc hlc hg6) w307 w304 w306 v1 w2 ⟨by decide, by decide, by show _ = some 0; decide +kernel⟩ (by omega) (by decide) (fh_recv hK hP mkR_rd rfl) hP hS hl.1 rfl (by exact Nat.le_of_ble_eq_true rfl) (fh_d d_Rd_readLine 1 rfl) ⟨Nat.le_refl _, Nat.le_refl _⟩ (fun v9 h9 n9 H locs hq hP hS => ?_)
  obtain ⟨ua, ⟨hn60, rfl, ub⟩ | ⟨hn60, rfl, ub⟩⟩ := hq
  · rw [ua, ub] at hP
    refine W.eq (g2 := F0 m 4 ls [.ref (x + 65 + lc)]) rfl ?_
    refine lv_astore_n (lv' := [(2, .ref (x + 65 + lc)), (0, .ref (x + 2)), (1, .int (nI dp))]) hx hb (fh_d d_Rd_readLine 2 rfl) rfl hl (by decide) rfl (fun ls hl => ?_)
    refine lv_aload_n hx hb (fh_d d_Rd_readLine 3 rfl) rfl (lv_at hl 0 rfl) ?_
    refine lv_ifnonnull (tgt := 11) hx hb (fh_d d_Rd_readLine 4 rfl) rfl ?_
    refine lv_null hx hb (fh_d d_Rd_readLine 7 rfl) ?_
    refine lv_astore_nN (lv' := [(3, .null), (2, .ref (x + 65 + lc)), (0, .ref (x + 2)), (1, .int (nI dp))]) hx hb (fh_d d_Rd_readLine 8 rfl) rfl hl (by decide) rfl (fun ls hl => ?_)
    refine lv_iconst (v := 0) hx hb (fh_d d_Rd_readLine 9 rfl) (by decide) ?_
    refine lv_istore (lv' := [(4, .int 0), (3, .null), (2, .ref (x + 65 + lc)), (0, .ref (x + 2)), (1, .int (nI dp))]) hx hb (fh_d d_Rd_readLine 10 rfl) hl (by decide) rfl (fun ls hl => ?_)
    subst hj
    exact loop 61 0 rfl [] _ _ _ _ _ _ _ rfl (Nat.zero_le _) hnc (by omega) hal (by repeat' first | assumption | apply okR_7 | apply okR_8 | apply okR_nu | apply okR_li | apply okR_l6 | apply okR_l7 | omega) (by omega) (by show nu_r RL _ _ 5 = none; exact congrFun (upT_same) 5) trivial (fun z hz => absurd hz (List.not_mem_nil)) (by rw [hQ0]; simp only [pLn, if_pos hn60]) H _ _ hP hS hl
  · rw [ua, ub] at hP
    refine W.eq (g2 := F0 m 4 ls [.null]) rfl ?_
    refine lv_astore_nN (lv' := [(2, .null), (0, .ref (x + 2)), (1, .int (nI dp))]) hx hb (fh_d d_Rd_readLine 2 rfl) rfl hl (by decide) rfl (fun ls hl => ?_)
    refine lv_aload_nN hx hb (fh_d d_Rd_readLine 3 rfl) rfl (lv_at hl 0 rfl) ?_
    refine lv_ifnonnullN hx hb (fh_d d_Rd_readLine 4 rfl) ?_
    refine lv_null hx hb (fh_d d_Rd_readLine 5 rfl) ?_
    exact fh_aret (r := none) X hP hS (fh_d d_Rd_readLine 6 rfl) ⟨rfl, Or.inr ⟨by rw [hQ0]; simp only [pLn, if_neg (show ¬ lc < 161 by omega)], rfl, rdF_mk (by repeat' first | assumption | apply okR_7 | apply okR_8 | apply okR_nu | apply okR_li | apply okR_l6 | apply okR_l7 | omega)⟩⟩
