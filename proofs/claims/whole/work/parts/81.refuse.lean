/-! isFormula; the refusals of set, where both sides agree on the text. Printed by wip/whole/gen/p81.py -/
theorem rdOk_gR {f : Nat → Int32} {L : Nat} {C : Nat → Nat → Int32} {R : Nat → Nat → Option Nat} {CL : Nat → Nat → Int32} {RL : Nat → Nat → Option Nat} {nc9 lc9 a9 : Nat} {C9 : Nat → Nat → Int32} {R9 : Nat → Nat → Option Nat} {CL9 : Nat → Nat → Int32} {RL9 : Nat → Nat → Option Nat} (h : okR C CL) (e : rdOk f L (0, 0, 0, C, R, CL, RL) = some (nc9, lc9, a9, C9, R9, CL9, RL9)) : okR C9 CL9 := by
  unfold rdOk at e
  rcases e1 : pL f L 7 (0, 0, 0, C, R, CL, RL) with _ | S
  · rw [e1] at e; cases e
  · rw [e1, Option.bind_some] at e
    have g := pL_gR f L 7 (0, 0, 0, C, R, CL, RL) S h e1
    split at e
    · cases e; exact g
    · cases e
theorem sp_isF_ok {l : Launch} {D : va_G} {ct : Nat → ClassId} {B : Nat} {RO : State → Prop} {kA aA : Nat → Nat} {h : fh_H} {n : Nat} {L P : Nat} {w hh d : Int32} {f F W0 H0 D0 : Nat → Int32} {rows cols nc lc : Int32} {tx : Value} {len at_ : Int32} {C : Nat → Nat → Int32} {R : Nat → Nat → Option Nat} {CL : Nat → Nat → Int32} {RL : Nat → Nat → Option Nat} {A : Nat → Nat → Int32} {th at2 wr no nu op : Int32} {fo : Nat → Int64} {sA sV yA : Nat → Nat} {tK tS tM : Nat} (hR : fh_R B RO) (hSt : ∀ U, RO U → ro_S B sA sV U) (hEn : ∀ U, RO U → ro_E B sA kA aA yA tK tS tM U) (hAd : ad_ok kA aA yA) (e : h = bigH ct kA aA B (nI L) w hh d f (nI P) F W0 H0 D0 rows cols nc lc tx len at_ C R CL RL A th (nI L) at2 wr no nu op (nI P) w hh d fo) (h1 : B + 277 ≤ n) (h2 : L ≤ 160) (h3 : P ≤ 120) (h4 : f = A 0) (h5 : ∀ j, f j = nI (ixI (f j)) ∧ ixI (f j) < 128) (h6 : ∀ j, j < 6 * P → F j = A 41 j) (h7 : okR C CL) (hQ : (rdOk f L (0, 0, 0, C, R, CL, RL)).isSome = true ↔ rz_ok (rz_read A L)) : sp_isFormula l D ct B RO h n (wInv ct kA aA B) := by
  have hcl := m_FS_isFormula l D ct B RO hR sA sV hSt kA aA yA tK tS tM hEn hAd n B (mkG ct B (fsB ct B (nI L) w hh d f (mkM ct (B + 233) (ouB ct B fo) A th (nI L) at2 wr no nu op (nI P) w hh d)) (nI P) F W0 H0 D0 rows cols) f L h2 ((mkG_g (by omega)).trans fsB_1) h5 ((mkG_g (by omega)).trans fsB_3) ((mkG_g (by omega)).trans fsB_6) w hh d ((mkG_g (by omega)).trans fsB_x) 1300 (by omega) nc lc tx len at_ C R CL RL h7
  refine ⟨fun w' h' n' => w' = (if rz_ok (rz_read A L) then 1 else 0) ∧ (∃ nc lc tx len at_ C R CL RL, okR C CL ∧ h' = bigH ct kA aA B (nI L) w hh d f (nI P) F W0 H0 D0 rows cols nc lc tx len at_ C R CL RL A th (nI L) at2 wr no nu op (nI P) w hh d fo) ∧ n' = n, ?_, ?_⟩
  · rw [e]
    refine hcl.mono (fun v h' n' q => ?_)
    obtain ⟨q1, ⟨nc9, lc9, a9, C9, R9, CL9, RL9, e9, q2, q3⟩ | ⟨e9, q2, nc9, lc9, a9, C9, R9, CL9, RL9, q3, q5⟩⟩ := q
    · have hok : rz_ok (rz_read A L) := hQ.mp (by rw [e9]; rfl)
      exact ⟨_, q2, (if_pos hok).symm, ⟨_, _, _, _, _, _, _, _, _, rdOk_gR h7 e9, q3⟩, q1⟩
    · have hno : ¬ rz_ok (rz_read A L) := fun z => by have := hQ.mpr z; rw [e9] at this; cases this
      exact ⟨_, q2, (if_neg hno).symm, ⟨_, _, _, _, _, _, _, _, _, q5, q3⟩, q1⟩
  rintro w' h' n' ⟨rfl, ⟨nc', lc', tx', len', at', C', R', CL', RL', k1, e1⟩, rfl⟩
  have hy : h' (B + 233) = some (mo_s (B + 233) th (nI L) at2 wr no nu op (nI P) w hh d) := by rw [e1]; exact big_y
  refine ⟨⟨_, hy⟩, ?_⟩
  rw [big_M] at e1
  rw [e1]
  refine (m_Mo_isFormula l D ct B RO hR 1300 (by omega) n' (B + 233) _ A th at2 wr no nu op (nI P) w hh d L h2).mono (fun v h'' n'' q => ⟨q.1, ?_⟩)
  obtain ⟨-, q1, q2⟩ := q
  rw [q2]
  exact ⟨L, P, w, hh, d, f, F, W0, H0, D0, rows, cols, nc', lc', tx', len', at', C', R', CL', RL', (rz_read A L).1, 0, nI (rz_read A L).2.1, (rz_read A L).2.2.1, nI (rz_read A L).2.2.2.1, nI (rz_read A L).2.2.2.2.1, nI (rz_read A L).2.2.2.2.2, fo, by rw [q1, big_M], h1, h2, h3, h4.trans (rz_read_k (Or.inl rfl)).symm, h5, fun j hj => (h6 j hj).trans (congrFun (rz_read_k (A := A) (L := L) (k := 41) (Or.inr (by omega))).symm j), k1⟩
theorem sp_set_bad {l : Launch} {D : va_G} {ct : Nat → ClassId} {B : Nat} {RO : State → Prop} {kA aA : Nat → Nat} {h : fh_H} {n : Nat} {sA sV yA : Nat → Nat} {tK tS tM : Nat} (hR : fh_R B RO) (hSt : ∀ U, RO U → ro_S B sA sV U) (hEn : ∀ U, RO U → ro_E B sA kA aA yA tK tS tM U) (htr : l.stackTraces = false) (hRX : ∀ U, RO U → ro_X B U) (p1 : Int32) (hbad : ¬ (¬ p1 < 0 ∧ p1 < 4)) (hI : wInv ct kA aA B h n) : sp_set l D ct B RO p1 h n (wInv ct kA aA B) := by
  obtain ⟨L, P, w, hh, d, f, F, W0, H0, D0, rows, cols, nc, lc, tx, len, at_, C, R, CL, RL, A, th, at2, wr, no, nu, op, fo, e, h1, h2, h3, h4, h5, h6, h7⟩ := hI
  have hb3 : ¬ (¬ p1 < 0 ∧ p1 ≤ 3) := by
    rintro ⟨g1, g2⟩
    obtain ⟨j, hj, rfl⟩ := nI_of2 (n := 3) (by decide) g1 g2
    exact hbad ⟨g1, (nI_ltI (b := 4) (by omega) (by decide)).mpr (by omega)⟩
  refine ⟨fun k h' n' => k = 1 ∧ h' = h ∧ n' = n + 1, Or.inr ((m_La_setT l D ct B RO hR 1300 n B (B + 276) (by omega) p1 (nI L) w hh d h (by rw [e]; exact big_x) hRX (fun h' n' => h' = h ∧ n' = n + 1) (m_FS_setBad l D ct B RO hR sA sV hSt kA aA yA tK tS tM hEn htr hRX (1300 - 1) n B (by omega) p1 hbad h)).mono (fun v h' n' q => ⟨1, q.1, rfl, q.2⟩)), ?_⟩
  rintro k h' n' ⟨rfl, rfl, e9⟩
  have hy : h' (B + 233) = some (mo_s (B + 233) th (nI L) at2 wr no nu op (nI P) w hh d) := by rw [e]; exact big_y
  rw [big_M] at e
  refine ⟨⟨_, hy⟩, fun w' h'' n'' => h'' = bigH ct kA aA B (nI L) w hh d f (nI P) F W0 H0 D0 rows cols nc lc tx len at_ C R CL RL A 1 (nI L) at2 wr no nu op (nI P) w hh d fo ∧ n'' = n', ?_, ?_⟩
  · rw [e]
    refine (m_Mo_setBad l D ct B RO 1300 n' (B + 233) _ A th (nI L) at2 wr no nu op (nI P) w hh d p1 hb3).mono (fun v h'' n'' q => ?_)
    exact ⟨_, q.1, by rw [q.2.1, big_M], q.2.2⟩
  rintro w' h'' n'' ⟨e2, rfl⟩
  have hy2 : h'' (B + 233) = some (mo_s (B + 233) 1 (nI L) at2 wr no nu op (nI P) w hh d) := by rw [e2]; exact big_y
  refine ⟨⟨_, hy2⟩, (m_Mo_thrown l D ct B RO 1300 n'' (B + 233) 1 (nI L) at2 wr no nu op (nI P) w hh d h'' hy2).mono (fun v h3 n3 q => ?_)⟩
  obtain ⟨q1, rfl, q3⟩ := q
  rw [q3]
  exact ⟨q1, ⟨L, P, w, hh, d, f, F, W0, H0, D0, rows, cols, nc, lc, tx, len, at_, C, R, CL, RL, A, 1, at2, wr, no, nu, op, fo, e2, by omega, h2, by assumption, h4, h5, h6, h7⟩, fun z => absurd z (by decide)⟩
theorem sp_set_no {l : Launch} {D : va_G} {ct : Nat → ClassId} {B : Nat} {RO : State → Prop} {kA aA : Nat → Nat} {h : fh_H} {n : Nat} {L P : Nat} {w hh d : Int32} {f F W0 H0 D0 : Nat → Int32} {rows cols nc lc : Int32} {tx : Value} {len at_ : Int32} {C : Nat → Nat → Int32} {R : Nat → Nat → Option Nat} {CL : Nat → Nat → Int32} {RL : Nat → Nat → Option Nat} {A : Nat → Nat → Int32} {th at2 wr no nu op : Int32} {fo : Nat → Int64} {sA sV yA : Nat → Nat} {tK tS tM : Nat} (hR : fh_R B RO) (hSt : ∀ U, RO U → ro_S B sA sV U) (hEn : ∀ U, RO U → ro_E B sA kA aA yA tK tS tM U) (hAd : ad_ok kA aA yA) (htr : l.stackTraces = false) (hRX : ∀ U, RO U → ro_X B U) (e : h = bigH ct kA aA B (nI L) w hh d f (nI P) F W0 H0 D0 rows cols nc lc tx len at_ C R CL RL A th (nI L) at2 wr no nu op (nI P) w hh d fo) (h1 : B + 277 ≤ n) (h2 : L ≤ 160) (h3 : P ≤ 120) (h4 : f = A 0) (h5 : ∀ j, f j = nI (ixI (f j)) ∧ ixI (f j) < 128) (h6 : ∀ j, j < 6 * P → F j = A 41 j) (h7 : okR C CL) (hQ : (rdOk f L (0, 0, 0, C, R, CL, RL)).isSome = true ↔ rz_ok (rz_read A L)) (s0 : Nat) (hs0 : s0 < 4) (hno : rdOk f L (0, 0, 0, C, R, CL, RL) = none) : sp_set l D ct B RO (nI s0) h n (wInv ct kA aA B) := by
  have hok : ¬ rz_ok (rz_read A L) := fun z => by have := hQ.mpr z; rw [hno] at this; cases this
  have hcl := m_FS_setNo l D ct B RO hR sA sV hSt kA aA yA tK tS tM hEn hAd n B (mkG ct B (fsB ct B (nI L) w hh d f (mkM ct (B + 233) (ouB ct B fo) A th (nI L) at2 wr no nu op (nI P) w hh d)) (nI P) F W0 H0 D0 rows cols) f L h2 ((mkG_g (by omega)).trans fsB_1) h5 ((mkG_g (by omega)).trans fsB_3) ((mkG_g (by omega)).trans fsB_6) htr hRX w hh d ((mkG_g (by omega)).trans fsB_x) (1300 - 1) (by omega) nc lc tx len at_ C R CL RL h7 s0 hs0 hno
  refine ⟨fun k h' n' => k = 1 ∧ (∃ nc lc tx len at_ C R CL RL, okR C CL ∧ h' = bigH ct kA aA B (nI L) w hh d f (nI P) F W0 H0 D0 rows cols nc lc tx len at_ C R CL RL A th (nI L) at2 wr no nu op (nI P) w hh d fo) ∧ n' = n + 1, Or.inr ?_, ?_⟩
  · refine (m_La_setT l D ct B RO hR 1300 n B (B + 276) (by omega) (nI s0) (nI L) w hh d h (by rw [e]; exact big_x) hRX (fun h' n' => rdF B kA aA (mkG ct B (fsB ct B (nI L) w hh d f (mkM ct (B + 233) (ouB ct B fo) A th (nI L) at2 wr no nu op (nI P) w hh d)) (nI P) F W0 H0 D0 rows cols) L h' ∧ n' = n + 1) (by rw [e]; exact hcl)).mono (fun v h' n' q => ?_)
    obtain ⟨q1, ⟨nc9, lc9, a9, C9, R9, CL9, RL9, q3, q5⟩, q4⟩ := q
    exact ⟨1, q1, rfl, ⟨_, _, _, _, _, _, _, _, _, q5, q3⟩, q4⟩
  rintro k h' n' ⟨rfl, ⟨nc', lc', tx', len', at', C', R', CL', RL', k1, e1⟩, e9⟩
  have hy : h' (B + 233) = some (mo_s (B + 233) th (nI L) at2 wr no nu op (nI P) w hh d) := by rw [e1]; exact big_y
  rw [big_M] at e1
  refine ⟨⟨_, hy⟩, fun w' h'' n'' => h'' = bigH ct kA aA B (nI L) w hh d f (nI P) F W0 H0 D0 rows cols nc' lc' tx' len' at' C' R' CL' RL' (rz_read A L).1 1 (nI L) (nI (rz_read A L).2.1) (rz_read A L).2.2.1 (nI (rz_read A L).2.2.2.1) (nI (rz_read A L).2.2.2.2.1) (nI (rz_read A L).2.2.2.2.2) (nI P) w hh d fo ∧ n'' = n', ?_, ?_⟩
  · rw [e1]
    refine (m_Mo_setNo l D ct B RO hR 1300 (by omega) n' (B + 233) _ A th at2 wr no nu op (nI P) w hh d L h2 s0 hs0 hok).mono (fun v h'' n'' q => ?_)
    exact ⟨_, q.1, by rw [q.2.1, big_M], q.2.2⟩
  rintro w' h'' n'' ⟨e2, rfl⟩
  have hy2 : h'' (B + 233) = some (mo_s (B + 233) 1 (nI L) (nI (rz_read A L).2.1) (rz_read A L).2.2.1 (nI (rz_read A L).2.2.2.1) (nI (rz_read A L).2.2.2.2.1) (nI (rz_read A L).2.2.2.2.2) (nI P) w hh d) := by rw [e2]; exact big_y
  refine ⟨⟨_, hy2⟩, (m_Mo_thrown l D ct B RO 1300 n'' (B + 233) 1 (nI L) _ _ _ _ _ (nI P) w hh d h'' hy2).mono (fun v h9 n9 q => ?_)⟩
  obtain ⟨q1, rfl, q3⟩ := q
  rw [q3]
  exact ⟨q1, ⟨L, P, w, hh, d, f, F, W0, H0, D0, rows, cols, nc', lc', tx', len', at', C', R', CL', RL', (rz_read A L).1, 1, nI (rz_read A L).2.1, (rz_read A L).2.2.1, nI (rz_read A L).2.2.2.1, nI (rz_read A L).2.2.2.2.1, nI (rz_read A L).2.2.2.2.2, fo, e2, by omega, h2, h3, h4.trans (rz_read_k (Or.inl rfl)).symm, h5, fun j hj => (h6 j hj).trans (congrFun (rz_read_k (A := A) (L := L) (k := 41) (Or.inr (by omega))).symm j), k1⟩, fun z => absurd z (by decide)⟩
