/-! set, where the text is a formula: both sides set the same pieces; one step of a run. By hand. -/
theorem okR_B {C CL : Nat → Nat → Int32} (h : okR C CL) : okB C CL := h
theorem okB_R {C CL : Nat → Nat → Int32} (h : okB C CL) : okR C CL := h
theorem SL_wf7 {C : Nat → Nat → Int32} {R : Nat → Nat → Option Nat} {CL : Nat → Nat → Int32} {RL : Nat → Nat → Option Nat} {A : Nat → Nat → Int32} {nc lc : Nat} (h : SL R RL A (SN C R CL RL A 7) (0, 0, nc, lc)) (hn : nc ≤ 60) (hl : lc ≤ 161) : wfL R RL 7 0 := SL_wf (x := (0, 0, nc, lc)) (SN_le 7) (SN_5 7) (SN_wf 7) h hn hl
theorem read_iff {f : Nat → Int32} {L : Nat} {C : Nat → Nat → Int32} {R : Nat → Nat → Option Nat} {CL : Nat → Nat → Int32} {RL : Nat → Nat → Option Nat} {A : Nat → Nat → Int32} (hL9 : L ≤ 160) (hf : ∀ j, okd (f j)) (hA : A 0 = f) : (rdOk f L (0, 0, 0, C, R, CL, RL)).isSome = true ↔ rz_ok (rz_read A L) := by
  have g := read_ok (C := C) (R := R) (CL := CL) (RL := RL) hL9 hf hA
  rcases e : rdOk f L (0, 0, 0, C, R, CL, RL) with _ | ⟨nc, lc, a, C1, R1, CL1, RL1⟩
  · exact ⟨fun z => (by cases z), fun z => absurd z (g.1 e)⟩
  · obtain ⟨A1, a2, e1, -⟩ := g.2 _ _ _ _ _ _ _ e
    refine ⟨fun _ => ?_, fun _ => rfl⟩
    rw [e1]
    exact ⟨rfl, rfl⟩
theorem sp_set_ok {l : Launch} {D : va_G} {ct : Nat → ClassId} {B : Nat} {RO : State → Prop} {kA aA : Nat → Nat} {h : fh_H} {n : Nat} {L P : Nat} {w hh d : Int32} {f F W0 H0 D0 : Nat → Int32} {rows cols nc lc : Int32} {tx : Value} {len at_ : Int32} {C : Nat → Nat → Int32} {R : Nat → Nat → Option Nat} {CL : Nat → Nat → Int32} {RL : Nat → Nat → Option Nat} {A : Nat → Nat → Int32} {th at2 wr no nu op : Int32} {fo : Nat → Int64} {sA sV yA : Nat → Nat} {tK tS tM : Nat} (hR : fh_R B RO) (hSt : ∀ U, RO U → ro_S B sA sV U) (hEn : ∀ U, RO U → ro_E B sA kA aA yA tK tS tM U) (hAd : ad_ok kA aA yA) (e : h = bigH ct kA aA B (nI L) w hh d f (nI P) F W0 H0 D0 rows cols nc lc tx len at_ C R CL RL A th (nI L) at2 wr no nu op (nI P) w hh d fo) (h1 : B + 277 ≤ n) (h2 : L ≤ 160) (h4 : f = A 0) (h5 : ∀ j, f j = nI (ixI (f j)) ∧ ixI (f j) < 128) (h7 : okR C CL) (s0 : Nat) (hs0 : s0 < 4) {nc9 lc9 a9 : Nat} {C9 : Nat → Nat → Int32} {R9 : Nat → Nat → Option Nat} {CL9 : Nat → Nat → Int32} {RL9 : Nat → Nat → Option Nat} (e9 : rdOk f L (0, 0, 0, C, R, CL, RL) = some (nc9, lc9, a9, C9, R9, CL9, RL9)) : sp_set l D ct B RO (nI s0) h n (wInv ct kA aA B) := by
  obtain ⟨A1, a2, r1, r2, r3, r4, r5, r6⟩ := (read_ok (C := C) (R := R) (CL := CL) (RL := RL) h2 h5 h4.symm).2 _ _ _ _ _ _ _ e9
  have g7 : okB C9 CL9 := okR_B (rdOk_gR h7 e9)
  have hwf := SL_wf7 r3 r4 r5
  obtain ⟨tf, htf⟩ : ∃ z : TS, z = sL R9 RL9 7 (0, F, W0, H0, D0, rows, cols, C9, CL9) 0 s0 0 := ⟨_, rfl⟩
  obtain ⟨N1, hH, hMm, how, ⟨t1, t2, t3, t4⟩, K, W, k1, k2, k3, k4⟩ := set_eq hs0 r3 r4 r5 r6 (0, F, W0, H0, D0, rows, cols, C9, CL9) tf rfl rfl rfl htf
  have hbt : okT tf := by
    rw [htf]
    exact (cS_all l D ct B RO hR sA sV hSt kA aA yA tK tS tM hEn hAd n B h nc lc tx len at_ R9 RL9 7).2.2 (0, F, W0, H0, D0, rows, cols, C9, CL9) 0 s0 0 ⟨Nat.zero_le _, g7⟩ (by decide) hwf
  obtain ⟨cq, F1, W1, H1, D1, rows1, cols1, C1, CL1⟩ := tf
  dsimp only [tL] at t1 t2 t3 t4 k1 k4
  have g8 : okR C1 CL1 := okB_R hbt.2
  have hSA := (m_Ty_setAll l D ct B RO hR sA sV hSt kA aA yA tK tS tM hEn hAd n B (fsB ct B (nI L) w hh d f (mkM ct (B + 233) (ouB ct B fo) A th (nI L) at2 wr no nu op (nI P) w hh d)) (nI P) F W0 H0 D0 rows cols (nI nc9) (nI lc9) (.ref (B + 1)) (nI L) (nI a9) C9 R9 CL9 RL9 g7 7 (1300 - 1 - 1) (by decide) 0 s0 (by decide) hs0 hwf).mono (post' := fun v h' n' => v = none ∧ h' = mkR B kA aA (mkG ct B (fsB ct B (nI L) w hh d f (mkM ct (B + 233) (ouB ct B fo) A th (nI L) at2 wr no nu op (nI P) w hh d)) (nI cq) F1 W1 H1 D1 rows1 cols1) (nI nc9) (nI lc9) (.ref (B + 1)) (nI L) (nI a9) C1 R9 CL1 RL9 ∧ n' = n) (fun v h' n' q => ⟨q.1, q.2.1.trans (by rw [← htf]; rfl), q.2.2⟩)
  have hcl := m_FS_set l D ct B RO hR sA sV hSt kA aA yA tK tS tM hEn hAd n B (fsB ct B (nI L) w hh d f (mkM ct (B + 233) (ouB ct B fo) A th (nI L) at2 wr no nu op (nI P) w hh d)) f L h2 fsB_1 h5 fsB_3 fsB_6 w hh d fsB_x (1300 - 1) (by omega) (nI P) F W0 H0 D0 rows cols nc lc tx len at_ C R CL RL h7 s0 hs0 nc9 lc9 a9 C9 R9 CL9 RL9 e9 cq F1 W1 H1 D1 rows1 cols1 C1 CL1 hSA
  refine ⟨fun k h' n' => k = 0 ∧ (∃ fo', h' = bigH ct kA aA B (nI L) (CL1 0 0) (CL1 0 1) (CL1 0 2) f (nI cq) F1 W1 H1 D1 rows1 cols1 (nI nc9) (nI lc9) (.ref (B + 1)) (nI L) (nI a9) C1 R9 CL1 RL9 A th (nI L) at2 wr no nu op (nI P) w hh d fo' ∧ fo' 0 = (nI cq).toInt64) ∧ n' = n, Or.inl ?_, ?_⟩
  · refine (m_La_setOk l D ct B RO hR 1300 n B (B + 276) (by omega) (nI s0) (nI L) w hh d h (by rw [e]; exact big_x) (nI cq) (fun h' n' => h' = bigH ct kA aA B (nI L) (CL1 0 0) (CL1 0 1) (CL1 0 2) f (nI cq) F1 W1 H1 D1 rows1 cols1 (nI nc9) (nI lc9) (.ref (B + 1)) (nI L) (nI a9) C1 R9 CL1 RL9 A th (nI L) at2 wr no nu op (nI P) w hh d fo ∧ n' = n) (fun _ => fo) (fun h' n' q => by rw [q.1]; exact big_o) (by rw [e]; exact hcl.mono (fun v h' n' q => ⟨q.1, by rw [q.2.1, fsB_ux]; rfl, q.2.2⟩))).mono (fun v h' n' q => ?_)
    obtain ⟨q1, hz, ⟨rfl, q2⟩, q3⟩ := q
    rw [big_uo] at q3
    refine ⟨0, q1, rfl, ⟨_, q3, ?_⟩, q2⟩
    show vp_updL fo 0 _ 0 = _
    unfold vp_updL
    rw [if_pos rfl]
  rintro k h' n' ⟨rfl, ⟨fo', e1, efo⟩, rfl⟩
  have hy : h' (B + 233) = some (mo_s (B + 233) th (nI L) at2 wr no nu op (nI P) w hh d) := by rw [e1]; exact big_y
  rw [big_M] at e1
  refine ⟨⟨_, hy⟩, fun u h'' n'' => u = nI cq ∧ h'' = bigH ct kA aA B (nI L) (CL1 0 0) (CL1 0 1) (CL1 0 2) f (nI cq) F1 W1 H1 D1 rows1 cols1 (nI nc9) (nI lc9) (.ref (B + 1)) (nI L) (nI a9) C1 R9 CL1 RL9 W 0 (nI L) (nI a2) 0 (nI (nc9 + lc9)) (nI nc9) (nI 0) (nI cq) (CL1 0 0) (CL1 0 1) (CL1 0 2) fo' ∧ n'' = n', ?_, ?_⟩
  · rw [e1]
    refine (m_Mo_set l D ct B RO hR 1300 (by omega) n' (B + 233) _ A th at2 wr no nu op (nI P) w hh d L h2 s0 hs0 A1 a2 0 (nc9 + lc9) nc9 1 r1 (by rw [r1]; exact ⟨rfl, rfl⟩) N1 (by omega) hH hMm how K k2 (by rw [k1])).mono (fun v h'' n'' q => ?_)
    obtain ⟨q1, q2, q3⟩ := q
    rw [k1] at q1 q2
    rw [← t2, ← t3, ← t4] at q2
    exact ⟨nI cq, q1, rfl, by rw [q2, big_M], q3⟩
  rintro u h'' n'' ⟨rfl, e2, rfl⟩
  have hy2 : h'' (B + 233) = some (mo_s (B + 233) 0 (nI L) (nI a2) 0 (nI (nc9 + lc9)) (nI nc9) (nI 0) (nI cq) (CL1 0 0) (CL1 0 1) (CL1 0 2)) := by rw [e2]; exact big_y
  refine ⟨⟨_, hy2⟩, (m_Mo_thrown l D ct B RO 1300 n'' (B + 233) 0 (nI L) (nI a2) 0 (nI (nc9 + lc9)) (nI nc9) (nI 0) (nI cq) (CL1 0 0) (CL1 0 1) (CL1 0 2) h'' hy2).mono (fun v h3 n3 q => ?_)⟩
  obtain ⟨q1, rfl, q3⟩ := q
  rw [q3]
  exact ⟨q1, ⟨L, cq, CL1 0 0, CL1 0 1, CL1 0 2, f, F1, W1, H1, D1, rows1, cols1, _, _, _, _, _, C1, R9, CL1, RL9, W, 0, _, _, _, _, _, fo', e2, h1, h2, t1, r2.symm.trans k3.symm, h5, k4, g8⟩, fun _ => ⟨fo', by rw [e2]; exact big_o, efo⟩⟩
theorem whole_step {l : Launch} {D : va_G} {ct : Nat → ClassId} {B : Nat} {RO : State → Prop} {kA aA : Nat → Nat} {sA sV yA : Nat → Nat} {tK tS tM : Nat} (hR : fh_R B RO) (hSt : ∀ U, RO U → ro_S B sA sV U) (hEn : ∀ U, RO U → ro_E B sA kA aA yA tK tS tM U) (hAd : ad_ok kA aA yA) (htr : l.stackTraces = false) (hRX : ∀ U, RO U → ro_X B U) {L : Nat} (xs : Nat → Int32) : law_step l D ct B RO L xs (fun _ => wInv ct kA aA B) := by
  intro i h n hi hw
  have hw' := hw
  obtain ⟨L0, P, w, hh, d, f, F, W0, H0, D0, rows, cols, nc, lc, tx, len, at_, C, R, CL, RL, A, th, at2, wr, no, nu, op, fo, e, h1, h2, h3, h4, h5, h6, h7⟩ := hw
  have hQ := read_iff (C := C) (R := R) (CL := CL) (RL := RL) h2 h5 h4.symm
  refine ⟨⟨_, by rw [e]; exact big_x⟩, hw', sp_type_ok hR _ _ hw', sp_wipe_ok hw', ?_, sp_isF_ok hR hSt hEn hAd e h1 h2 h3 h4 h5 h6 h7 hQ, sp_pieces_ok hw', sp_piece_ok hR hSt htr hRX _ _ hw', sp_width_ok hw', sp_height_ok hw', sp_depth_ok hw'⟩
  rcases st_set_cases (xs (i + 1)) with hb | ⟨s0, hs0, es⟩
  · exact sp_set_bad hR hSt hEn htr hRX _ hb hw'
  · rw [es]
    rcases e9 : rdOk f L0 (0, 0, 0, C, R, CL, RL) with _ | ⟨nc9, lc9, a9, C9, R9, CL9, RL9⟩
    · exact sp_set_no hR hSt hEn hAd htr hRX e h1 h2 h3 h4 h5 h6 h7 hQ s0 hs0 e9
    · exact sp_set_ok hR hSt hEn hAd e h1 h2 h4 h5 h7 s0 hs0 e9
