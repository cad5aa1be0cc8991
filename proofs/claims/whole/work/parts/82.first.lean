/-! set on the empty text; the first call on a fresh object. Printed by wip/whole/gen/p82.py -/
theorem rdOk0 (f : Nat → Int32) (C : Nat → Nat → Int32) (R : Nat → Nat → Option Nat) (CL : Nat → Nat → Int32) (RL : Nat → Nat → Option Nat) : rdOk f 0 (0, 0, 0, C, R, CL, RL) = some (0, 1, 0, C, R, li_c CL 0, nu_r RL 0) := by
  have hsk : sk f 0 0 = 0 := by unfold sk; rw [if_neg (by omega)]
  have hle : lend f 0 (sk f 0 0) := Or.inl (by rw [hsk]; exact if_neg (by omega))
  have h1 : pL f 0 7 (0, 0, 0, C, R, CL, RL) = some (0, 1, 0, C, R, li_c CL 0, nu_r RL 0) := by
    unfold pL pLn
    dsimp only
    rw [if_pos (by omega)]
    unfold pLine
    rw [if_pos hle, hsk]
    rfl
  unfold rdOk
  rw [h1]
  rfl
theorem sp_set_e {l : Launch} {D : va_G} {ct : Nat → ClassId} {B : Nat} {RO : State → Prop} {kA aA : Nat → Nat} {h : fh_H} {n : Nat} {P : Nat} {w hh d : Int32} {f F W0 H0 D0 : Nat → Int32} {rows cols nc lc : Int32} {tx : Value} {len at_ : Int32} {C : Nat → Nat → Int32} {R : Nat → Nat → Option Nat} {CL : Nat → Nat → Int32} {RL : Nat → Nat → Option Nat} {A : Nat → Nat → Int32} {th at2 wr no nu op : Int32} {fo : Nat → Int64} {sA sV yA : Nat → Nat} {tK tS tM : Nat} (hR : fh_R B RO) (hSt : ∀ U, RO U → ro_S B sA sV U) (hEn : ∀ U, RO U → ro_E B sA kA aA yA tK tS tM U) (hAd : ad_ok kA aA yA) (e : h = bigH ct kA aA B (nI 0) w hh d f (nI P) F W0 H0 D0 rows cols nc lc tx len at_ C R CL RL A th (nI 0) at2 wr no nu op (nI P) w hh d fo) (h3 : P ≤ 120) (h5 : ∀ j, f j = nI (ixI (f j)) ∧ ixI (f j) < 128) (h7 : okR C CL) (s0 : Nat) (hs0 : s0 < 4) (Post : fh_H → Nat → Prop) (hPost : ∀ h n, Post h n) : sp_set l D ct B RO (nI s0) h n Post := by
  have hSA := (m_Ty_setAll0 l D ct B RO hR (1300 - 1 - 1) (by omega) n B kA aA (fsB ct B (nI 0) w hh d f (mkM ct (B + 233) (ouB ct B fo) A th (nI 0) at2 wr no nu op (nI P) w hh d)) (nI P) F W0 H0 D0 rows cols (nI 0) (nI 1) (.ref (B + 1)) (nI 0) (nI 0) C R (li_c CL 0) (nu_r RL 0) 0 (yA s0) (by omega) rfl).mono (post' := fun v h' n' => v = none ∧ h' = mkR B kA aA (mkG ct B (fsB ct B (nI 0) w hh d f (mkM ct (B + 233) (ouB ct B fo) A th (nI 0) at2 wr no nu op (nI P) w hh d)) (nI 0) F W0 H0 D0 rows cols) (nI 0) (nI 1) (.ref (B + 1)) (nI 0) (nI 0) C R (sT (sT (sT (sT (sT (li_c CL 0) 0 3 0) 0 0 0) 0 1 0) 0 2 0) 0 4 0) (nu_r RL 0) ∧ n' = n) (fun v h' n' q => ⟨q.1, q.2.1.trans (by rw [nI_0]), q.2.2⟩)
  have hcl := m_FS_set l D ct B RO hR sA sV hSt kA aA yA tK tS tM hEn hAd n B (fsB ct B (nI 0) w hh d f (mkM ct (B + 233) (ouB ct B fo) A th (nI 0) at2 wr no nu op (nI P) w hh d)) f 0 (by omega) fsB_1 h5 fsB_3 fsB_6 w hh d fsB_x (1300 - 1) (by omega) (nI P) F W0 H0 D0 rows cols nc lc tx len at_ C R CL RL h7 s0 hs0 0 1 0 C R (li_c CL 0) (nu_r RL 0) (rdOk0 f C R CL RL) 0 F W0 H0 D0 rows cols C (sT (sT (sT (sT (sT (li_c CL 0) 0 3 0) 0 0 0) 0 1 0) 0 2 0) 0 4 0) hSA
  refine ⟨fun k h' n' => k = 0 ∧ (∃ CL' RL' w' h9 d' fo', h' = bigH ct kA aA B (nI 0) w' h9 d' f (nI 0) F W0 H0 D0 rows cols (nI 0) (nI 1) (.ref (B + 1)) (nI 0) (nI 0) C R CL' RL' A th (nI 0) at2 wr no nu op (nI P) w hh d fo' ∧ fo' 0 = (0 : Int32).toInt64) ∧ n' = n, Or.inl ?_, ?_⟩
  · refine (m_La_setOk l D ct B RO hR 1300 n B (B + 276) (by omega) (nI s0) (nI 0) w hh d h (by rw [e]; exact big_x) (nI 0) (fun h' n' => h' = bigH ct kA aA B (nI 0) ((sT (sT (sT (sT (sT (li_c CL 0) 0 3 0) 0 0 0) 0 1 0) 0 2 0) 0 4 0) 0 0) ((sT (sT (sT (sT (sT (li_c CL 0) 0 3 0) 0 0 0) 0 1 0) 0 2 0) 0 4 0) 0 1) ((sT (sT (sT (sT (sT (li_c CL 0) 0 3 0) 0 0 0) 0 1 0) 0 2 0) 0 4 0) 0 2) f (nI 0) F W0 H0 D0 rows cols (nI 0) (nI 1) (.ref (B + 1)) (nI 0) (nI 0) C R (sT (sT (sT (sT (sT (li_c CL 0) 0 3 0) 0 0 0) 0 1 0) 0 2 0) 0 4 0) (nu_r RL 0) A th (nI 0) at2 wr no nu op (nI P) w hh d fo ∧ n' = n) (fun _ => fo) (fun h' n' q => by rw [q.1]; exact big_o) (by rw [e]; exact hcl.mono (fun v h' n' q => ⟨q.1, by rw [q.2.1, fsB_ux]; rfl, q.2.2⟩))).mono (fun v h' n' q => ?_)
    obtain ⟨q1, hz, ⟨rfl, q2⟩, q3⟩ := q
    rw [big_uo] at q3
    refine ⟨0, q1, rfl, ⟨_, _, _, _, _, _, q3, ?_⟩, q2⟩
    show vp_updL fo 0 _ 0 = _
    unfold vp_updL
    rw [if_pos rfl, nI_0]
  rintro k h' n' ⟨rfl, ⟨CL', RL', w', h9, d', fo', e1, efo⟩, rfl⟩
  have hy : h' (B + 233) = some (mo_s (B + 233) th (nI 0) at2 wr no nu op (nI P) w hh d) := by rw [e1]; exact big_y
  rw [big_M] at e1
  refine ⟨⟨_, hy⟩, fun u h'' n'' => u = 0 ∧ (∃ A', h'' = bigH ct kA aA B (nI 0) w' h9 d' f (nI 0) F W0 H0 D0 rows cols (nI 0) (nI 1) (.ref (B + 1)) (nI 0) (nI 0) C R CL' RL' A' 0 (nI 0) 0 0 1 0 0 0 0 0 0 fo') ∧ n'' = n', ?_, ?_⟩
  · rw [e1]
    refine (m_Mo_setE l D ct B RO hR 1300 (by omega) n' (B + 233) _ A th at2 wr no nu op (nI P) w hh d s0 hs0).mono (fun v h'' n'' q => ?_)
    obtain ⟨q1, ⟨A', q2⟩, q3⟩ := q
    exact ⟨0, q1, rfl, ⟨A', by rw [q2, big_M]⟩, q3⟩
  rintro u h'' n'' ⟨rfl, ⟨A', e2⟩, rfl⟩
  have hy2 : h'' (B + 233) = some (mo_s (B + 233) 0 (nI 0) 0 0 1 0 0 0 0 0 0) := by rw [e2]; exact big_y
  refine ⟨⟨_, hy2⟩, (m_Mo_thrown l D ct B RO 1300 n'' (B + 233) 0 (nI 0) 0 0 1 0 0 0 0 0 0 h'' hy2).mono (fun v h3 n3 q => ?_)⟩
  obtain ⟨q1, rfl, q3⟩ := q
  exact ⟨q1, hPost _ _, fun _ => ⟨fo', by rw [e2]; exact big_o, efo⟩⟩
theorem sp_type_mono {l : Launch} {D : va_G} {ct : Nat → ClassId} {B : Nat} {RO : State → Prop} {h : fh_H} {n : Nat} {c0 : Int64} {k0 : Int32} {Post Post' : fh_H → Nat → Prop} (hp : ∀ h n, Post h n → Post' h n) (hs : sp_type l D ct B RO c0 k0 h n Post) : sp_type l D ct B RO c0 k0 h n Post' := by
  obtain ⟨P1, h1, h2⟩ := hs
  exact ⟨P1, h1, fun w h' n' q => ⟨(h2 w h' n' q).1, (h2 w h' n' q).2.mono (fun v h'' n'' z => ⟨z.1, hp _ _ z.2⟩)⟩⟩
theorem sp_wipe_mono {l : Launch} {D : va_G} {ct : Nat → ClassId} {B : Nat} {RO : State → Prop} {h : fh_H} {n : Nat} {Post Post' : fh_H → Nat → Prop} (hp : ∀ h n, Post h n → Post' h n) (hs : sp_wipe l D ct B RO h n Post) : sp_wipe l D ct B RO h n Post' := by
  obtain ⟨P1, h1, h2⟩ := hs
  exact ⟨P1, h1, fun w h' n' q => ⟨(h2 w h' n' q).1, (h2 w h' n' q).2.mono (fun v h'' n'' z => ⟨z.1, hp _ _ z.2⟩)⟩⟩
theorem sp_isFormula_mono {l : Launch} {D : va_G} {ct : Nat → ClassId} {B : Nat} {RO : State → Prop} {h : fh_H} {n : Nat} {Post Post' : fh_H → Nat → Prop} (hp : ∀ h n, Post h n → Post' h n) (hs : sp_isFormula l D ct B RO h n Post) : sp_isFormula l D ct B RO h n Post' := by
  obtain ⟨P1, h1, h2⟩ := hs
  exact ⟨P1, h1, fun w h' n' q => ⟨(h2 w h' n' q).1, (h2 w h' n' q).2.mono (fun v h'' n'' z => ⟨z.1, hp _ _ z.2⟩)⟩⟩
theorem sp_pieces_mono {l : Launch} {D : va_G} {ct : Nat → ClassId} {B : Nat} {RO : State → Prop} {h : fh_H} {n : Nat} {Post Post' : fh_H → Nat → Prop} (hp : ∀ h n, Post h n → Post' h n) (hs : sp_pieces l D ct B RO h n Post) : sp_pieces l D ct B RO h n Post' := by
  obtain ⟨P1, h1, h2⟩ := hs
  exact ⟨P1, h1, fun w h' n' q => ⟨(h2 w h' n' q).1, (h2 w h' n' q).2.mono (fun v h'' n'' z => ⟨z.1, hp _ _ z.2⟩)⟩⟩
theorem sp_width_mono {l : Launch} {D : va_G} {ct : Nat → ClassId} {B : Nat} {RO : State → Prop} {h : fh_H} {n : Nat} {Post Post' : fh_H → Nat → Prop} (hp : ∀ h n, Post h n → Post' h n) (hs : sp_width l D ct B RO h n Post) : sp_width l D ct B RO h n Post' := by
  obtain ⟨P1, h1, h2⟩ := hs
  exact ⟨P1, h1, fun w h' n' q => ⟨(h2 w h' n' q).1, (h2 w h' n' q).2.mono (fun v h'' n'' z => ⟨z.1, hp _ _ z.2⟩)⟩⟩
theorem sp_height_mono {l : Launch} {D : va_G} {ct : Nat → ClassId} {B : Nat} {RO : State → Prop} {h : fh_H} {n : Nat} {Post Post' : fh_H → Nat → Prop} (hp : ∀ h n, Post h n → Post' h n) (hs : sp_height l D ct B RO h n Post) : sp_height l D ct B RO h n Post' := by
  obtain ⟨P1, h1, h2⟩ := hs
  exact ⟨P1, h1, fun w h' n' q => ⟨(h2 w h' n' q).1, (h2 w h' n' q).2.mono (fun v h'' n'' z => ⟨z.1, hp _ _ z.2⟩)⟩⟩
theorem sp_depth_mono {l : Launch} {D : va_G} {ct : Nat → ClassId} {B : Nat} {RO : State → Prop} {h : fh_H} {n : Nat} {Post Post' : fh_H → Nat → Prop} (hp : ∀ h n, Post h n → Post' h n) (hs : sp_depth l D ct B RO h n Post) : sp_depth l D ct B RO h n Post' := by
  obtain ⟨P1, h1, h2⟩ := hs
  exact ⟨P1, h1, fun w h' n' q => ⟨(h2 w h' n' q).1, (h2 w h' n' q).2.mono (fun v h'' n'' z => ⟨z.1, hp _ _ z.2⟩)⟩⟩
theorem sp_set_mono {l : Launch} {D : va_G} {ct : Nat → ClassId} {B : Nat} {RO : State → Prop} {h : fh_H} {n : Nat} {p1 : Int32} {Post Post' : fh_H → Nat → Prop} (hp : ∀ h n, Post h n → Post' h n) (hs : sp_set l D ct B RO p1 h n Post) : sp_set l D ct B RO p1 h n Post' := by
  obtain ⟨P1, h1, h2⟩ := hs
  refine ⟨P1, h1, fun k h' n' q => ⟨(h2 k h' n' q).1, ?_⟩⟩
  obtain ⟨P2, g1, g2⟩ := (h2 k h' n' q).2
  exact ⟨P2, g1, fun w h'' n'' z => ⟨(g2 w h'' n'' z).1, (g2 w h'' n'' z).2.mono (fun v h3 n3 y => ⟨y.1, hp _ _ y.2.1, y.2.2⟩)⟩⟩
theorem sp_piece_mono {l : Launch} {D : va_G} {ct : Nat → ClassId} {B : Nat} {RO : State → Prop} {h : fh_H} {n : Nat} {p1 p2 : Int32} {Post Post' : fh_H → Nat → Prop} (hp : ∀ h n, Post h n → Post' h n) (hs : sp_piece l D ct B RO p1 p2 h n Post) : sp_piece l D ct B RO p1 p2 h n Post' := by
  obtain ⟨P1, h1, h2⟩ := hs
  refine ⟨P1, h1, fun k h' n' q => ⟨(h2 k h' n' q).1, ?_⟩⟩
  obtain ⟨P2, g1, g2⟩ := (h2 k h' n' q).2
  exact ⟨P2, g1, fun w h'' n'' z => ⟨(g2 w h'' n'' z).1, (g2 w h'' n'' z).2.mono (fun v h3 n3 y => ⟨y.1, hp _ _ y.2.1, y.2.2⟩)⟩⟩
theorem st_set_cases (p1 : Int32) : (¬ (¬ p1 < 0 ∧ p1 < 4)) ∨ ∃ s0 : Nat, s0 < 4 ∧ p1 = nI s0 := by
  by_cases hb : ¬ p1 < 0 ∧ p1 < 4
  · obtain ⟨j, hj, rfl⟩ := nI_of hb.1
    exact Or.inr ⟨j, (nI_ltI (b := 4) hj (by decide)).mp hb.2, rfl⟩
  · exact Or.inl hb
/-- one call on a fresh object -/
def pInv (ct : Nat → ClassId) (B : Nat) (i : Nat) (h : fh_H) (n : Nat) : Prop := i = 0 → h = law_h0 ct B ∧ n = B + 277
theorem p1_step {l : Launch} {D : va_G} {ct : Nat → ClassId} {B : Nat} {RO : State → Prop} {kA aA : Nat → Nat} {sA sV yA : Nat → Nat} {tK tS tM : Nat} (hR : fh_R B RO) (hSt : ∀ U, RO U → ro_S B sA sV U) (hEn : ∀ U, RO U → ro_E B sA kA aA yA tK tS tM U) (hAd : ad_ok kA aA yA) (htr : l.stackTraces = false) (hRX : ∀ U, RO U → ro_X B U) {L : Nat} (xs : Nat → Int32) (hL : L ≤ 4) : law_step l D ct B RO L xs (pInv ct B) := by
  intro i h n hi hI
  obtain rfl : i = 0 := by omega
  obtain ⟨rfl, rfl⟩ := hI rfl
  have hp : ∀ (h : fh_H) (n : Nat), pInv ct B (0 + 4) h n := fun h n z => absurd z (by omega)
  have hw := wInv_0 ct kA aA B
  have hm : ∀ h n, wInv ct kA aA B h n → pInv ct B (0 + 4) h n := fun h n _ => hp h n
  have e := law_h0_big ct kA aA B
  have hz : ∀ j : Nat, (fun _ => (0 : Int32)) j = nI (ixI ((fun _ => (0 : Int32)) j)) ∧ ixI ((fun _ => (0 : Int32)) j) < 128 := fun _ => (by decide : (0 : Int32) = nI (ixI 0) ∧ ixI 0 < 128)
  refine ⟨⟨_, by rw [e]; exact big_x⟩, hp _ _, sp_type_mono hm (sp_type_ok hR _ _ hw), sp_wipe_mono hm (sp_wipe_ok hw), ?_, sp_isFormula_mono hm (sp_isF_ok (L := 0) (P := 0) hR hSt hEn hAd e (Nat.le_refl _) (by omega) (by omega) rfl hz (fun j hj => absurd hj (by omega)) okR_0 ?_), sp_pieces_mono hm (sp_pieces_ok hw), sp_piece_mono hm (sp_piece_ok hR hSt htr hRX _ _ hw), sp_width_mono hm (sp_width_ok hw), sp_height_mono hm (sp_height_ok hw), sp_depth_mono hm (sp_depth_ok hw)⟩
  · rcases st_set_cases (xs (0 + 1)) with hb | ⟨s0, hs0, es⟩
    · exact sp_set_mono hm (sp_set_bad hR hSt hEn htr hRX _ hb hw)
    · rw [es]
      exact sp_set_e (P := 0) hR hSt hEn hAd e (by omega) hz okR_0 s0 hs0 _ hp
  · rw [rdOk0, rz_read0]
    exact ⟨fun _ => ⟨rfl, rfl⟩, fun _ => rfl⟩
