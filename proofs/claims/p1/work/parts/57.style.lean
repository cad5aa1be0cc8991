/-! The styles. Printed by wip/whole/gen/p57.py -/
def ySc (i : Nat) : Nat := if i < 2 then 2 else 3
def yPa (i : Nat) : Nat := if i = 0 then 1 else if i = 1 then 2 else 3
def yCe (i : Nat) : Nat := if i = 0 then 1 else i
def yTa (i : Nat) (nd : Int32) : Int32 := ((nd + 2 * yS i) - 1) / (2 * yS i) * (2 * yS i)
theorem aS_ok : ∀ p, p < 8 → aS p < 28 ∧ (st_b (aS p)).length = 8 := by decide
abbrev spR (p q : Nat) : Int32 := (st_b (aS p)).getD q 0 - 48
/-- the space between two classes -/
def spB (i p q : Nat) : Int32 := if spR p q = 1 then yS i else if ¬ i < 2 then 0 else if spR p q = 2 then 4 * yS i / 3 else if spR p q = 3 then 5 * yS i / 3 else if spR p q = 4 then yS i else 0
theorem sp_out {x : Int32} (h2 : ¬ x = 2) (h3 : ¬ x = 3) (h4 : ¬ x = 4) : x.toInt < 2 ∨ 4 < x.toInt := by
  have g2 : ¬ x.toInt = 2 := fun z => h2 (Int32.toInt_inj.mp z)
  have g3 : ¬ x.toInt = 3 := fun z => h3 (Int32.toInt_inj.mp z)
  have g4 : ¬ x.toInt = 4 := fun z => h4 (Int32.toInt_inj.mp z)
  omega
set_option maxHeartbeats 4000000 in
set_option maxRecDepth 100000 in
theorem m_Sy_isLarge (l : Launch) (D : va_G) (ct : Nat → ClassId) (b : Nat) (RO : State → Prop) (sA sV : Nat → Nat) (hSt : ∀ U, RO U → ro_S b sA sV U) (kA aA yA : Nat → Nat) (tK tS tM : Nat) (hEn : ∀ U, RO U → ro_E b sA kA aA yA tK tS tM U) (hAd : ad_ok kA aA yA) (r n i : Nat) (hi : i < 4) (h : fh_H) : fh_C l D fh_cl (fh_tys ct) b RO y_Sy_isLarge (Cond.code y_Sy_isLarge c_Sy_isLarge 1 (Option.some FieldType.boolean) :: fh_T) (fh_rm r 0 0) [.ref (yA i)] h n (fun v h' n' => v = some (.int (if i < 2 then 1 else 0)) ∧ h' = h ∧ n' = n) 0 0 := by
  refine fh_enter (by decide) (Nat.le_of_ble_eq_true rfl) [(0, .ref (yA i))] rfl ?_
  intro p e s m args below meth c H ls X hP hS hl
  have hx := X.1
  have hb := X.2.1
  have hml := X.2.2.1
  have hown : s.vm.findClass "FormulaSetter$Style" = some m.cls := X.2.2.2.1
  have hT := X.2.2.2.2.1
  have hK := X.2.2.2.2.2.1
  have hRO := X.2.2.2.2.2.2.1
  have hnm : meth.name = "isLarge" := X.2.2.2.2.2.2.2.2.2.2
  rcases (by omega : i = 0 ∨ i = 1 ∨ i = 2 ∨ i = 3) with rfl | rfl | rfl | rfl
  · refine lv_aload_n hx hb (fh_d d_Sy_isLarge 0 rfl) rfl (lv_at hl 0 rfl) ?_
    refine va_gets (own := "FormulaSetter$Style") (ref := "FormulaSetter$Style") (n := "DISPLAY") hx hb ((hEn _ hRO).2.2.1 0 (by decide)).1 hS hown (hT _ w713) (fun _ h9 => h9) (fh_d d_Sy_isLarge 1 rfl) ?_
    refine lv_acmp_eq (rx := some (yA 0)) (ry := some (yA 0)) (tgt := 14) hx hb (fh_d d_Sy_isLarge 2 rfl) rfl (fun c1 => ?_) (fun c1 => absurd c1 (Classical.not_not.mpr rfl))
    refine lv_iconst (v := 1) hx hb (fh_d d_Sy_isLarge 6 rfl) (by decide) ?_
    refine lv_goto (tgt := 19) hx hb (fh_d d_Sy_isLarge 7 rfl) rfl ?_
    exact fh_zret X hP hS (fh_d d_Sy_isLarge 9 rfl) (by decide) ⟨rfl, rfl, rfl⟩
  · refine lv_aload_n hx hb (fh_d d_Sy_isLarge 0 rfl) rfl (lv_at hl 0 rfl) ?_
    refine va_gets (own := "FormulaSetter$Style") (ref := "FormulaSetter$Style") (n := "DISPLAY") hx hb ((hEn _ hRO).2.2.1 0 (by decide)).1 hS hown (hT _ w713) (fun _ h9 => h9) (fh_d d_Sy_isLarge 1 rfl) ?_
    refine lv_acmp_eq (rx := some (yA 1)) (ry := some (yA 0)) (tgt := 14) hx hb (fh_d d_Sy_isLarge 2 rfl) rfl (fun c2 => absurd c2 (fun z => absurd (hAd.2.2 _ _ (by decide) (by decide) (Option.some.inj z)) (by decide))) (fun c2 => ?_)
    refine lv_aload_n hx hb (fh_d d_Sy_isLarge 3 rfl) rfl (lv_at hl 0 rfl) ?_
    refine va_gets (own := "FormulaSetter$Style") (ref := "FormulaSetter$Style") (n := "TEXT") hx hb ((hEn _ hRO).2.2.1 1 (by decide)).1 hS hown (hT _ w714) (fun _ h9 => h9) (fh_d d_Sy_isLarge 4 rfl) ?_
    refine lv_acmp_ne (rx := some (yA 1)) (ry := some (yA 1)) (tgt := 18) hx hb (fh_d d_Sy_isLarge 5 rfl) rfl (fun c3 => absurd c3 (Classical.not_not.mpr rfl)) (fun c3 => ?_)
    refine lv_iconst (v := 1) hx hb (fh_d d_Sy_isLarge 6 rfl) (by decide) ?_
    refine lv_goto (tgt := 19) hx hb (fh_d d_Sy_isLarge 7 rfl) rfl ?_
    exact fh_zret X hP hS (fh_d d_Sy_isLarge 9 rfl) (by decide) ⟨rfl, rfl, rfl⟩
  · refine lv_aload_n hx hb (fh_d d_Sy_isLarge 0 rfl) rfl (lv_at hl 0 rfl) ?_
    refine va_gets (own := "FormulaSetter$Style") (ref := "FormulaSetter$Style") (n := "DISPLAY") hx hb ((hEn _ hRO).2.2.1 0 (by decide)).1 hS hown (hT _ w713) (fun _ h9 => h9) (fh_d d_Sy_isLarge 1 rfl) ?_
    refine lv_acmp_eq (rx := some (yA 2)) (ry := some (yA 0)) (tgt := 14) hx hb (fh_d d_Sy_isLarge 2 rfl) rfl (fun c4 => absurd c4 (fun z => absurd (hAd.2.2 _ _ (by decide) (by decide) (Option.some.inj z)) (by decide))) (fun c4 => ?_)
    refine lv_aload_n hx hb (fh_d d_Sy_isLarge 3 rfl) rfl (lv_at hl 0 rfl) ?_
    refine va_gets (own := "FormulaSetter$Style") (ref := "FormulaSetter$Style") (n := "TEXT") hx hb ((hEn _ hRO).2.2.1 1 (by decide)).1 hS hown (hT _ w714) (fun _ h9 => h9) (fh_d d_Sy_isLarge 4 rfl) ?_
    refine lv_acmp_ne (rx := some (yA 2)) (ry := some (yA 1)) (tgt := 18) hx hb (fh_d d_Sy_isLarge 5 rfl) rfl (fun c5 => ?_) (fun c5 => absurd c5 (fun z => absurd (hAd.2.2 _ _ (by decide) (by decide) (Option.some.inj z)) (by decide)))
    refine lv_iconst (v := 0) hx hb (fh_d d_Sy_isLarge 8 rfl) (by decide) ?_
    exact fh_zret X hP hS (fh_d d_Sy_isLarge 9 rfl) (by decide) ⟨rfl, rfl, rfl⟩
  · refine lv_aload_n hx hb (fh_d d_Sy_isLarge 0 rfl) rfl (lv_at hl 0 rfl) ?_
    refine va_gets (own := "FormulaSetter$Style") (ref := "FormulaSetter$Style") (n := "DISPLAY") hx hb ((hEn _ hRO).2.2.1 0 (by decide)).1 hS hown (hT _ w713) (fun _ h9 => h9) (fh_d d_Sy_isLarge 1 rfl) ?_
    refine lv_acmp_eq (rx := some (yA 3)) (ry := some (yA 0)) (tgt := 14) hx hb (fh_d d_Sy_isLarge 2 rfl) rfl (fun c6 => absurd c6 (fun z => absurd (hAd.2.2 _ _ (by decide) (by decide) (Option.some.inj z)) (by decide))) (fun c6 => ?_)
    refine lv_aload_n hx hb (fh_d d_Sy_isLarge 3 rfl) rfl (lv_at hl 0 rfl) ?_
    refine va_gets (own := "FormulaSetter$Style") (ref := "FormulaSetter$Style") (n := "TEXT") hx hb ((hEn _ hRO).2.2.1 1 (by decide)).1 hS hown (hT _ w714) (fun _ h9 => h9) (fh_d d_Sy_isLarge 4 rfl) ?_
    refine lv_acmp_ne (rx := some (yA 3)) (ry := some (yA 1)) (tgt := 18) hx hb (fh_d d_Sy_isLarge 5 rfl) rfl (fun c7 => ?_) (fun c7 => absurd c7 (fun z => absurd (hAd.2.2 _ _ (by decide) (by decide) (Option.some.inj z)) (by decide)))
    refine lv_iconst (v := 0) hx hb (fh_d d_Sy_isLarge 8 rfl) (by decide) ?_
    exact fh_zret X hP hS (fh_d d_Sy_isLarge 9 rfl) (by decide) ⟨rfl, rfl, rfl⟩

set_option maxHeartbeats 4000000 in
set_option maxRecDepth 100000 in
theorem m_Sy_forScripts (l : Launch) (D : va_G) (ct : Nat → ClassId) (b : Nat) (RO : State → Prop) (hR : fh_R b RO) (sA sV : Nat → Nat) (hSt : ∀ U, RO U → ro_S b sA sV U) (kA aA yA : Nat → Nat) (tK tS tM : Nat) (hEn : ∀ U, RO U → ro_E b sA kA aA yA tK tS tM U) (hAd : ad_ok kA aA yA) (r n i : Nat) (hi : i < 4) (hr : 1 ≤ r) (h : fh_H) : fh_C l D fh_cl (fh_tys ct) b RO y_Sy_forScripts (Cond.code y_Sy_forScripts c_Sy_forScripts 1 (Option.some (FieldType.object "FormulaSetter$Style")) :: fh_T) (fh_rm r 0 0) [.ref (yA i)] h n (fun v h' n' => v = some (.ref (yA (ySc i))) ∧ h' = h ∧ n' = n) 0 0 := by
  refine fh_enter (by decide) (Nat.le_of_ble_eq_true rfl) [(0, .ref (yA i))] rfl ?_
  intro p e s m args below meth c H ls X hP hS hl
  have hx := X.1
  have hb := X.2.1
  have hml := X.2.2.1
  have hown : s.vm.findClass "FormulaSetter$Style" = some m.cls := X.2.2.2.1
  have hT := X.2.2.2.2.1
  have hK := X.2.2.2.2.2.1
  have hRO := X.2.2.2.2.2.2.1
  have hnm : meth.name = "forScripts" := X.2.2.2.2.2.2.2.2.2.2
  rcases (by omega : i = 0 ∨ i = 1 ∨ i = 2 ∨ i = 3) with rfl | rfl | rfl | rfl
  · refine lv_aload_n hx hb (fh_d d_Sy_forScripts 0 rfl) rfl (lv_at hl 0 rfl) ?_
    refine fh_callV (cc' := c_Sy_isLarge) (nL' := 1) (rest := []) (a := yA 0) (As := []) X hR (m_Sy_isLarge l D ct b RO sA sV hSt kA aA yA tK tS tM hEn hAd (r - 1) n 0 (by decide) h) w800 w797 w798 w799 w24 ⟨by decide, by decide, by show _ = some 0; decide +kernel⟩ (by omega) (by decide) (fs_recv ((hEn _ hRO).2.2.1 0 (by decide)).2.1 hS) hP hS hl.1 rfl (by exact Nat.le_of_ble_eq_true rfl) (fh_d d_Sy_forScripts 1 rfl) ⟨Nat.le_refl _, Nat.le_refl _⟩ (fun v9 h9 n9 H locs hq hP hS => ?_)
    obtain ⟨rfl, u1, u2⟩ := hq
    rw [u1, u2] at hP
    refine lv_if_eq (tgt := 13) hx hb (fh_d d_Sy_forScripts 2 rfl) rfl (fun c3 => absurd c3 (by decide)) (fun c3 => ?_)
    refine va_gets (own := "FormulaSetter$Style") (ref := "FormulaSetter$Style") (n := "SCRIPT") hx hb ((hEn _ hRO).2.2.1 2 (by decide)).1 hS hown (hT _ w716) (fun _ h9 => h9) (fh_d d_Sy_forScripts 3 rfl) ?_
    refine lv_goto (tgt := 16) hx hb (fh_d d_Sy_forScripts 4 rfl) rfl ?_
    exact fh_aret (r := some (yA 2)) X hP hS (fh_d d_Sy_forScripts 6 rfl) ⟨rfl, rfl, rfl⟩
  · refine lv_aload_n hx hb (fh_d d_Sy_forScripts 0 rfl) rfl (lv_at hl 0 rfl) ?_
    refine fh_callV (cc' := c_Sy_isLarge) (nL' := 1) (rest := []) (a := yA 1) (As := []) X hR (m_Sy_isLarge l D ct b RO sA sV hSt kA aA yA tK tS tM hEn hAd (r - 1) n 1 (by decide) h) w800 w797 w798 w799 w24 ⟨by decide, by decide, by show _ = some 0; decide +kernel⟩ (by omega) (by decide) (fs_recv ((hEn _ hRO).2.2.1 1 (by decide)).2.1 hS) hP hS hl.1 rfl (by exact Nat.le_of_ble_eq_true rfl) (fh_d d_Sy_forScripts 1 rfl) ⟨Nat.le_refl _, Nat.le_refl _⟩ (fun v9 h9 n9 H locs hq hP hS => ?_)
    obtain ⟨rfl, u4, u5⟩ := hq
    rw [u4, u5] at hP
    refine lv_if_eq (tgt := 13) hx hb (fh_d d_Sy_forScripts 2 rfl) rfl (fun c6 => absurd c6 (by decide)) (fun c6 => ?_)
    refine va_gets (own := "FormulaSetter$Style") (ref := "FormulaSetter$Style") (n := "SCRIPT") hx hb ((hEn _ hRO).2.2.1 2 (by decide)).1 hS hown (hT _ w716) (fun _ h9 => h9) (fh_d d_Sy_forScripts 3 rfl) ?_
    refine lv_goto (tgt := 16) hx hb (fh_d d_Sy_forScripts 4 rfl) rfl ?_
    exact fh_aret (r := some (yA 2)) X hP hS (fh_d d_Sy_forScripts 6 rfl) ⟨rfl, rfl, rfl⟩
  · refine lv_aload_n hx hb (fh_d d_Sy_forScripts 0 rfl) rfl (lv_at hl 0 rfl) ?_
    refine fh_callV (cc' := c_Sy_isLarge) (nL' := 1) (rest := []) (a := yA 2) (As := []) X hR (m_Sy_isLarge l D ct b RO sA sV hSt kA aA yA tK tS tM hEn hAd (r - 1) n 2 (by decide) h) w800 w797 w798 w799 w24 ⟨by decide, by decide, by show _ = some 0; decide +kernel⟩ (by omega) (by decide) (fs_recv ((hEn _ hRO).2.2.1 2 (by decide)).2.1 hS) hP hS hl.1 rfl (by exact Nat.le_of_ble_eq_true rfl) (fh_d d_Sy_forScripts 1 rfl) ⟨Nat.le_refl _, Nat.le_refl _⟩ (fun v9 h9 n9 H locs hq hP hS => ?_)
    obtain ⟨rfl, u7, u8⟩ := hq
    rw [u7, u8] at hP
    refine lv_if_eq (tgt := 13) hx hb (fh_d d_Sy_forScripts 2 rfl) rfl (fun c9 => ?_) (fun c9 => absurd c9 (Classical.not_not.mpr rfl))
    refine va_gets (own := "FormulaSetter$Style") (ref := "FormulaSetter$Style") (n := "LEAST") hx hb ((hEn _ hRO).2.2.1 3 (by decide)).1 hS hown (hT _ w718) (fun _ h9 => h9) (fh_d d_Sy_forScripts 5 rfl) ?_
    exact fh_aret (r := some (yA 3)) X hP hS (fh_d d_Sy_forScripts 6 rfl) ⟨rfl, rfl, rfl⟩
  · refine lv_aload_n hx hb (fh_d d_Sy_forScripts 0 rfl) rfl (lv_at hl 0 rfl) ?_
    refine fh_callV (cc' := c_Sy_isLarge) (nL' := 1) (rest := []) (a := yA 3) (As := []) X hR (m_Sy_isLarge l D ct b RO sA sV hSt kA aA yA tK tS tM hEn hAd (r - 1) n 3 (by decide) h) w800 w797 w798 w799 w24 ⟨by decide, by decide, by show _ = some 0; decide +kernel⟩ (by omega) (by decide) (fs_recv ((hEn _ hRO).2.2.1 3 (by decide)).2.1 hS) hP hS hl.1 rfl (by exact Nat.le_of_ble_eq_true rfl) (fh_d d_Sy_forScripts 1 rfl) ⟨Nat.le_refl _, Nat.le_refl _⟩ (fun v9 h9 n9 H locs hq hP hS => ?_)
    obtain ⟨rfl, u10, u11⟩ := hq
    rw [u10, u11] at hP
    refine lv_if_eq (tgt := 13) hx hb (fh_d d_Sy_forScripts 2 rfl) rfl (fun c12 => ?_) (fun c12 => absurd c12 (Classical.not_not.mpr rfl))
    refine va_gets (own := "FormulaSetter$Style") (ref := "FormulaSetter$Style") (n := "LEAST") hx hb ((hEn _ hRO).2.2.1 3 (by decide)).1 hS hown (hT _ w718) (fun _ h9 => h9) (fh_d d_Sy_forScripts 5 rfl) ?_
    exact fh_aret (r := some (yA 3)) X hP hS (fh_d d_Sy_forScripts 6 rfl) ⟨rfl, rfl, rfl⟩

set_option maxHeartbeats 4000000 in
set_option maxRecDepth 100000 in
theorem m_Sy_forParts (l : Launch) (D : va_G) (ct : Nat → ClassId) (b : Nat) (RO : State → Prop) (sA sV : Nat → Nat) (hSt : ∀ U, RO U → ro_S b sA sV U) (kA aA yA : Nat → Nat) (tK tS tM : Nat) (hEn : ∀ U, RO U → ro_E b sA kA aA yA tK tS tM U) (hAd : ad_ok kA aA yA) (r n i : Nat) (hi : i < 4) (h : fh_H) : fh_C l D fh_cl (fh_tys ct) b RO y_Sy_forParts (Cond.code y_Sy_forParts c_Sy_forParts 1 (Option.some (FieldType.object "FormulaSetter$Style")) :: fh_T) (fh_rm r 0 0) [.ref (yA i)] h n (fun v h' n' => v = some (.ref (yA (yPa i))) ∧ h' = h ∧ n' = n) 0 0 := by
  refine fh_enter (by decide) (Nat.le_of_ble_eq_true rfl) [(0, .ref (yA i))] rfl ?_
  intro p e s m args below meth c H ls X hP hS hl
  have hx := X.1
  have hb := X.2.1
  have hml := X.2.2.1
  have hown : s.vm.findClass "FormulaSetter$Style" = some m.cls := X.2.2.2.1
  have hT := X.2.2.2.2.1
  have hK := X.2.2.2.2.2.1
  have hRO := X.2.2.2.2.2.2.1
  have hnm : meth.name = "forParts" := X.2.2.2.2.2.2.2.2.2.2
  rcases (by omega : i = 0 ∨ i = 1 ∨ i = 2 ∨ i = 3) with rfl | rfl | rfl | rfl
  · refine lv_aload_n hx hb (fh_d d_Sy_forParts 0 rfl) rfl (lv_at hl 0 rfl) ?_
    refine va_gets (own := "FormulaSetter$Style") (ref := "FormulaSetter$Style") (n := "DISPLAY") hx hb ((hEn _ hRO).2.2.1 0 (by decide)).1 hS hown (hT _ w713) (fun _ h9 => h9) (fh_d d_Sy_forParts 1 rfl) ?_
    refine lv_acmp_ne (rx := some (yA 0)) (ry := some (yA 0)) (tgt := 11) hx hb (fh_d d_Sy_forParts 2 rfl) rfl (fun c1 => absurd c1 (Classical.not_not.mpr rfl)) (fun c1 => ?_)
    refine va_gets (own := "FormulaSetter$Style") (ref := "FormulaSetter$Style") (n := "TEXT") hx hb ((hEn _ hRO).2.2.1 1 (by decide)).1 hS hown (hT _ w714) (fun _ h9 => h9) (fh_d d_Sy_forParts 3 rfl) ?_
    exact fh_aret (r := some (yA 1)) X hP hS (fh_d d_Sy_forParts 4 rfl) ⟨rfl, rfl, rfl⟩
  · refine lv_aload_n hx hb (fh_d d_Sy_forParts 0 rfl) rfl (lv_at hl 0 rfl) ?_
    refine va_gets (own := "FormulaSetter$Style") (ref := "FormulaSetter$Style") (n := "DISPLAY") hx hb ((hEn _ hRO).2.2.1 0 (by decide)).1 hS hown (hT _ w713) (fun _ h9 => h9) (fh_d d_Sy_forParts 1 rfl) ?_
    refine lv_acmp_ne (rx := some (yA 1)) (ry := some (yA 0)) (tgt := 11) hx hb (fh_d d_Sy_forParts 2 rfl) rfl (fun c2 => ?_) (fun c2 => absurd c2 (fun z => absurd (hAd.2.2 _ _ (by decide) (by decide) (Option.some.inj z)) (by decide)))
    refine lv_aload_n hx hb (fh_d d_Sy_forParts 5 rfl) rfl (lv_at hl 0 rfl) ?_
    refine va_gets (own := "FormulaSetter$Style") (ref := "FormulaSetter$Style") (n := "TEXT") hx hb ((hEn _ hRO).2.2.1 1 (by decide)).1 hS hown (hT _ w714) (fun _ h9 => h9) (fh_d d_Sy_forParts 6 rfl) ?_
    refine lv_acmp_ne (rx := some (yA 1)) (ry := some (yA 1)) (tgt := 24) hx hb (fh_d d_Sy_forParts 7 rfl) rfl (fun c3 => absurd c3 (Classical.not_not.mpr rfl)) (fun c3 => ?_)
    refine va_gets (own := "FormulaSetter$Style") (ref := "FormulaSetter$Style") (n := "SCRIPT") hx hb ((hEn _ hRO).2.2.1 2 (by decide)).1 hS hown (hT _ w716) (fun _ h9 => h9) (fh_d d_Sy_forParts 8 rfl) ?_
    refine lv_goto (tgt := 27) hx hb (fh_d d_Sy_forParts 9 rfl) rfl ?_
    exact fh_aret (r := some (yA 2)) X hP hS (fh_d d_Sy_forParts 11 rfl) ⟨rfl, rfl, rfl⟩
  · refine lv_aload_n hx hb (fh_d d_Sy_forParts 0 rfl) rfl (lv_at hl 0 rfl) ?_
    refine va_gets (own := "FormulaSetter$Style") (ref := "FormulaSetter$Style") (n := "DISPLAY") hx hb ((hEn _ hRO).2.2.1 0 (by decide)).1 hS hown (hT _ w713) (fun _ h9 => h9) (fh_d d_Sy_forParts 1 rfl) ?_
    refine lv_acmp_ne (rx := some (yA 2)) (ry := some (yA 0)) (tgt := 11) hx hb (fh_d d_Sy_forParts 2 rfl) rfl (fun c4 => ?_) (fun c4 => absurd c4 (fun z => absurd (hAd.2.2 _ _ (by decide) (by decide) (Option.some.inj z)) (by decide)))
    refine lv_aload_n hx hb (fh_d d_Sy_forParts 5 rfl) rfl (lv_at hl 0 rfl) ?_
    refine va_gets (own := "FormulaSetter$Style") (ref := "FormulaSetter$Style") (n := "TEXT") hx hb ((hEn _ hRO).2.2.1 1 (by decide)).1 hS hown (hT _ w714) (fun _ h9 => h9) (fh_d d_Sy_forParts 6 rfl) ?_
    refine lv_acmp_ne (rx := some (yA 2)) (ry := some (yA 1)) (tgt := 24) hx hb (fh_d d_Sy_forParts 7 rfl) rfl (fun c5 => ?_) (fun c5 => absurd c5 (fun z => absurd (hAd.2.2 _ _ (by decide) (by decide) (Option.some.inj z)) (by decide)))
    refine va_gets (own := "FormulaSetter$Style") (ref := "FormulaSetter$Style") (n := "LEAST") hx hb ((hEn _ hRO).2.2.1 3 (by decide)).1 hS hown (hT _ w718) (fun _ h9 => h9) (fh_d d_Sy_forParts 10 rfl) ?_
    exact fh_aret (r := some (yA 3)) X hP hS (fh_d d_Sy_forParts 11 rfl) ⟨rfl, rfl, rfl⟩
  · refine lv_aload_n hx hb (fh_d d_Sy_forParts 0 rfl) rfl (lv_at hl 0 rfl) ?_
    refine va_gets (own := "FormulaSetter$Style") (ref := "FormulaSetter$Style") (n := "DISPLAY") hx hb ((hEn _ hRO).2.2.1 0 (by decide)).1 hS hown (hT _ w713) (fun _ h9 => h9) (fh_d d_Sy_forParts 1 rfl) ?_
    refine lv_acmp_ne (rx := some (yA 3)) (ry := some (yA 0)) (tgt := 11) hx hb (fh_d d_Sy_forParts 2 rfl) rfl (fun c6 => ?_) (fun c6 => absurd c6 (fun z => absurd (hAd.2.2 _ _ (by decide) (by decide) (Option.some.inj z)) (by decide)))
    refine lv_aload_n hx hb (fh_d d_Sy_forParts 5 rfl) rfl (lv_at hl 0 rfl) ?_
    refine va_gets (own := "FormulaSetter$Style") (ref := "FormulaSetter$Style") (n := "TEXT") hx hb ((hEn _ hRO).2.2.1 1 (by decide)).1 hS hown (hT _ w714) (fun _ h9 => h9) (fh_d d_Sy_forParts 6 rfl) ?_
    refine lv_acmp_ne (rx := some (yA 3)) (ry := some (yA 1)) (tgt := 24) hx hb (fh_d d_Sy_forParts 7 rfl) rfl (fun c7 => ?_) (fun c7 => absurd c7 (fun z => absurd (hAd.2.2 _ _ (by decide) (by decide) (Option.some.inj z)) (by decide)))
    refine va_gets (own := "FormulaSetter$Style") (ref := "FormulaSetter$Style") (n := "LEAST") hx hb ((hEn _ hRO).2.2.1 3 (by decide)).1 hS hown (hT _ w718) (fun _ h9 => h9) (fh_d d_Sy_forParts 10 rfl) ?_
    exact fh_aret (r := some (yA 3)) X hP hS (fh_d d_Sy_forParts 11 rfl) ⟨rfl, rfl, rfl⟩

set_option maxHeartbeats 4000000 in
set_option maxRecDepth 100000 in
theorem m_Sy_forCells (l : Launch) (D : va_G) (ct : Nat → ClassId) (b : Nat) (RO : State → Prop) (sA sV : Nat → Nat) (hSt : ∀ U, RO U → ro_S b sA sV U) (kA aA yA : Nat → Nat) (tK tS tM : Nat) (hEn : ∀ U, RO U → ro_E b sA kA aA yA tK tS tM U) (hAd : ad_ok kA aA yA) (r n i : Nat) (hi : i < 4) (h : fh_H) : fh_C l D fh_cl (fh_tys ct) b RO y_Sy_forCells (Cond.code y_Sy_forCells c_Sy_forCells 1 (Option.some (FieldType.object "FormulaSetter$Style")) :: fh_T) (fh_rm r 0 0) [.ref (yA i)] h n (fun v h' n' => v = some (.ref (yA (yCe i))) ∧ h' = h ∧ n' = n) 0 0 := by
  refine fh_enter (by decide) (Nat.le_of_ble_eq_true rfl) [(0, .ref (yA i))] rfl ?_
  intro p e s m args below meth c H ls X hP hS hl
  have hx := X.1
  have hb := X.2.1
  have hml := X.2.2.1
  have hown : s.vm.findClass "FormulaSetter$Style" = some m.cls := X.2.2.2.1
  have hT := X.2.2.2.2.1
  have hK := X.2.2.2.2.2.1
  have hRO := X.2.2.2.2.2.2.1
  have hnm : meth.name = "forCells" := X.2.2.2.2.2.2.2.2.2.2
  rcases (by omega : i = 0 ∨ i = 1 ∨ i = 2 ∨ i = 3) with rfl | rfl | rfl | rfl
  · refine lv_aload_n hx hb (fh_d d_Sy_forCells 0 rfl) rfl (lv_at hl 0 rfl) ?_
    refine va_gets (own := "FormulaSetter$Style") (ref := "FormulaSetter$Style") (n := "DISPLAY") hx hb ((hEn _ hRO).2.2.1 0 (by decide)).1 hS hown (hT _ w713) (fun _ h9 => h9) (fh_d d_Sy_forCells 1 rfl) ?_
    refine lv_acmp_ne (rx := some (yA 0)) (ry := some (yA 0)) (tgt := 13) hx hb (fh_d d_Sy_forCells 2 rfl) rfl (fun c1 => absurd c1 (Classical.not_not.mpr rfl)) (fun c1 => ?_)
    refine va_gets (own := "FormulaSetter$Style") (ref := "FormulaSetter$Style") (n := "TEXT") hx hb ((hEn _ hRO).2.2.1 1 (by decide)).1 hS hown (hT _ w714) (fun _ h9 => h9) (fh_d d_Sy_forCells 3 rfl) ?_
    refine lv_goto (tgt := 14) hx hb (fh_d d_Sy_forCells 4 rfl) rfl ?_
    exact fh_aret (r := some (yA 1)) X hP hS (fh_d d_Sy_forCells 6 rfl) ⟨rfl, rfl, rfl⟩
  · refine lv_aload_n hx hb (fh_d d_Sy_forCells 0 rfl) rfl (lv_at hl 0 rfl) ?_
    refine va_gets (own := "FormulaSetter$Style") (ref := "FormulaSetter$Style") (n := "DISPLAY") hx hb ((hEn _ hRO).2.2.1 0 (by decide)).1 hS hown (hT _ w713) (fun _ h9 => h9) (fh_d d_Sy_forCells 1 rfl) ?_
    refine lv_acmp_ne (rx := some (yA 1)) (ry := some (yA 0)) (tgt := 13) hx hb (fh_d d_Sy_forCells 2 rfl) rfl (fun c2 => ?_) (fun c2 => absurd c2 (fun z => absurd (hAd.2.2 _ _ (by decide) (by decide) (Option.some.inj z)) (by decide)))
    refine lv_aload_n hx hb (fh_d d_Sy_forCells 5 rfl) rfl (lv_at hl 0 rfl) ?_
    exact fh_aret (r := some (yA 1)) X hP hS (fh_d d_Sy_forCells 6 rfl) ⟨rfl, rfl, rfl⟩
  · refine lv_aload_n hx hb (fh_d d_Sy_forCells 0 rfl) rfl (lv_at hl 0 rfl) ?_
    refine va_gets (own := "FormulaSetter$Style") (ref := "FormulaSetter$Style") (n := "DISPLAY") hx hb ((hEn _ hRO).2.2.1 0 (by decide)).1 hS hown (hT _ w713) (fun _ h9 => h9) (fh_d d_Sy_forCells 1 rfl) ?_
    refine lv_acmp_ne (rx := some (yA 2)) (ry := some (yA 0)) (tgt := 13) hx hb (fh_d d_Sy_forCells 2 rfl) rfl (fun c3 => ?_) (fun c3 => absurd c3 (fun z => absurd (hAd.2.2 _ _ (by decide) (by decide) (Option.some.inj z)) (by decide)))
    refine lv_aload_n hx hb (fh_d d_Sy_forCells 5 rfl) rfl (lv_at hl 0 rfl) ?_
    exact fh_aret (r := some (yA 2)) X hP hS (fh_d d_Sy_forCells 6 rfl) ⟨rfl, rfl, rfl⟩
  · refine lv_aload_n hx hb (fh_d d_Sy_forCells 0 rfl) rfl (lv_at hl 0 rfl) ?_
    refine va_gets (own := "FormulaSetter$Style") (ref := "FormulaSetter$Style") (n := "DISPLAY") hx hb ((hEn _ hRO).2.2.1 0 (by decide)).1 hS hown (hT _ w713) (fun _ h9 => h9) (fh_d d_Sy_forCells 1 rfl) ?_
    refine lv_acmp_ne (rx := some (yA 3)) (ry := some (yA 0)) (tgt := 13) hx hb (fh_d d_Sy_forCells 2 rfl) rfl (fun c4 => ?_) (fun c4 => absurd c4 (fun z => absurd (hAd.2.2 _ _ (by decide) (by decide) (Option.some.inj z)) (by decide)))
    refine lv_aload_n hx hb (fh_d d_Sy_forCells 5 rfl) rfl (lv_at hl 0 rfl) ?_
    exact fh_aret (r := some (yA 3)) X hP hS (fh_d d_Sy_forCells 6 rfl) ⟨rfl, rfl, rfl⟩

set_option maxHeartbeats 4000000 in
set_option maxRecDepth 100000 in
theorem m_Sy_tallFor (l : Launch) (D : va_G) (ct : Nat → ClassId) (b : Nat) (RO : State → Prop) (sA sV : Nat → Nat) (hSt : ∀ U, RO U → ro_S b sA sV U) (kA aA yA : Nat → Nat) (tK tS tM : Nat) (hEn : ∀ U, RO U → ro_E b sA kA aA yA tK tS tM U) (hAd : ad_ok kA aA yA) (r n i : Nat) (hi : i < 4) (nd : Int32) (h : fh_H) : fh_C l D fh_cl (fh_tys ct) b RO y_Sy_tallFor (Cond.code y_Sy_tallFor c_Sy_tallFor 3 (Option.some FieldType.int) :: fh_T) (fh_rm r 0 0) [.ref (yA i), .int nd] h n (fun v h' n' => v = some (.int (yTa i nd)) ∧ h' = h ∧ n' = n) 0 0 := by
  refine fh_enter (by decide) (Nat.le_of_ble_eq_true rfl) [(0, .ref (yA i)), (1, .int nd)] rfl ?_
  intro p e s m args below meth c H ls X hP hS hl
  have hx := X.1
  have hb := X.2.1
  have hml := X.2.2.1
  have hown : s.vm.findClass "FormulaSetter$Style" = some m.cls := X.2.2.2.1
  have hT := X.2.2.2.2.1
  have hK := X.2.2.2.2.2.1
  have hRO := X.2.2.2.2.2.2.1
  have hnm : meth.name = "tallFor" := X.2.2.2.2.2.2.2.2.2.2
  rcases (by omega : i = 0 ∨ i = 1 ∨ i = 2 ∨ i = 3) with rfl | rfl | rfl | rfl
  · refine lv_iconst (v := 2) hx hb (fh_d d_Sy_tallFor 0 rfl) (by decide) ?_
    refine lv_aload_n hx hb (fh_d d_Sy_tallFor 1 rfl) rfl (lv_at hl 0 rfl) ?_
    refine vk_getf (own := "FormulaSetter$Style") (ref := "FormulaSetter$Style") hx hb (((hEn _ hRO).2.2.1 0 (by decide)).2.2.2.1) hS hown (hT _ w1252) (fun _ h9 => h9) (fh_d d_Sy_tallFor 2 rfl) ?_
    refine lv_imul hx hb (fh_d d_Sy_tallFor 3 rfl) ?_
    refine lv_istore_n (lv' := [(2, .int (2 * (yS 0))), (0, .ref (yA 0)), (1, .int nd)]) hx hb (fh_d d_Sy_tallFor 4 rfl) rfl hl (by decide) rfl (fun ls hl => ?_)
    refine lv_iload_n hx hb (fh_d d_Sy_tallFor 5 rfl) rfl (lv_at hl 0 rfl) ?_
    refine lv_if_le (tgt := 23) hx hb (fh_d d_Sy_tallFor 6 rfl) rfl (fun c1 => absurd c1 (by decide)) (fun c1 => ?_)
    refine lv_iload_n hx hb (fh_d d_Sy_tallFor 7 rfl) rfl (lv_at hl 2 rfl) ?_
    refine lv_iload_n hx hb (fh_d d_Sy_tallFor 8 rfl) rfl (lv_at hl 0 rfl) ?_
    refine lv_iadd hx hb (fh_d d_Sy_tallFor 9 rfl) ?_
    refine lv_iconst (v := 1) hx hb (fh_d d_Sy_tallFor 10 rfl) (by decide) ?_
    refine lv_isub hx hb (fh_d d_Sy_tallFor 11 rfl) ?_
    refine lv_iload_n hx hb (fh_d d_Sy_tallFor 12 rfl) rfl (lv_at hl 0 rfl) ?_
    refine lv_idiv hx hb (fh_d d_Sy_tallFor 13 rfl) (by decide) ?_
    refine lv_iload_n hx hb (fh_d d_Sy_tallFor 14 rfl) rfl (lv_at hl 0 rfl) ?_
    refine lv_imul hx hb (fh_d d_Sy_tallFor 15 rfl) ?_
    refine lv_goto (tgt := 24) hx hb (fh_d d_Sy_tallFor 16 rfl) rfl ?_
    exact fh_iret X hP hS (fh_d d_Sy_tallFor 18 rfl) ⟨rfl, rfl, rfl⟩
  · refine lv_iconst (v := 2) hx hb (fh_d d_Sy_tallFor 0 rfl) (by decide) ?_
    refine lv_aload_n hx hb (fh_d d_Sy_tallFor 1 rfl) rfl (lv_at hl 0 rfl) ?_
    refine vk_getf (own := "FormulaSetter$Style") (ref := "FormulaSetter$Style") hx hb (((hEn _ hRO).2.2.1 1 (by decide)).2.2.2.1) hS hown (hT _ w1252) (fun _ h9 => h9) (fh_d d_Sy_tallFor 2 rfl) ?_
    refine lv_imul hx hb (fh_d d_Sy_tallFor 3 rfl) ?_
    refine lv_istore_n (lv' := [(2, .int (2 * (yS 1))), (0, .ref (yA 1)), (1, .int nd)]) hx hb (fh_d d_Sy_tallFor 4 rfl) rfl hl (by decide) rfl (fun ls hl => ?_)
    refine lv_iload_n hx hb (fh_d d_Sy_tallFor 5 rfl) rfl (lv_at hl 0 rfl) ?_
    refine lv_if_le (tgt := 23) hx hb (fh_d d_Sy_tallFor 6 rfl) rfl (fun c2 => absurd c2 (by decide)) (fun c2 => ?_)
    refine lv_iload_n hx hb (fh_d d_Sy_tallFor 7 rfl) rfl (lv_at hl 2 rfl) ?_
    refine lv_iload_n hx hb (fh_d d_Sy_tallFor 8 rfl) rfl (lv_at hl 0 rfl) ?_
    refine lv_iadd hx hb (fh_d d_Sy_tallFor 9 rfl) ?_
    refine lv_iconst (v := 1) hx hb (fh_d d_Sy_tallFor 10 rfl) (by decide) ?_
    refine lv_isub hx hb (fh_d d_Sy_tallFor 11 rfl) ?_
    refine lv_iload_n hx hb (fh_d d_Sy_tallFor 12 rfl) rfl (lv_at hl 0 rfl) ?_
    refine lv_idiv hx hb (fh_d d_Sy_tallFor 13 rfl) (by decide) ?_
    refine lv_iload_n hx hb (fh_d d_Sy_tallFor 14 rfl) rfl (lv_at hl 0 rfl) ?_
    refine lv_imul hx hb (fh_d d_Sy_tallFor 15 rfl) ?_
    refine lv_goto (tgt := 24) hx hb (fh_d d_Sy_tallFor 16 rfl) rfl ?_
    exact fh_iret X hP hS (fh_d d_Sy_tallFor 18 rfl) ⟨rfl, rfl, rfl⟩
  · refine lv_iconst (v := 2) hx hb (fh_d d_Sy_tallFor 0 rfl) (by decide) ?_
    refine lv_aload_n hx hb (fh_d d_Sy_tallFor 1 rfl) rfl (lv_at hl 0 rfl) ?_
    refine vk_getf (own := "FormulaSetter$Style") (ref := "FormulaSetter$Style") hx hb (((hEn _ hRO).2.2.1 2 (by decide)).2.2.2.1) hS hown (hT _ w1252) (fun _ h9 => h9) (fh_d d_Sy_tallFor 2 rfl) ?_
    refine lv_imul hx hb (fh_d d_Sy_tallFor 3 rfl) ?_
    refine lv_istore_n (lv' := [(2, .int (2 * (yS 2))), (0, .ref (yA 2)), (1, .int nd)]) hx hb (fh_d d_Sy_tallFor 4 rfl) rfl hl (by decide) rfl (fun ls hl => ?_)
    refine lv_iload_n hx hb (fh_d d_Sy_tallFor 5 rfl) rfl (lv_at hl 0 rfl) ?_
    refine lv_if_le (tgt := 23) hx hb (fh_d d_Sy_tallFor 6 rfl) rfl (fun c3 => absurd c3 (by decide)) (fun c3 => ?_)
    refine lv_iload_n hx hb (fh_d d_Sy_tallFor 7 rfl) rfl (lv_at hl 2 rfl) ?_
    refine lv_iload_n hx hb (fh_d d_Sy_tallFor 8 rfl) rfl (lv_at hl 0 rfl) ?_
    refine lv_iadd hx hb (fh_d d_Sy_tallFor 9 rfl) ?_
    refine lv_iconst (v := 1) hx hb (fh_d d_Sy_tallFor 10 rfl) (by decide) ?_
    refine lv_isub hx hb (fh_d d_Sy_tallFor 11 rfl) ?_
    refine lv_iload_n hx hb (fh_d d_Sy_tallFor 12 rfl) rfl (lv_at hl 0 rfl) ?_
    refine lv_idiv hx hb (fh_d d_Sy_tallFor 13 rfl) (by decide) ?_
    refine lv_iload_n hx hb (fh_d d_Sy_tallFor 14 rfl) rfl (lv_at hl 0 rfl) ?_
    refine lv_imul hx hb (fh_d d_Sy_tallFor 15 rfl) ?_
    refine lv_goto (tgt := 24) hx hb (fh_d d_Sy_tallFor 16 rfl) rfl ?_
    exact fh_iret X hP hS (fh_d d_Sy_tallFor 18 rfl) ⟨rfl, rfl, rfl⟩
  · refine lv_iconst (v := 2) hx hb (fh_d d_Sy_tallFor 0 rfl) (by decide) ?_
    refine lv_aload_n hx hb (fh_d d_Sy_tallFor 1 rfl) rfl (lv_at hl 0 rfl) ?_
    refine vk_getf (own := "FormulaSetter$Style") (ref := "FormulaSetter$Style") hx hb (((hEn _ hRO).2.2.1 3 (by decide)).2.2.2.1) hS hown (hT _ w1252) (fun _ h9 => h9) (fh_d d_Sy_tallFor 2 rfl) ?_
    refine lv_imul hx hb (fh_d d_Sy_tallFor 3 rfl) ?_
    refine lv_istore_n (lv' := [(2, .int (2 * (yS 3))), (0, .ref (yA 3)), (1, .int nd)]) hx hb (fh_d d_Sy_tallFor 4 rfl) rfl hl (by decide) rfl (fun ls hl => ?_)
    refine lv_iload_n hx hb (fh_d d_Sy_tallFor 5 rfl) rfl (lv_at hl 0 rfl) ?_
    refine lv_if_le (tgt := 23) hx hb (fh_d d_Sy_tallFor 6 rfl) rfl (fun c4 => absurd c4 (by decide)) (fun c4 => ?_)
    refine lv_iload_n hx hb (fh_d d_Sy_tallFor 7 rfl) rfl (lv_at hl 2 rfl) ?_
    refine lv_iload_n hx hb (fh_d d_Sy_tallFor 8 rfl) rfl (lv_at hl 0 rfl) ?_
    refine lv_iadd hx hb (fh_d d_Sy_tallFor 9 rfl) ?_
    refine lv_iconst (v := 1) hx hb (fh_d d_Sy_tallFor 10 rfl) (by decide) ?_
    refine lv_isub hx hb (fh_d d_Sy_tallFor 11 rfl) ?_
    refine lv_iload_n hx hb (fh_d d_Sy_tallFor 12 rfl) rfl (lv_at hl 0 rfl) ?_
    refine lv_idiv hx hb (fh_d d_Sy_tallFor 13 rfl) (by decide) ?_
    refine lv_iload_n hx hb (fh_d d_Sy_tallFor 14 rfl) rfl (lv_at hl 0 rfl) ?_
    refine lv_imul hx hb (fh_d d_Sy_tallFor 15 rfl) ?_
    refine lv_goto (tgt := 24) hx hb (fh_d d_Sy_tallFor 16 rfl) rfl ?_
    exact fh_iret X hP hS (fh_d d_Sy_tallFor 18 rfl) ⟨rfl, rfl, rfl⟩

set_option maxHeartbeats 4000000 in
set_option maxRecDepth 100000 in
theorem m_Sy_spaceBetween (l : Launch) (D : va_G) (ct : Nat → ClassId) (b : Nat) (RO : State → Prop) (hR : fh_R b RO) (sA sV : Nat → Nat) (hSt : ∀ U, RO U → ro_S b sA sV U) (kA aA yA : Nat → Nat) (tK tS tM : Nat) (hEn : ∀ U, RO U → ro_E b sA kA aA yA tK tS tM U) (hAd : ad_ok kA aA yA) (r n i : Nat) (hi : i < 4) (hr : 4 ≤ r) (p0 q0 : Nat) (hp0 : p0 < 8) (hq0 : q0 < 8) (h : fh_H) : fh_C l D fh_cl (fh_tys ct) b RO y_Sy_spaceBetween (Cond.code y_Sy_spaceBetween c_Sy_spaceBetween 4 (Option.some FieldType.int) :: fh_T) (fh_rm r 0 0) [.ref (yA i), .ref (aA p0), .ref (aA q0)] h n (fun v h' n' => v = some (.int (spB i p0 q0)) ∧ h' = h ∧ n' = n) 0 0 := by
  refine fh_enter (by decide) (Nat.le_of_ble_eq_true rfl) [(0, .ref (yA i)), (1, .ref (aA p0)), (2, .ref (aA q0))] rfl ?_
  intro p e s m args below meth c H ls X hP hS hl
  have hx := X.1
  have hb := X.2.1
  have hml := X.2.2.1
  have hown : s.vm.findClass "FormulaSetter$Style" = some m.cls := X.2.2.2.1
  have hT := X.2.2.2.2.1
  have hK := X.2.2.2.2.2.1
  have hRO := X.2.2.2.2.2.2.1
  have hnm : meth.name = "spaceBetween" := X.2.2.2.2.2.2.2.2.2.2
  refine lv_aload_n hx hb (fh_d d_Sy_spaceBetween 0 rfl) rfl (lv_at hl 1 rfl) ?_
  refine vk_getf (own := "FormulaSetter$Style") (ref := "FormulaSetter$Atom") hx hb (((hEn _ hRO).2.1 p0 hp0).2.2.2.2.1) hS hown (hT _ w1253) (fun _ h9 => h9) (fh_d d_Sy_spaceBetween 1 rfl) ?_
  refine lv_aload_n hx hb (fh_d d_Sy_spaceBetween 2 rfl) rfl (lv_at hl 2 rfl) ?_
  refine vk_getf (own := "FormulaSetter$Style") (ref := "FormulaSetter$Atom") hx hb (((hEn _ hRO).2.1 q0 hq0).2.2.2.1) hS hown (hT _ w1254) (fun _ h9 => h9) (fh_d d_Sy_spaceBetween 3 rfl) ?_
  refine fh_callV (cc' := c_St_charAt) (nL' := 2) (rest := []) (a := sA (aS p0)) (As := [.int (nI q0)]) X hR (m_St_charAt l D ct b RO hR sA sV hSt (r - 1) n (aS p0) q0 (by omega) (aS_ok p0 hp0).1 (by rw [(aS_ok p0 hp0).2]; exact hq0) h) w342 w829 w340 w341 w15 ⟨by decide, by decide, by show _ = some 1; decide +kernel⟩ (by omega) (by decide) (fs_recv ((hSt _ hRO).1 (aS p0) (aS_ok p0 hp0).1).1 hS) hP hS hl.1 rfl (by exact Nat.le_of_ble_eq_true rfl) (fh_d d_Sy_spaceBetween 4 rfl) ⟨Nat.le_refl _, Nat.le_refl _⟩ (fun v9 h9 n9 H locs hq hP hS => ?_)
  obtain ⟨rfl, u1, u2⟩ := hq
  rw [u1, u2] at hP
  refine lv_bipush (v := 48) hx hb (fh_d d_Sy_spaceBetween 5 rfl) (by decide) ?_
  refine lv_isub hx hb (fh_d d_Sy_spaceBetween 6 rfl) ?_
  refine lv_istore_n (lv' := [(3, .int (((st_b (aS p0)).getD q0 0) - 48)), (0, .ref (yA i)), (1, .ref (aA p0)), (2, .ref (aA q0))]) hx hb (fh_d d_Sy_spaceBetween 7 rfl) rfl hl (by decide) rfl (fun ls hl => ?_)
  refine lv_iload_n hx hb (fh_d d_Sy_spaceBetween 8 rfl) rfl (lv_at hl 0 rfl) ?_
  refine lv_iconst (v := 1) hx hb (fh_d d_Sy_spaceBetween 9 rfl) (by decide) ?_
  refine lv_icmp_ne (tgt := 25) hx hb (fh_d d_Sy_spaceBetween 10 rfl) rfl (fun c3 => ?_) (fun c3 => ?_)
  · refine lv_aload_n hx hb (fh_d d_Sy_spaceBetween 14 rfl) rfl (lv_at hl 1 rfl) ?_
    refine fh_callV (cc' := c_Sy_isLarge) (nL' := 1) (rest := []) (a := yA i) (As := []) X hR (m_Sy_isLarge l D ct b RO sA sV hSt kA aA yA tK tS tM hEn hAd (r - 1) n i hi h) w800 w797 w798 w799 w24 ⟨by decide, by decide, by show _ = some 0; decide +kernel⟩ (by omega) (by decide) (fs_recv ((hEn _ hRO).2.2.1 i hi).2.1 hS) hP hS hl.1 rfl (by exact Nat.le_of_ble_eq_true rfl) (fh_d d_Sy_spaceBetween 15 rfl) ⟨Nat.le_refl _, Nat.le_refl _⟩ (fun v9 h9 n9 H locs hq hP hS => ?_)
    obtain ⟨rfl, u4, u5⟩ := hq
    rw [u4, u5] at hP
    refine lv_if_ne (tgt := 34) hx hb (fh_d d_Sy_spaceBetween 16 rfl) rfl (fun c6 => ?_) (fun c6 => ?_)
    · have hbig : i < 2 := Classical.byContradiction fun z => c6 (if_neg z)
      refine lv_iload_n hx hb (fh_d d_Sy_spaceBetween 19 rfl) rfl (lv_at hl 0 rfl) ?_
      by_cases g2 : (st_b (aS p0)).getD q0 0 - 48 = 2
      · refine lv_tableIn (tgt := 60) (off := 25) hx hb (fh_d d_Sy_spaceBetween 20 rfl) (by rw [g2]; decide) (by rw [g2]; decide) (by rw [g2]; rfl) rfl ?_
        refine lv_iconst (v := 4) hx hb (fh_d d_Sy_spaceBetween 21 rfl) (by decide) ?_
        refine lv_aload_n hx hb (fh_d d_Sy_spaceBetween 22 rfl) rfl (lv_at hl 1 rfl) ?_
        refine vk_getf (own := "FormulaSetter$Style") (ref := "FormulaSetter$Style") hx hb (((hEn _ hRO).2.2.1 i hi).2.2.2.1) hS hown (hT _ w1252) (fun _ h9 => h9) (fh_d d_Sy_spaceBetween 23 rfl) ?_
        refine lv_imul hx hb (fh_d d_Sy_spaceBetween 24 rfl) ?_
        refine lv_iconst (v := 3) hx hb (fh_d d_Sy_spaceBetween 25 rfl) (by decide) ?_
        refine lv_idiv hx hb (fh_d d_Sy_spaceBetween 26 rfl) (by decide) ?_
        exact fh_iret X hP hS (fh_d d_Sy_spaceBetween 27 rfl) ⟨by unfold spB; rw [if_neg c3, if_neg (Classical.not_not.mpr hbig), if_pos g2], rfl, rfl⟩
      by_cases g3 : (st_b (aS p0)).getD q0 0 - 48 = 3
      · refine lv_tableIn (tgt := 69) (off := 34) hx hb (fh_d d_Sy_spaceBetween 20 rfl) (by rw [g3]; decide) (by rw [g3]; decide) (by rw [g3]; rfl) rfl ?_
        refine lv_iconst (v := 5) hx hb (fh_d d_Sy_spaceBetween 28 rfl) (by decide) ?_
        refine lv_aload_n hx hb (fh_d d_Sy_spaceBetween 29 rfl) rfl (lv_at hl 1 rfl) ?_
        refine vk_getf (own := "FormulaSetter$Style") (ref := "FormulaSetter$Style") hx hb (((hEn _ hRO).2.2.1 i hi).2.2.2.1) hS hown (hT _ w1252) (fun _ h9 => h9) (fh_d d_Sy_spaceBetween 30 rfl) ?_
        refine lv_imul hx hb (fh_d d_Sy_spaceBetween 31 rfl) ?_
        refine lv_iconst (v := 3) hx hb (fh_d d_Sy_spaceBetween 32 rfl) (by decide) ?_
        refine lv_idiv hx hb (fh_d d_Sy_spaceBetween 33 rfl) (by decide) ?_
        exact fh_iret X hP hS (fh_d d_Sy_spaceBetween 34 rfl) ⟨by unfold spB; rw [if_neg c3, if_neg (Classical.not_not.mpr hbig), if_neg g2, if_pos g3], rfl, rfl⟩
      by_cases g4 : (st_b (aS p0)).getD q0 0 - 48 = 4
      · refine lv_tableIn (tgt := 78) (off := 43) hx hb (fh_d d_Sy_spaceBetween 20 rfl) (by rw [g4]; decide) (by rw [g4]; decide) (by rw [g4]; rfl) rfl ?_
        refine lv_aload_n hx hb (fh_d d_Sy_spaceBetween 35 rfl) rfl (lv_at hl 1 rfl) ?_
        refine vk_getf (own := "FormulaSetter$Style") (ref := "FormulaSetter$Style") hx hb (((hEn _ hRO).2.2.1 i hi).2.2.2.1) hS hown (hT _ w1252) (fun _ h9 => h9) (fh_d d_Sy_spaceBetween 36 rfl) ?_
        exact fh_iret X hP hS (fh_d d_Sy_spaceBetween 37 rfl) ⟨by unfold spB; rw [if_neg c3, if_neg (Classical.not_not.mpr hbig), if_neg g2, if_neg g3, if_pos g4], rfl, rfl⟩
      refine lv_tableOut (tgt := 83) hx hb (fh_d d_Sy_spaceBetween 20 rfl) (sp_out g2 g3 g4) rfl ?_
      refine lv_iconst (v := 0) hx hb (fh_d d_Sy_spaceBetween 38 rfl) (by decide) ?_
      exact fh_iret X hP hS (fh_d d_Sy_spaceBetween 39 rfl) ⟨by unfold spB; rw [if_neg c3, if_neg (Classical.not_not.mpr hbig), if_neg g2, if_neg g3, if_neg g4], rfl, rfl⟩
    · refine lv_iconst (v := 0) hx hb (fh_d d_Sy_spaceBetween 17 rfl) (by decide) ?_
      exact fh_iret X hP hS (fh_d d_Sy_spaceBetween 18 rfl) ⟨by unfold spB; rw [if_neg c3, if_pos (fun z => absurd c6 (by rw [if_pos z]; decide))], rfl, rfl⟩
  · refine lv_aload_n hx hb (fh_d d_Sy_spaceBetween 11 rfl) rfl (lv_at hl 1 rfl) ?_
    refine vk_getf (own := "FormulaSetter$Style") (ref := "FormulaSetter$Style") hx hb (((hEn _ hRO).2.2.1 i hi).2.2.2.1) hS hown (hT _ w1252) (fun _ h9 => h9) (fh_d d_Sy_spaceBetween 12 rfl) ?_
    exact fh_iret X hP hS (fh_d d_Sy_spaceBetween 13 rfl) ⟨by unfold spB; rw [if_pos c3], rfl, rfl⟩
