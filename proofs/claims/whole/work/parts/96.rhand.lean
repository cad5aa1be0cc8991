/-! The reference: handDown. Printed by wip/whole/gen/p96.py -/
def hdz (t : List Nat) : Nat := t.head?.getD 0
/-- a chain of nodes -/
def nxA (f : Nat → Int32) : List Nat → Prop
  | [] => True
  | i :: t => (0 < i ∧ i < 400) ∧ f i = nI (hdz t) ∧ nxA f t
theorem nI_np {i : Nat} (h : 0 < i ∧ i < 400) : ¬ nI i ≤ 0 := fun z => absurd ((nI_leI (a := i) (b := 0) (by omega) (by decide)).mp z) (by omega)
theorem rf_hand_k {A : Nat → Nat → Int32} {k : Nat} {sv cv : Int32} {j : Nat} (h : j ≠ 20) (h2 : j ≠ 21) : rf_hand A k sv cv j = A j := by
  unfold rf_hand
  split
  · rfl
  · unfold up2; rw [if_neg h2, if_neg h]
def rf_hds (sv cv : Int32) (cs : List Nat) (A : Nat → Nat → Int32) : Nat → Nat → Int32 := cs.foldl (fun A i => rf_hand A i sv cv) A
theorem rf_hds_k {sv cv : Int32} {j : Nat} (h : j ≠ 20) (h2 : j ≠ 21) : ∀ (cs : List Nat) (A : Nat → Nat → Int32), rf_hds sv cv cs A j = A j
  | [], _ => rfl
  | i :: t, A => (rf_hds_k h h2 t _).trans (rf_hand_k h h2)
def rf_hd (A : Nat → Nat → Int32) (n s0 u lo o1 t2 : Nat) (cs : List Nat) : Nat → Nat → Int32 :=
  if A 1 n = 0 then rf_hds (nI s0) (A 21 n) cs A else
    let A2 := rf_hand (rf_hand A u (nI (ySc s0)) (A 21 n)) lo (nI (ySc s0)) 1
    if A 1 n = 4 then rf_hand (rf_hand A2 o1 (nI (yPa s0)) (A 21 n)) t2 (nI (yPa s0)) 1
    else if A 1 n = 9 then rf_hds (nI (yCe s0)) (A 21 n) cs A2
    else rf_hand A2 o1 (nI s0) (if ¬ A 21 n = 0 ∨ A 1 n = 5 ∨ A 1 n = 6 ∨ A 1 n = 7 then 1 else 0)
set_option maxHeartbeats 4000000 in
set_option maxRecDepth 100000 in
theorem m_Mo_handDown (l : Launch) (D : va_G) (ct : Nat → ClassId) (b : Nat) (RO : State → Prop) (hR : fh_R b RO) (r : Nat) (hr : 1 ≤ r) (n x : Nat) (g : fh_H) (A : Nat → Nat → Int32) (th co at_ wr no nu op pi wi he de : Int32) (n0 : Nat) (hn0 : n0 < 400) (s0 : Nat) (hs0 : s0 < 4) (h20 : A 20 n0 = nI s0) (hcv : A 21 n0 = 0 ∨ A 21 n0 = 1) (u lo o1 t2 : Nat) (hu : u < 400 ∧ A 12 n0 = nI u) (hlo : lo < 400 ∧ A 13 n0 = nI lo) (ho1 : o1 < 400 ∧ A 10 n0 = nI o1) (ht2 : t2 < 400 ∧ A 11 n0 = nI t2) (cs : List Nat) (h6 : A 6 n0 = nI (hdz cs)) (hnx : nxA (A 7) cs) : fh_C l D fh_cl (fh_tys ct) b RO y_Mo_handDown (Cond.code y_Mo_handDown c_Mo_handDown 6 (Option.none : Option FieldType) :: fh_T) (fh_rm r 0 0) [.ref x, .int (nI n0)] (mkM ct x g A th co at_ wr no nu op pi wi he de) n (fun v h' n' => v = none ∧ h' = mkM ct x g (rf_hd A n0 s0 u lo o1 t2 cs) th co at_ wr no nu op pi wi he de ∧ n' = n) 0 0 := by
  refine fh_enter (by decide) (Nat.le_of_ble_eq_true rfl) [(0, .ref x), (1, .int (nI n0))] rfl ?_
  intro p e s m args below meth c H ls X hP hS hl
  have hx := X.1
  have hb := X.2.1
  have hml := X.2.2.1
  have hown : s.vm.findClass "FormulaSetterModel" = some m.cls := X.2.2.2.1
  have hT := X.2.2.2.2.1
  have hK := X.2.2.2.2.2.1
  have hRO := X.2.2.2.2.2.2.1
  have hnm : meth.name = "handDown" := X.2.2.2.2.2.2.2.2.2.2
  rcases (by omega : s0 = 0 ∨ s0 = 1 ∨ s0 = 2 ∨ s0 = 3) with hsv | hsv | hsv | hsv
  · have h20 : A 20 n0 = nI 0 := by rw [h20, hsv]
    have loop1 : ∀ (t : List Nat) (A1 : Nat → Nat → Int32), nxA (A 7) t → A1 7 = A 7 → rf_hds 0 (A 21 n0) t A1 = rf_hd A n0 s0 u lo o1 t2 cs → ∀ (H : Heap) (locs : List Loc) (ls : Array Slot), fh_P D fh_cl b (mkM ct x g A1 th co at_ wr no nu op pi wi he de) n H → va_S (fh_A b) s.heap H locs → lv_has ls 6 [(5, .int (nI (hdz t))), (2, .int 0), (3, .int ((A 21) n0)), (4, .int ((A 1) n0)), (0, .ref x), (1, .int (nI n0))] → W p l e (fh_rm r 0 0) s m args below meth c H locs 0 0 (MQ below (fh_Post D fh_cl b (fun v h' n' => v = none ∧ h' = mkM ct x g (rf_hd A n0 s0 u lo o1 t2 cs) th co at_ wr no nu op pi wi he de ∧ n' = n)) args s 0 0 (fh_A b)) (F0 m 35 ls []) := by
      intro t
      induction t with
      | nil =>
        intro A1 hnt h7 hfo H locs ls hP hS hl
        have hl : lv_has ls 6 [(5, .int (nI 0)), (2, .int 0), (3, .int ((A 21) n0)), (4, .int ((A 1) n0)), (0, .ref x), (1, .int (nI n0))] := hl
        refine lv_iload hx hb (fh_d d_Mo_handDown 22 rfl) (lv_at hl 0 rfl) ?_
        refine lv_if_le (tgt := 60) hx hb (fh_d d_Mo_handDown 23 rfl) rfl (fun c1 => ?_) (fun c1 => absurd c1 (fun z => z (by decide)))
        exact fh_vret X hP hS (fh_d d_Mo_handDown 35 rfl) ⟨rfl, by rw [← hfo]; rfl, rfl⟩
      | cons i t ih =>
        intro A1 hnt h7 hfo H locs ls hP hS hl
        have hl : lv_has ls 6 [(5, .int (nI i)), (2, .int 0), (3, .int ((A 21) n0)), (4, .int ((A 1) n0)), (0, .ref x), (1, .int (nI n0))] := hl
        refine lv_iload hx hb (fh_d d_Mo_handDown 22 rfl) (lv_at hl 0 rfl) ?_
        refine lv_if_le (tgt := 60) hx hb (fh_d d_Mo_handDown 23 rfl) rfl (fun c2 => absurd c2 (nI_np hnt.1)) (fun c2 => ?_)
        refine lv_aload_n hx hb (fh_d d_Mo_handDown 24 rfl) rfl (lv_at hl 4 rfl) ?_
        refine lv_iload hx hb (fh_d d_Mo_handDown 25 rfl) (lv_at hl 0 rfl) ?_
        refine lv_iload_n hx hb (fh_d d_Mo_handDown 26 rfl) rfl (lv_at hl 1 rfl) ?_
        refine lv_iload_n hx hb (fh_d d_Mo_handDown 27 rfl) rfl (lv_at hl 2 rfl) ?_
        refine fh_callV (cc' := c_Mo_hand) (nL' := 4) (rest := []) (a := x) (As := [.int (nI i), .int 0, .int ((A 21) n0)]) X hR (m_Mo_hand l D ct b RO (r - 1) n x g A1 th co at_ wr no nu op pi wi he de i hnt.1.2 0 ((A 21) n0) hcv) w1128 w1125 w1127 v48 w9 ⟨by decide, by decide, by show _ = some 3; decide +kernel⟩ (by omega) (by decide) (fh_recv hK hP mkM_o rfl) hP hS hl.1 rfl (by exact Nat.le_of_ble_eq_true rfl) (fh_d d_Mo_handDown 28 rfl) ⟨Nat.le_refl _, Nat.le_refl _⟩ (fun v9 h9 n9 H locs hq hP hS => ?_)
        obtain ⟨rfl, u3, u4⟩ := hq
        rw [u3, u4] at hP
        refine W.eq (g2 := F0 m 48 ls []) rfl ?_
        refine lv_aload_n hx hb (fh_d d_Mo_handDown 29 rfl) rfl (lv_at hl 4 rfl) ?_
        refine fh_get (own := "FormulaSetterModel") (ref := "FormulaSetterModel") (C := "FormulaSetterModel") (T := T_Mo) (N := 53) (v := .ref (x + 8)) hx hb hT i_Mo hown hK hP mkM_o rfl 13 (by decide) (hT _ w873) (fun _ h9 => h9) rfl (fh_d d_Mo_handDown 30 rfl) ?_
        refine lv_iload hx hb (fh_d d_Mo_handDown 31 rfl) (lv_at hl 0 rfl) ?_
        refine fn_iald (f := (rf_hand A1 i 0 ((A 21) n0)) 7) (k := i) hx hb hK hP 0 mkM_a7 rfl (rfl) (hnt.1.2) (by decide) (fh_d d_Mo_handDown 32 rfl) ?_
        rw [show (rf_hand A1 i 0 ((A 21) n0)) 7 i = nI (hdz t) from (congrFun (rf_hand_k (by decide) (by decide)) i).trans ((congrFun h7 i).trans hnt.2.1)]
        refine lv_istore (lv' := [(5, .int (nI (hdz t))), (2, .int 0), (3, .int ((A 21) n0)), (4, .int ((A 1) n0)), (0, .ref x), (1, .int (nI n0))]) hx hb (fh_d d_Mo_handDown 33 rfl) hl (by decide) rfl (fun ls hl => ?_)
        refine lv_goto (tgt := 35) hx hb (fh_d d_Mo_handDown 34 rfl) rfl ?_
        exact ih _ hnt.2.2 ((rf_hand_k (by decide) (by decide)).trans h7) hfo H locs _ hP hS (lv_sub hl [0, 1, 2, 3, 4, 5] rfl)
    have loop2 : ∀ (t : List Nat) (A1 : Nat → Nat → Int32), nxA (A 7) t → A1 7 = A 7 → rf_hds 1 (A 21 n0) t A1 = rf_hd A n0 s0 u lo o1 t2 cs → ∀ (H : Heap) (locs : List Loc) (ls : Array Slot), fh_P D fh_cl b (mkM ct x g A1 th co at_ wr no nu op pi wi he de) n H → va_S (fh_A b) s.heap H locs → lv_has ls 6 [(5, .int (nI (hdz t))), (2, .int 0), (3, .int ((A 21) n0)), (4, .int ((A 1) n0)), (0, .ref x), (1, .int (nI n0))] → W p l e (fh_rm r 0 0) s m args below meth c H locs 0 0 (MQ below (fh_Post D fh_cl b (fun v h' n' => v = none ∧ h' = mkM ct x g (rf_hd A n0 s0 u lo o1 t2 cs) th co at_ wr no nu op pi wi he de ∧ n' = n)) args s 0 0 (fh_A b)) (F0 m 185 ls []) := by
      intro t
      induction t with
      | nil =>
        intro A1 hnt h7 hfo H locs ls hP hS hl
        have hl : lv_has ls 6 [(5, .int (nI 0)), (2, .int 0), (3, .int ((A 21) n0)), (4, .int ((A 1) n0)), (0, .ref x), (1, .int (nI n0))] := hl
        refine lv_iload hx hb (fh_d d_Mo_handDown 108 rfl) (lv_at hl 0 rfl) ?_
        refine lv_if_le (tgt := 218) hx hb (fh_d d_Mo_handDown 109 rfl) rfl (fun c5 => ?_) (fun c5 => absurd c5 (fun z => z (by decide)))
        refine lv_goto (tgt := 261) hx hb (fh_d d_Mo_handDown 125 rfl) rfl ?_
        exact fh_vret X hP hS (fh_d d_Mo_handDown 147 rfl) ⟨rfl, by rw [← hfo]; rfl, rfl⟩
      | cons i t ih =>
        intro A1 hnt h7 hfo H locs ls hP hS hl
        have hl : lv_has ls 6 [(5, .int (nI i)), (2, .int 0), (3, .int ((A 21) n0)), (4, .int ((A 1) n0)), (0, .ref x), (1, .int (nI n0))] := hl
        refine lv_iload hx hb (fh_d d_Mo_handDown 108 rfl) (lv_at hl 0 rfl) ?_
        refine lv_if_le (tgt := 218) hx hb (fh_d d_Mo_handDown 109 rfl) rfl (fun c6 => absurd c6 (nI_np hnt.1)) (fun c6 => ?_)
        refine lv_aload_n hx hb (fh_d d_Mo_handDown 110 rfl) rfl (lv_at hl 4 rfl) ?_
        refine lv_iload hx hb (fh_d d_Mo_handDown 111 rfl) (lv_at hl 0 rfl) ?_
        refine lv_iload_n hx hb (fh_d d_Mo_handDown 112 rfl) rfl (lv_at hl 1 rfl) ?_
        refine lv_if_ne (tgt := 201) hx hb (fh_d d_Mo_handDown 113 rfl) rfl (fun c7 => absurd c7 (Classical.not_not.mpr (by decide))) (fun c7 => ?_)
        refine lv_iconst (v := 1) hx hb (fh_d d_Mo_handDown 114 rfl) (by decide) ?_
        refine lv_goto (tgt := 202) hx hb (fh_d d_Mo_handDown 115 rfl) rfl ?_
        refine lv_iload_n hx hb (fh_d d_Mo_handDown 117 rfl) rfl (lv_at hl 2 rfl) ?_
        refine fh_callV (cc' := c_Mo_hand) (nL' := 4) (rest := []) (a := x) (As := [.int (nI i), .int 1, .int ((A 21) n0)]) X hR (m_Mo_hand l D ct b RO (r - 1) n x g A1 th co at_ wr no nu op pi wi he de i hnt.1.2 1 ((A 21) n0) hcv) w1128 w1125 w1127 v48 w9 ⟨by decide, by decide, by show _ = some 3; decide +kernel⟩ (by omega) (by decide) (fh_recv hK hP mkM_o rfl) hP hS hl.1 rfl (by exact Nat.le_of_ble_eq_true rfl) (fh_d d_Mo_handDown 118 rfl) ⟨Nat.le_refl _, Nat.le_refl _⟩ (fun v9 h9 n9 H locs hq hP hS => ?_)
        obtain ⟨rfl, u8, u9⟩ := hq
        rw [u8, u9] at hP
        refine W.eq (g2 := F0 m 206 ls []) rfl ?_
        refine lv_aload_n hx hb (fh_d d_Mo_handDown 119 rfl) rfl (lv_at hl 4 rfl) ?_
        refine fh_get (own := "FormulaSetterModel") (ref := "FormulaSetterModel") (C := "FormulaSetterModel") (T := T_Mo) (N := 53) (v := .ref (x + 8)) hx hb hT i_Mo hown hK hP mkM_o rfl 13 (by decide) (hT _ w873) (fun _ h9 => h9) rfl (fh_d d_Mo_handDown 120 rfl) ?_
        refine lv_iload hx hb (fh_d d_Mo_handDown 121 rfl) (lv_at hl 0 rfl) ?_
        refine fn_iald (f := (rf_hand A1 i 1 ((A 21) n0)) 7) (k := i) hx hb hK hP 0 mkM_a7 rfl (rfl) (hnt.1.2) (by decide) (fh_d d_Mo_handDown 122 rfl) ?_
        rw [show (rf_hand A1 i 1 ((A 21) n0)) 7 i = nI (hdz t) from (congrFun (rf_hand_k (by decide) (by decide)) i).trans ((congrFun h7 i).trans hnt.2.1)]
        refine lv_istore (lv' := [(5, .int (nI (hdz t))), (2, .int 0), (3, .int ((A 21) n0)), (4, .int ((A 1) n0)), (0, .ref x), (1, .int (nI n0))]) hx hb (fh_d d_Mo_handDown 123 rfl) hl (by decide) rfl (fun ls hl => ?_)
        refine lv_goto (tgt := 185) hx hb (fh_d d_Mo_handDown 124 rfl) rfl ?_
        exact ih _ hnt.2.2 ((rf_hand_k (by decide) (by decide)).trans h7) hfo H locs _ hP hS (lv_sub hl [0, 1, 2, 3, 4, 5] rfl)
    refine lv_aload_n hx hb (fh_d d_Mo_handDown 0 rfl) rfl (lv_at hl 0 rfl) ?_
    refine fh_get (own := "FormulaSetterModel") (ref := "FormulaSetterModel") (C := "FormulaSetterModel") (T := T_Mo) (N := 53) (v := .ref (x + 21)) hx hb hT i_Mo hown hK hP mkM_o rfl 27 (by decide) (hT _ w887) (fun _ h9 => h9) rfl (fh_d d_Mo_handDown 1 rfl) ?_
    refine lv_iload_n hx hb (fh_d d_Mo_handDown 2 rfl) rfl (lv_at hl 1 rfl) ?_
    refine fn_iald (f := A 20) (k := n0) hx hb hK hP 0 mkM_a20 rfl (rfl) (by omega) (by decide) (fh_d d_Mo_handDown 3 rfl) ?_
    rw [show ((A 20) n0) = 0 from h20]
    refine lv_istore_n (lv' := [(2, .int 0), (0, .ref x), (1, .int (nI n0))]) hx hb (fh_d d_Mo_handDown 4 rfl) rfl hl (by decide) rfl (fun ls hl => ?_)
    refine lv_aload_n hx hb (fh_d d_Mo_handDown 5 rfl) rfl (lv_at hl 1 rfl) ?_
    refine fh_get (own := "FormulaSetterModel") (ref := "FormulaSetterModel") (C := "FormulaSetterModel") (T := T_Mo) (N := 53) (v := .ref (x + 22)) hx hb hT i_Mo hown hK hP mkM_o rfl 28 (by decide) (hT _ w888) (fun _ h9 => h9) rfl (fh_d d_Mo_handDown 6 rfl) ?_
    refine lv_iload_n hx hb (fh_d d_Mo_handDown 7 rfl) rfl (lv_at hl 2 rfl) ?_
    refine fn_zald (f := A 21) (k := n0) hx hb hK hP 3 mkM_a21 rfl (rfl) (by omega) (by decide) (fh_d d_Mo_handDown 8 rfl) ?_
    refine lv_istore_n (lv' := [(3, .int ((A 21) n0)), (2, .int 0), (0, .ref x), (1, .int (nI n0))]) hx hb (fh_d d_Mo_handDown 9 rfl) rfl hl (by decide) rfl (fun ls hl => ?_)
    refine lv_aload_n hx hb (fh_d d_Mo_handDown 10 rfl) rfl (lv_at hl 2 rfl) ?_
    refine fh_get (own := "FormulaSetterModel") (ref := "FormulaSetterModel") (C := "FormulaSetterModel") (T := T_Mo) (N := 53) (v := .ref (x + 2)) hx hb hT i_Mo hown hK hP mkM_o rfl 7 (by decide) (hT _ w867) (fun _ h9 => h9) rfl (fh_d d_Mo_handDown 11 rfl) ?_
    refine lv_iload_n hx hb (fh_d d_Mo_handDown 12 rfl) rfl (lv_at hl 3 rfl) ?_
    refine fn_iald (f := A 1) (k := n0) hx hb hK hP 0 mkM_a1 rfl (rfl) (by omega) (by decide) (fh_d d_Mo_handDown 13 rfl) ?_
    refine lv_istore (lv' := [(4, .int ((A 1) n0)), (3, .int ((A 21) n0)), (2, .int 0), (0, .ref x), (1, .int (nI n0))]) hx hb (fh_d d_Mo_handDown 14 rfl) hl (by decide) rfl (fun ls hl => ?_)
    refine lv_iload hx hb (fh_d d_Mo_handDown 15 rfl) (lv_at hl 0 rfl) ?_
    refine lv_if_ne (tgt := 61) hx hb (fh_d d_Mo_handDown 16 rfl) rfl (fun c10 => ?_) (fun c10 => ?_)
    · refine lv_aload_n hx hb (fh_d d_Mo_handDown 36 rfl) rfl (lv_at hl 3 rfl) ?_
      refine lv_aload_n hx hb (fh_d d_Mo_handDown 37 rfl) rfl (lv_at hl 3 rfl) ?_
      refine fh_get (own := "FormulaSetterModel") (ref := "FormulaSetterModel") (C := "FormulaSetterModel") (T := T_Mo) (N := 53) (v := .ref (x + 13)) hx hb hT i_Mo hown hK hP mkM_o rfl 18 (by decide) (hT _ w878) (fun _ h9 => h9) rfl (fh_d d_Mo_handDown 38 rfl) ?_
      refine lv_iload_n hx hb (fh_d d_Mo_handDown 39 rfl) rfl (lv_at hl 4 rfl) ?_
      refine fn_iald (f := A 12) (k := n0) hx hb hK hP 0 mkM_a12 rfl (rfl) (by omega) (by decide) (fh_d d_Mo_handDown 40 rfl) ?_
      rw [show ((A 12) n0) = nI u from hu.2]
      refine lv_iload_n hx hb (fh_d d_Mo_handDown 41 rfl) rfl (lv_at hl 2 rfl) ?_
      refine lv_iconst (v := 2) hx hb (fh_d d_Mo_handDown 42 rfl) (by decide) ?_
      refine lv_icmp_ge (tgt := 77) hx hb (fh_d d_Mo_handDown 43 rfl) rfl (fun c11 => absurd c11 (by decide)) (fun c11 => ?_)
      refine lv_iconst (v := 2) hx hb (fh_d d_Mo_handDown 44 rfl) (by decide) ?_
      refine lv_goto (tgt := 78) hx hb (fh_d d_Mo_handDown 45 rfl) rfl ?_
      refine lv_iload_n hx hb (fh_d d_Mo_handDown 47 rfl) rfl (lv_at hl 1 rfl) ?_
      refine fh_callV (cc' := c_Mo_hand) (nL' := 4) (rest := []) (a := x) (As := [.int (nI u), .int 2, .int ((A 21) n0)]) X hR (m_Mo_hand l D ct b RO (r - 1) n x g A th co at_ wr no nu op pi wi he de u hu.1 2 ((A 21) n0) hcv) w1128 w1125 w1127 v48 w9 ⟨by decide, by decide, by show _ = some 3; decide +kernel⟩ (by omega) (by decide) (fh_recv hK hP mkM_o rfl) hP hS hl.1 rfl (by exact Nat.le_of_ble_eq_true rfl) (fh_d d_Mo_handDown 48 rfl) ⟨Nat.le_refl _, Nat.le_refl _⟩ (fun v9 h9 n9 H locs hq hP hS => ?_)
      obtain ⟨rfl, u12, u13⟩ := hq
      rw [u12, u13] at hP
      refine W.eq (g2 := F0 m 82 ls []) rfl ?_
      refine lv_aload_n hx hb (fh_d d_Mo_handDown 49 rfl) rfl (lv_at hl 3 rfl) ?_
      refine lv_aload_n hx hb (fh_d d_Mo_handDown 50 rfl) rfl (lv_at hl 3 rfl) ?_
      refine fh_get (own := "FormulaSetterModel") (ref := "FormulaSetterModel") (C := "FormulaSetterModel") (T := T_Mo) (N := 53) (v := .ref (x + 14)) hx hb hT i_Mo hown hK hP mkM_o rfl 19 (by decide) (hT _ w879) (fun _ h9 => h9) rfl (fh_d d_Mo_handDown 51 rfl) ?_
      refine lv_iload_n hx hb (fh_d d_Mo_handDown 52 rfl) rfl (lv_at hl 4 rfl) ?_
      refine fn_iald (f := (rf_hand A u 2 ((A 21) n0)) 13) (k := n0) hx hb hK hP 0 mkM_a13 rfl (rfl) (by omega) (by decide) (fh_d d_Mo_handDown 53 rfl) ?_
      rw [show (rf_hand A u 2 ((A 21) n0)) 13 n0 = nI lo from (congrFun (rf_hand_k (by decide) (by decide)) n0).trans (hlo.2)]
      refine lv_iload_n hx hb (fh_d d_Mo_handDown 54 rfl) rfl (lv_at hl 2 rfl) ?_
      refine lv_iconst (v := 2) hx hb (fh_d d_Mo_handDown 55 rfl) (by decide) ?_
      refine lv_icmp_ge (tgt := 98) hx hb (fh_d d_Mo_handDown 56 rfl) rfl (fun c14 => absurd c14 (by decide)) (fun c14 => ?_)
      refine lv_iconst (v := 2) hx hb (fh_d d_Mo_handDown 57 rfl) (by decide) ?_
      refine lv_goto (tgt := 99) hx hb (fh_d d_Mo_handDown 58 rfl) rfl ?_
      refine lv_iconst (v := 1) hx hb (fh_d d_Mo_handDown 60 rfl) (by decide) ?_
      refine fh_callV (cc' := c_Mo_hand) (nL' := 4) (rest := []) (a := x) (As := [.int (nI lo), .int 2, .int 1]) X hR (m_Mo_hand l D ct b RO (r - 1) n x g (rf_hand A u 2 ((A 21) n0)) th co at_ wr no nu op pi wi he de lo hlo.1 2 1 (by decide)) w1128 w1125 w1127 v48 w9 ⟨by decide, by decide, by show _ = some 3; decide +kernel⟩ (by omega) (by decide) (fh_recv hK hP mkM_o rfl) hP hS hl.1 rfl (by exact Nat.le_of_ble_eq_true rfl) (fh_d d_Mo_handDown 61 rfl) ⟨Nat.le_refl _, Nat.le_refl _⟩ (fun v9 h9 n9 H locs hq hP hS => ?_)
      obtain ⟨rfl, u15, u16⟩ := hq
      rw [u15, u16] at hP
      refine W.eq (g2 := F0 m 103 ls []) rfl ?_
      refine lv_iload hx hb (fh_d d_Mo_handDown 62 rfl) (lv_at hl 0 rfl) ?_
      refine lv_iconst (v := 4) hx hb (fh_d d_Mo_handDown 63 rfl) (by decide) ?_
      refine lv_icmp_ne (tgt := 170) hx hb (fh_d d_Mo_handDown 64 rfl) rfl (fun c17 => ?_) (fun c17 => ?_)
      · refine lv_iload hx hb (fh_d d_Mo_handDown 100 rfl) (lv_at hl 0 rfl) ?_
        refine lv_bipush (v := 9) hx hb (fh_d d_Mo_handDown 101 rfl) (by decide) ?_
        refine lv_icmp_ne (tgt := 221) hx hb (fh_d d_Mo_handDown 102 rfl) rfl (fun c18 => ?_) (fun c18 => ?_)
        · refine lv_aload_n hx hb (fh_d d_Mo_handDown 126 rfl) rfl (lv_at hl 3 rfl) ?_
          refine lv_aload_n hx hb (fh_d d_Mo_handDown 127 rfl) rfl (lv_at hl 3 rfl) ?_
          refine fh_get (own := "FormulaSetterModel") (ref := "FormulaSetterModel") (C := "FormulaSetterModel") (T := T_Mo) (N := 53) (v := .ref (x + 11)) hx hb hT i_Mo hown hK hP mkM_o rfl 16 (by decide) (hT _ w876) (fun _ h9 => h9) rfl (fh_d d_Mo_handDown 128 rfl) ?_
          refine lv_iload_n hx hb (fh_d d_Mo_handDown 129 rfl) rfl (lv_at hl 4 rfl) ?_
          refine fn_iald (f := (rf_hand (rf_hand A u 2 ((A 21) n0)) lo 2 1) 10) (k := n0) hx hb hK hP 0 mkM_a10 rfl (rfl) (by omega) (by decide) (fh_d d_Mo_handDown 130 rfl) ?_
          rw [show (rf_hand (rf_hand A u 2 ((A 21) n0)) lo 2 1) 10 n0 = nI o1 from (congrFun ((rf_hand_k (by decide) (by decide)).trans (rf_hand_k (by decide) (by decide))) n0).trans (ho1.2)]
          refine lv_iload_n hx hb (fh_d d_Mo_handDown 131 rfl) rfl (lv_at hl 2 rfl) ?_
          refine lv_iload_n hx hb (fh_d d_Mo_handDown 132 rfl) rfl (lv_at hl 1 rfl) ?_
          refine lv_if_ne (tgt := 253) hx hb (fh_d d_Mo_handDown 133 rfl) rfl (fun c19 => ?_) (fun c19 => ?_)
          · refine lv_iconst (v := 1) hx hb (fh_d d_Mo_handDown 143 rfl) (by decide) ?_
            refine lv_goto (tgt := 258) hx hb (fh_d d_Mo_handDown 144 rfl) rfl ?_
            refine fh_callV (cc' := c_Mo_hand) (nL' := 4) (rest := []) (a := x) (As := [.int (nI o1), .int 0, .int 1]) X hR (m_Mo_hand l D ct b RO (r - 1) n x g (rf_hand (rf_hand A u 2 ((A 21) n0)) lo 2 1) th co at_ wr no nu op pi wi he de o1 ho1.1 0 1 (by decide)) w1128 w1125 w1127 v48 w9 ⟨by decide, by decide, by show _ = some 3; decide +kernel⟩ (by omega) (by decide) (fh_recv hK hP mkM_o rfl) hP hS hl.1 rfl (by exact Nat.le_of_ble_eq_true rfl) (fh_d d_Mo_handDown 146 rfl) ⟨Nat.le_refl _, Nat.le_refl _⟩ (fun v9 h9 n9 H locs hq hP hS => ?_)
            obtain ⟨rfl, u20, u21⟩ := hq
            rw [u20, u21] at hP
            refine W.eq (g2 := F0 m 261 ls []) rfl ?_
            exact fh_vret X hP hS (fh_d d_Mo_handDown 147 rfl) ⟨rfl, by subst hsv; unfold rf_hd; dsimp only; rw [if_neg c10, if_neg c17, if_neg c18, if_pos (Or.inl c19)]; rfl, rfl⟩
          · refine lv_iload hx hb (fh_d d_Mo_handDown 134 rfl) (lv_at hl 0 rfl) ?_
            refine lv_iconst (v := 5) hx hb (fh_d d_Mo_handDown 135 rfl) (by decide) ?_
            refine lv_icmp_eq (tgt := 253) hx hb (fh_d d_Mo_handDown 136 rfl) rfl (fun c22 => ?_) (fun c22 => ?_)
            · refine lv_iconst (v := 1) hx hb (fh_d d_Mo_handDown 143 rfl) (by decide) ?_
              refine lv_goto (tgt := 258) hx hb (fh_d d_Mo_handDown 144 rfl) rfl ?_
              refine fh_callV (cc' := c_Mo_hand) (nL' := 4) (rest := []) (a := x) (As := [.int (nI o1), .int 0, .int 1]) X hR (m_Mo_hand l D ct b RO (r - 1) n x g (rf_hand (rf_hand A u 2 ((A 21) n0)) lo 2 1) th co at_ wr no nu op pi wi he de o1 ho1.1 0 1 (by decide)) w1128 w1125 w1127 v48 w9 ⟨by decide, by decide, by show _ = some 3; decide +kernel⟩ (by omega) (by decide) (fh_recv hK hP mkM_o rfl) hP hS hl.1 rfl (by exact Nat.le_of_ble_eq_true rfl) (fh_d d_Mo_handDown 146 rfl) ⟨Nat.le_refl _, Nat.le_refl _⟩ (fun v9 h9 n9 H locs hq hP hS => ?_)
              obtain ⟨rfl, u23, u24⟩ := hq
              rw [u23, u24] at hP
              refine W.eq (g2 := F0 m 261 ls []) rfl ?_
              exact fh_vret X hP hS (fh_d d_Mo_handDown 147 rfl) ⟨rfl, by subst hsv; unfold rf_hd; dsimp only; rw [if_neg c10, if_neg c17, if_neg c18, if_pos (Or.inr (Or.inl c22))]; rfl, rfl⟩
            · refine lv_iload hx hb (fh_d d_Mo_handDown 137 rfl) (lv_at hl 0 rfl) ?_
              refine lv_bipush (v := 6) hx hb (fh_d d_Mo_handDown 138 rfl) (by decide) ?_
              refine lv_icmp_eq (tgt := 253) hx hb (fh_d d_Mo_handDown 139 rfl) rfl (fun c25 => ?_) (fun c25 => ?_)
              · refine lv_iconst (v := 1) hx hb (fh_d d_Mo_handDown 143 rfl) (by decide) ?_
                refine lv_goto (tgt := 258) hx hb (fh_d d_Mo_handDown 144 rfl) rfl ?_
                refine fh_callV (cc' := c_Mo_hand) (nL' := 4) (rest := []) (a := x) (As := [.int (nI o1), .int 0, .int 1]) X hR (m_Mo_hand l D ct b RO (r - 1) n x g (rf_hand (rf_hand A u 2 ((A 21) n0)) lo 2 1) th co at_ wr no nu op pi wi he de o1 ho1.1 0 1 (by decide)) w1128 w1125 w1127 v48 w9 ⟨by decide, by decide, by show _ = some 3; decide +kernel⟩ (by omega) (by decide) (fh_recv hK hP mkM_o rfl) hP hS hl.1 rfl (by exact Nat.le_of_ble_eq_true rfl) (fh_d d_Mo_handDown 146 rfl) ⟨Nat.le_refl _, Nat.le_refl _⟩ (fun v9 h9 n9 H locs hq hP hS => ?_)
                obtain ⟨rfl, u26, u27⟩ := hq
                rw [u26, u27] at hP
                refine W.eq (g2 := F0 m 261 ls []) rfl ?_
                exact fh_vret X hP hS (fh_d d_Mo_handDown 147 rfl) ⟨rfl, by subst hsv; unfold rf_hd; dsimp only; rw [if_neg c10, if_neg c17, if_neg c18, if_pos (Or.inr (Or.inr (Or.inl c25)))]; rfl, rfl⟩
              · refine lv_iload hx hb (fh_d d_Mo_handDown 140 rfl) (lv_at hl 0 rfl) ?_
                refine lv_bipush (v := 7) hx hb (fh_d d_Mo_handDown 141 rfl) (by decide) ?_
                refine lv_icmp_ne (tgt := 257) hx hb (fh_d d_Mo_handDown 142 rfl) rfl (fun c28 => ?_) (fun c28 => ?_)
                · refine lv_iconst (v := 0) hx hb (fh_d d_Mo_handDown 145 rfl) (by decide) ?_
                  refine fh_callV (cc' := c_Mo_hand) (nL' := 4) (rest := []) (a := x) (As := [.int (nI o1), .int 0, .int 0]) X hR (m_Mo_hand l D ct b RO (r - 1) n x g (rf_hand (rf_hand A u 2 ((A 21) n0)) lo 2 1) th co at_ wr no nu op pi wi he de o1 ho1.1 0 0 (by decide)) w1128 w1125 w1127 v48 w9 ⟨by decide, by decide, by show _ = some 3; decide +kernel⟩ (by omega) (by decide) (fh_recv hK hP mkM_o rfl) hP hS hl.1 rfl (by exact Nat.le_of_ble_eq_true rfl) (fh_d d_Mo_handDown 146 rfl) ⟨Nat.le_refl _, Nat.le_refl _⟩ (fun v9 h9 n9 H locs hq hP hS => ?_)
                  obtain ⟨rfl, u29, u30⟩ := hq
                  rw [u29, u30] at hP
                  refine W.eq (g2 := F0 m 261 ls []) rfl ?_
                  exact fh_vret X hP hS (fh_d d_Mo_handDown 147 rfl) ⟨rfl, by subst hsv; unfold rf_hd; dsimp only; rw [if_neg c10, if_neg c17, if_neg c18, if_neg (fun z => z.elim (fun y => y c19) (fun z => z.elim c22 (fun z => z.elim c25 c28)))]; rfl, rfl⟩
                · refine lv_iconst (v := 1) hx hb (fh_d d_Mo_handDown 143 rfl) (by decide) ?_
                  refine lv_goto (tgt := 258) hx hb (fh_d d_Mo_handDown 144 rfl) rfl ?_
                  refine fh_callV (cc' := c_Mo_hand) (nL' := 4) (rest := []) (a := x) (As := [.int (nI o1), .int 0, .int 1]) X hR (m_Mo_hand l D ct b RO (r - 1) n x g (rf_hand (rf_hand A u 2 ((A 21) n0)) lo 2 1) th co at_ wr no nu op pi wi he de o1 ho1.1 0 1 (by decide)) w1128 w1125 w1127 v48 w9 ⟨by decide, by decide, by show _ = some 3; decide +kernel⟩ (by omega) (by decide) (fh_recv hK hP mkM_o rfl) hP hS hl.1 rfl (by exact Nat.le_of_ble_eq_true rfl) (fh_d d_Mo_handDown 146 rfl) ⟨Nat.le_refl _, Nat.le_refl _⟩ (fun v9 h9 n9 H locs hq hP hS => ?_)
                  obtain ⟨rfl, u31, u32⟩ := hq
                  rw [u31, u32] at hP
                  refine W.eq (g2 := F0 m 261 ls []) rfl ?_
                  exact fh_vret X hP hS (fh_d d_Mo_handDown 147 rfl) ⟨rfl, by subst hsv; unfold rf_hd; dsimp only; rw [if_neg c10, if_neg c17, if_neg c18, if_pos (Or.inr (Or.inr (Or.inr c28)))]; rfl, rfl⟩
        · refine lv_aload_n hx hb (fh_d d_Mo_handDown 103 rfl) rfl (lv_at hl 3 rfl) ?_
          refine fh_get (own := "FormulaSetterModel") (ref := "FormulaSetterModel") (C := "FormulaSetterModel") (T := T_Mo) (N := 53) (v := .ref (x + 7)) hx hb hT i_Mo hown hK hP mkM_o rfl 12 (by decide) (hT _ w872) (fun _ h9 => h9) rfl (fh_d d_Mo_handDown 104 rfl) ?_
          refine lv_iload_n hx hb (fh_d d_Mo_handDown 105 rfl) rfl (lv_at hl 4 rfl) ?_
          refine fn_iald (f := (rf_hand (rf_hand A u 2 ((A 21) n0)) lo 2 1) 6) (k := n0) hx hb hK hP 0 mkM_a6 rfl (rfl) (by omega) (by decide) (fh_d d_Mo_handDown 106 rfl) ?_
          rw [show (rf_hand (rf_hand A u 2 ((A 21) n0)) lo 2 1) 6 n0 = nI (hdz cs) from (congrFun ((rf_hand_k (by decide) (by decide)).trans (rf_hand_k (by decide) (by decide))) n0).trans (h6)]
          refine lv_istore (lv' := [(5, .int (nI (hdz cs))), (4, .int ((A 1) n0)), (3, .int ((A 21) n0)), (2, .int 0), (0, .ref x), (1, .int (nI n0))]) hx hb (fh_d d_Mo_handDown 107 rfl) hl (by decide) rfl (fun ls hl => ?_)
          exact loop2 cs _ hnx ((rf_hand_k (by decide) (by decide)).trans (rf_hand_k (by decide) (by decide))) (by subst hsv; unfold rf_hd; dsimp only; rw [if_neg c10, if_neg c17, if_pos c18]; rfl) H _ _ hP hS (lv_sub hl [0, 3, 2, 1, 4, 5] rfl)
      · refine lv_aload_n hx hb (fh_d d_Mo_handDown 65 rfl) rfl (lv_at hl 3 rfl) ?_
        refine lv_aload_n hx hb (fh_d d_Mo_handDown 66 rfl) rfl (lv_at hl 3 rfl) ?_
        refine fh_get (own := "FormulaSetterModel") (ref := "FormulaSetterModel") (C := "FormulaSetterModel") (T := T_Mo) (N := 53) (v := .ref (x + 11)) hx hb hT i_Mo hown hK hP mkM_o rfl 16 (by decide) (hT _ w876) (fun _ h9 => h9) rfl (fh_d d_Mo_handDown 67 rfl) ?_
        refine lv_iload_n hx hb (fh_d d_Mo_handDown 68 rfl) rfl (lv_at hl 4 rfl) ?_
        refine fn_iald (f := (rf_hand (rf_hand A u 2 ((A 21) n0)) lo 2 1) 10) (k := n0) hx hb hK hP 0 mkM_a10 rfl (rfl) (by omega) (by decide) (fh_d d_Mo_handDown 69 rfl) ?_
        rw [show (rf_hand (rf_hand A u 2 ((A 21) n0)) lo 2 1) 10 n0 = nI o1 from (congrFun ((rf_hand_k (by decide) (by decide)).trans (rf_hand_k (by decide) (by decide))) n0).trans (ho1.2)]
        refine lv_iload_n hx hb (fh_d d_Mo_handDown 70 rfl) rfl (lv_at hl 2 rfl) ?_
        refine lv_if_ne (tgt := 124) hx hb (fh_d d_Mo_handDown 71 rfl) rfl (fun c33 => absurd c33 (Classical.not_not.mpr (by decide))) (fun c33 => ?_)
        refine lv_iconst (v := 1) hx hb (fh_d d_Mo_handDown 72 rfl) (by decide) ?_
        refine lv_goto (tgt := 134) hx hb (fh_d d_Mo_handDown 73 rfl) rfl ?_
        refine lv_iload_n hx hb (fh_d d_Mo_handDown 80 rfl) rfl (lv_at hl 1 rfl) ?_
        refine fh_callV (cc' := c_Mo_hand) (nL' := 4) (rest := []) (a := x) (As := [.int (nI o1), .int 1, .int ((A 21) n0)]) X hR (m_Mo_hand l D ct b RO (r - 1) n x g (rf_hand (rf_hand A u 2 ((A 21) n0)) lo 2 1) th co at_ wr no nu op pi wi he de o1 ho1.1 1 ((A 21) n0) hcv) w1128 w1125 w1127 v48 w9 ⟨by decide, by decide, by show _ = some 3; decide +kernel⟩ (by omega) (by decide) (fh_recv hK hP mkM_o rfl) hP hS hl.1 rfl (by exact Nat.le_of_ble_eq_true rfl) (fh_d d_Mo_handDown 81 rfl) ⟨Nat.le_refl _, Nat.le_refl _⟩ (fun v9 h9 n9 H locs hq hP hS => ?_)
        obtain ⟨rfl, u34, u35⟩ := hq
        rw [u34, u35] at hP
        refine W.eq (g2 := F0 m 138 ls []) rfl ?_
        refine lv_aload_n hx hb (fh_d d_Mo_handDown 82 rfl) rfl (lv_at hl 3 rfl) ?_
        refine lv_aload_n hx hb (fh_d d_Mo_handDown 83 rfl) rfl (lv_at hl 3 rfl) ?_
        refine fh_get (own := "FormulaSetterModel") (ref := "FormulaSetterModel") (C := "FormulaSetterModel") (T := T_Mo) (N := 53) (v := .ref (x + 12)) hx hb hT i_Mo hown hK hP mkM_o rfl 17 (by decide) (hT _ w877) (fun _ h9 => h9) rfl (fh_d d_Mo_handDown 84 rfl) ?_
        refine lv_iload_n hx hb (fh_d d_Mo_handDown 85 rfl) rfl (lv_at hl 4 rfl) ?_
        refine fn_iald (f := (rf_hand (rf_hand (rf_hand A u 2 ((A 21) n0)) lo 2 1) o1 1 ((A 21) n0)) 11) (k := n0) hx hb hK hP 0 mkM_a11 rfl (rfl) (by omega) (by decide) (fh_d d_Mo_handDown 86 rfl) ?_
        rw [show (rf_hand (rf_hand (rf_hand A u 2 ((A 21) n0)) lo 2 1) o1 1 ((A 21) n0)) 11 n0 = nI t2 from (congrFun (((rf_hand_k (by decide) (by decide)).trans (rf_hand_k (by decide) (by decide))).trans (rf_hand_k (by decide) (by decide))) n0).trans (ht2.2)]
        refine lv_iload_n hx hb (fh_d d_Mo_handDown 87 rfl) rfl (lv_at hl 2 rfl) ?_
        refine lv_if_ne (tgt := 153) hx hb (fh_d d_Mo_handDown 88 rfl) rfl (fun c36 => absurd c36 (Classical.not_not.mpr (by decide))) (fun c36 => ?_)
        refine lv_iconst (v := 1) hx hb (fh_d d_Mo_handDown 89 rfl) (by decide) ?_
        refine lv_goto (tgt := 163) hx hb (fh_d d_Mo_handDown 90 rfl) rfl ?_
        refine lv_iconst (v := 1) hx hb (fh_d d_Mo_handDown 97 rfl) (by decide) ?_
        refine fh_callV (cc' := c_Mo_hand) (nL' := 4) (rest := []) (a := x) (As := [.int (nI t2), .int 1, .int 1]) X hR (m_Mo_hand l D ct b RO (r - 1) n x g (rf_hand (rf_hand (rf_hand A u 2 ((A 21) n0)) lo 2 1) o1 1 ((A 21) n0)) th co at_ wr no nu op pi wi he de t2 ht2.1 1 1 (by decide)) w1128 w1125 w1127 v48 w9 ⟨by decide, by decide, by show _ = some 3; decide +kernel⟩ (by omega) (by decide) (fh_recv hK hP mkM_o rfl) hP hS hl.1 rfl (by exact Nat.le_of_ble_eq_true rfl) (fh_d d_Mo_handDown 98 rfl) ⟨Nat.le_refl _, Nat.le_refl _⟩ (fun v9 h9 n9 H locs hq hP hS => ?_)
        obtain ⟨rfl, u37, u38⟩ := hq
        rw [u37, u38] at hP
        refine W.eq (g2 := F0 m 167 ls []) rfl ?_
        refine lv_goto (tgt := 261) hx hb (fh_d d_Mo_handDown 99 rfl) rfl ?_
        exact fh_vret X hP hS (fh_d d_Mo_handDown 147 rfl) ⟨rfl, by subst hsv; unfold rf_hd; dsimp only; rw [if_neg c10, if_pos c17]; rfl, rfl⟩
    · refine lv_aload_n hx hb (fh_d d_Mo_handDown 17 rfl) rfl (lv_at hl 3 rfl) ?_
      refine fh_get (own := "FormulaSetterModel") (ref := "FormulaSetterModel") (C := "FormulaSetterModel") (T := T_Mo) (N := 53) (v := .ref (x + 7)) hx hb hT i_Mo hown hK hP mkM_o rfl 12 (by decide) (hT _ w872) (fun _ h9 => h9) rfl (fh_d d_Mo_handDown 18 rfl) ?_
      refine lv_iload_n hx hb (fh_d d_Mo_handDown 19 rfl) rfl (lv_at hl 4 rfl) ?_
      refine fn_iald (f := A 6) (k := n0) hx hb hK hP 0 mkM_a6 rfl (rfl) (by omega) (by decide) (fh_d d_Mo_handDown 20 rfl) ?_
      rw [show ((A 6) n0) = nI (hdz cs) from h6]
      refine lv_istore (lv' := [(5, .int (nI (hdz cs))), (4, .int ((A 1) n0)), (3, .int ((A 21) n0)), (2, .int 0), (0, .ref x), (1, .int (nI n0))]) hx hb (fh_d d_Mo_handDown 21 rfl) hl (by decide) rfl (fun ls hl => ?_)
      exact loop1 cs A hnx rfl (by subst hsv; unfold rf_hd; rw [if_pos c10]; rfl) H _ _ hP hS (lv_sub hl [0, 3, 2, 1, 4, 5] rfl)
  · have h20 : A 20 n0 = nI 1 := by rw [h20, hsv]
    have loop1 : ∀ (t : List Nat) (A1 : Nat → Nat → Int32), nxA (A 7) t → A1 7 = A 7 → rf_hds 1 (A 21 n0) t A1 = rf_hd A n0 s0 u lo o1 t2 cs → ∀ (H : Heap) (locs : List Loc) (ls : Array Slot), fh_P D fh_cl b (mkM ct x g A1 th co at_ wr no nu op pi wi he de) n H → va_S (fh_A b) s.heap H locs → lv_has ls 6 [(5, .int (nI (hdz t))), (2, .int 1), (3, .int ((A 21) n0)), (4, .int ((A 1) n0)), (0, .ref x), (1, .int (nI n0))] → W p l e (fh_rm r 0 0) s m args below meth c H locs 0 0 (MQ below (fh_Post D fh_cl b (fun v h' n' => v = none ∧ h' = mkM ct x g (rf_hd A n0 s0 u lo o1 t2 cs) th co at_ wr no nu op pi wi he de ∧ n' = n)) args s 0 0 (fh_A b)) (F0 m 35 ls []) := by
      intro t
      induction t with
      | nil =>
        intro A1 hnt h7 hfo H locs ls hP hS hl
        have hl : lv_has ls 6 [(5, .int (nI 0)), (2, .int 1), (3, .int ((A 21) n0)), (4, .int ((A 1) n0)), (0, .ref x), (1, .int (nI n0))] := hl
        refine lv_iload hx hb (fh_d d_Mo_handDown 22 rfl) (lv_at hl 0 rfl) ?_
        refine lv_if_le (tgt := 60) hx hb (fh_d d_Mo_handDown 23 rfl) rfl (fun c39 => ?_) (fun c39 => absurd c39 (fun z => z (by decide)))
        exact fh_vret X hP hS (fh_d d_Mo_handDown 35 rfl) ⟨rfl, by rw [← hfo]; rfl, rfl⟩
      | cons i t ih =>
        intro A1 hnt h7 hfo H locs ls hP hS hl
        have hl : lv_has ls 6 [(5, .int (nI i)), (2, .int 1), (3, .int ((A 21) n0)), (4, .int ((A 1) n0)), (0, .ref x), (1, .int (nI n0))] := hl
        refine lv_iload hx hb (fh_d d_Mo_handDown 22 rfl) (lv_at hl 0 rfl) ?_
        refine lv_if_le (tgt := 60) hx hb (fh_d d_Mo_handDown 23 rfl) rfl (fun c40 => absurd c40 (nI_np hnt.1)) (fun c40 => ?_)
        refine lv_aload_n hx hb (fh_d d_Mo_handDown 24 rfl) rfl (lv_at hl 4 rfl) ?_
        refine lv_iload hx hb (fh_d d_Mo_handDown 25 rfl) (lv_at hl 0 rfl) ?_
        refine lv_iload_n hx hb (fh_d d_Mo_handDown 26 rfl) rfl (lv_at hl 1 rfl) ?_
        refine lv_iload_n hx hb (fh_d d_Mo_handDown 27 rfl) rfl (lv_at hl 2 rfl) ?_
        refine fh_callV (cc' := c_Mo_hand) (nL' := 4) (rest := []) (a := x) (As := [.int (nI i), .int 1, .int ((A 21) n0)]) X hR (m_Mo_hand l D ct b RO (r - 1) n x g A1 th co at_ wr no nu op pi wi he de i hnt.1.2 1 ((A 21) n0) hcv) w1128 w1125 w1127 v48 w9 ⟨by decide, by decide, by show _ = some 3; decide +kernel⟩ (by omega) (by decide) (fh_recv hK hP mkM_o rfl) hP hS hl.1 rfl (by exact Nat.le_of_ble_eq_true rfl) (fh_d d_Mo_handDown 28 rfl) ⟨Nat.le_refl _, Nat.le_refl _⟩ (fun v9 h9 n9 H locs hq hP hS => ?_)
        obtain ⟨rfl, u41, u42⟩ := hq
        rw [u41, u42] at hP
        refine W.eq (g2 := F0 m 48 ls []) rfl ?_
        refine lv_aload_n hx hb (fh_d d_Mo_handDown 29 rfl) rfl (lv_at hl 4 rfl) ?_
        refine fh_get (own := "FormulaSetterModel") (ref := "FormulaSetterModel") (C := "FormulaSetterModel") (T := T_Mo) (N := 53) (v := .ref (x + 8)) hx hb hT i_Mo hown hK hP mkM_o rfl 13 (by decide) (hT _ w873) (fun _ h9 => h9) rfl (fh_d d_Mo_handDown 30 rfl) ?_
        refine lv_iload hx hb (fh_d d_Mo_handDown 31 rfl) (lv_at hl 0 rfl) ?_
        refine fn_iald (f := (rf_hand A1 i 1 ((A 21) n0)) 7) (k := i) hx hb hK hP 0 mkM_a7 rfl (rfl) (hnt.1.2) (by decide) (fh_d d_Mo_handDown 32 rfl) ?_
        rw [show (rf_hand A1 i 1 ((A 21) n0)) 7 i = nI (hdz t) from (congrFun (rf_hand_k (by decide) (by decide)) i).trans ((congrFun h7 i).trans hnt.2.1)]
        refine lv_istore (lv' := [(5, .int (nI (hdz t))), (2, .int 1), (3, .int ((A 21) n0)), (4, .int ((A 1) n0)), (0, .ref x), (1, .int (nI n0))]) hx hb (fh_d d_Mo_handDown 33 rfl) hl (by decide) rfl (fun ls hl => ?_)
        refine lv_goto (tgt := 35) hx hb (fh_d d_Mo_handDown 34 rfl) rfl ?_
        exact ih _ hnt.2.2 ((rf_hand_k (by decide) (by decide)).trans h7) hfo H locs _ hP hS (lv_sub hl [0, 1, 2, 3, 4, 5] rfl)
    have loop2 : ∀ (t : List Nat) (A1 : Nat → Nat → Int32), nxA (A 7) t → A1 7 = A 7 → rf_hds 1 (A 21 n0) t A1 = rf_hd A n0 s0 u lo o1 t2 cs → ∀ (H : Heap) (locs : List Loc) (ls : Array Slot), fh_P D fh_cl b (mkM ct x g A1 th co at_ wr no nu op pi wi he de) n H → va_S (fh_A b) s.heap H locs → lv_has ls 6 [(5, .int (nI (hdz t))), (2, .int 1), (3, .int ((A 21) n0)), (4, .int ((A 1) n0)), (0, .ref x), (1, .int (nI n0))] → W p l e (fh_rm r 0 0) s m args below meth c H locs 0 0 (MQ below (fh_Post D fh_cl b (fun v h' n' => v = none ∧ h' = mkM ct x g (rf_hd A n0 s0 u lo o1 t2 cs) th co at_ wr no nu op pi wi he de ∧ n' = n)) args s 0 0 (fh_A b)) (F0 m 185 ls []) := by
      intro t
      induction t with
      | nil =>
        intro A1 hnt h7 hfo H locs ls hP hS hl
        have hl : lv_has ls 6 [(5, .int (nI 0)), (2, .int 1), (3, .int ((A 21) n0)), (4, .int ((A 1) n0)), (0, .ref x), (1, .int (nI n0))] := hl
        refine lv_iload hx hb (fh_d d_Mo_handDown 108 rfl) (lv_at hl 0 rfl) ?_
        refine lv_if_le (tgt := 218) hx hb (fh_d d_Mo_handDown 109 rfl) rfl (fun c43 => ?_) (fun c43 => absurd c43 (fun z => z (by decide)))
        refine lv_goto (tgt := 261) hx hb (fh_d d_Mo_handDown 125 rfl) rfl ?_
        exact fh_vret X hP hS (fh_d d_Mo_handDown 147 rfl) ⟨rfl, by rw [← hfo]; rfl, rfl⟩
      | cons i t ih =>
        intro A1 hnt h7 hfo H locs ls hP hS hl
        have hl : lv_has ls 6 [(5, .int (nI i)), (2, .int 1), (3, .int ((A 21) n0)), (4, .int ((A 1) n0)), (0, .ref x), (1, .int (nI n0))] := hl
        refine lv_iload hx hb (fh_d d_Mo_handDown 108 rfl) (lv_at hl 0 rfl) ?_
        refine lv_if_le (tgt := 218) hx hb (fh_d d_Mo_handDown 109 rfl) rfl (fun c44 => absurd c44 (nI_np hnt.1)) (fun c44 => ?_)
        refine lv_aload_n hx hb (fh_d d_Mo_handDown 110 rfl) rfl (lv_at hl 4 rfl) ?_
        refine lv_iload hx hb (fh_d d_Mo_handDown 111 rfl) (lv_at hl 0 rfl) ?_
        refine lv_iload_n hx hb (fh_d d_Mo_handDown 112 rfl) rfl (lv_at hl 1 rfl) ?_
        refine lv_if_ne (tgt := 201) hx hb (fh_d d_Mo_handDown 113 rfl) rfl (fun c45 => ?_) (fun c45 => absurd c45 (by decide))
        refine lv_iload_n hx hb (fh_d d_Mo_handDown 116 rfl) rfl (lv_at hl 1 rfl) ?_
        refine lv_iload_n hx hb (fh_d d_Mo_handDown 117 rfl) rfl (lv_at hl 2 rfl) ?_
        refine fh_callV (cc' := c_Mo_hand) (nL' := 4) (rest := []) (a := x) (As := [.int (nI i), .int 1, .int ((A 21) n0)]) X hR (m_Mo_hand l D ct b RO (r - 1) n x g A1 th co at_ wr no nu op pi wi he de i hnt.1.2 1 ((A 21) n0) hcv) w1128 w1125 w1127 v48 w9 ⟨by decide, by decide, by show _ = some 3; decide +kernel⟩ (by omega) (by decide) (fh_recv hK hP mkM_o rfl) hP hS hl.1 rfl (by exact Nat.le_of_ble_eq_true rfl) (fh_d d_Mo_handDown 118 rfl) ⟨Nat.le_refl _, Nat.le_refl _⟩ (fun v9 h9 n9 H locs hq hP hS => ?_)
        obtain ⟨rfl, u46, u47⟩ := hq
        rw [u46, u47] at hP
        refine W.eq (g2 := F0 m 206 ls []) rfl ?_
        refine lv_aload_n hx hb (fh_d d_Mo_handDown 119 rfl) rfl (lv_at hl 4 rfl) ?_
        refine fh_get (own := "FormulaSetterModel") (ref := "FormulaSetterModel") (C := "FormulaSetterModel") (T := T_Mo) (N := 53) (v := .ref (x + 8)) hx hb hT i_Mo hown hK hP mkM_o rfl 13 (by decide) (hT _ w873) (fun _ h9 => h9) rfl (fh_d d_Mo_handDown 120 rfl) ?_
        refine lv_iload hx hb (fh_d d_Mo_handDown 121 rfl) (lv_at hl 0 rfl) ?_
        refine fn_iald (f := (rf_hand A1 i 1 ((A 21) n0)) 7) (k := i) hx hb hK hP 0 mkM_a7 rfl (rfl) (hnt.1.2) (by decide) (fh_d d_Mo_handDown 122 rfl) ?_
        rw [show (rf_hand A1 i 1 ((A 21) n0)) 7 i = nI (hdz t) from (congrFun (rf_hand_k (by decide) (by decide)) i).trans ((congrFun h7 i).trans hnt.2.1)]
        refine lv_istore (lv' := [(5, .int (nI (hdz t))), (2, .int 1), (3, .int ((A 21) n0)), (4, .int ((A 1) n0)), (0, .ref x), (1, .int (nI n0))]) hx hb (fh_d d_Mo_handDown 123 rfl) hl (by decide) rfl (fun ls hl => ?_)
        refine lv_goto (tgt := 185) hx hb (fh_d d_Mo_handDown 124 rfl) rfl ?_
        exact ih _ hnt.2.2 ((rf_hand_k (by decide) (by decide)).trans h7) hfo H locs _ hP hS (lv_sub hl [0, 1, 2, 3, 4, 5] rfl)
    refine lv_aload_n hx hb (fh_d d_Mo_handDown 0 rfl) rfl (lv_at hl 0 rfl) ?_
    refine fh_get (own := "FormulaSetterModel") (ref := "FormulaSetterModel") (C := "FormulaSetterModel") (T := T_Mo) (N := 53) (v := .ref (x + 21)) hx hb hT i_Mo hown hK hP mkM_o rfl 27 (by decide) (hT _ w887) (fun _ h9 => h9) rfl (fh_d d_Mo_handDown 1 rfl) ?_
    refine lv_iload_n hx hb (fh_d d_Mo_handDown 2 rfl) rfl (lv_at hl 1 rfl) ?_
    refine fn_iald (f := A 20) (k := n0) hx hb hK hP 0 mkM_a20 rfl (rfl) (by omega) (by decide) (fh_d d_Mo_handDown 3 rfl) ?_
    rw [show ((A 20) n0) = 1 from h20]
    refine lv_istore_n (lv' := [(2, .int 1), (0, .ref x), (1, .int (nI n0))]) hx hb (fh_d d_Mo_handDown 4 rfl) rfl hl (by decide) rfl (fun ls hl => ?_)
    refine lv_aload_n hx hb (fh_d d_Mo_handDown 5 rfl) rfl (lv_at hl 1 rfl) ?_
    refine fh_get (own := "FormulaSetterModel") (ref := "FormulaSetterModel") (C := "FormulaSetterModel") (T := T_Mo) (N := 53) (v := .ref (x + 22)) hx hb hT i_Mo hown hK hP mkM_o rfl 28 (by decide) (hT _ w888) (fun _ h9 => h9) rfl (fh_d d_Mo_handDown 6 rfl) ?_
    refine lv_iload_n hx hb (fh_d d_Mo_handDown 7 rfl) rfl (lv_at hl 2 rfl) ?_
    refine fn_zald (f := A 21) (k := n0) hx hb hK hP 3 mkM_a21 rfl (rfl) (by omega) (by decide) (fh_d d_Mo_handDown 8 rfl) ?_
    refine lv_istore_n (lv' := [(3, .int ((A 21) n0)), (2, .int 1), (0, .ref x), (1, .int (nI n0))]) hx hb (fh_d d_Mo_handDown 9 rfl) rfl hl (by decide) rfl (fun ls hl => ?_)
    refine lv_aload_n hx hb (fh_d d_Mo_handDown 10 rfl) rfl (lv_at hl 2 rfl) ?_
    refine fh_get (own := "FormulaSetterModel") (ref := "FormulaSetterModel") (C := "FormulaSetterModel") (T := T_Mo) (N := 53) (v := .ref (x + 2)) hx hb hT i_Mo hown hK hP mkM_o rfl 7 (by decide) (hT _ w867) (fun _ h9 => h9) rfl (fh_d d_Mo_handDown 11 rfl) ?_
    refine lv_iload_n hx hb (fh_d d_Mo_handDown 12 rfl) rfl (lv_at hl 3 rfl) ?_
    refine fn_iald (f := A 1) (k := n0) hx hb hK hP 0 mkM_a1 rfl (rfl) (by omega) (by decide) (fh_d d_Mo_handDown 13 rfl) ?_
    refine lv_istore (lv' := [(4, .int ((A 1) n0)), (3, .int ((A 21) n0)), (2, .int 1), (0, .ref x), (1, .int (nI n0))]) hx hb (fh_d d_Mo_handDown 14 rfl) hl (by decide) rfl (fun ls hl => ?_)
    refine lv_iload hx hb (fh_d d_Mo_handDown 15 rfl) (lv_at hl 0 rfl) ?_
    refine lv_if_ne (tgt := 61) hx hb (fh_d d_Mo_handDown 16 rfl) rfl (fun c48 => ?_) (fun c48 => ?_)
    · refine lv_aload_n hx hb (fh_d d_Mo_handDown 36 rfl) rfl (lv_at hl 3 rfl) ?_
      refine lv_aload_n hx hb (fh_d d_Mo_handDown 37 rfl) rfl (lv_at hl 3 rfl) ?_
      refine fh_get (own := "FormulaSetterModel") (ref := "FormulaSetterModel") (C := "FormulaSetterModel") (T := T_Mo) (N := 53) (v := .ref (x + 13)) hx hb hT i_Mo hown hK hP mkM_o rfl 18 (by decide) (hT _ w878) (fun _ h9 => h9) rfl (fh_d d_Mo_handDown 38 rfl) ?_
      refine lv_iload_n hx hb (fh_d d_Mo_handDown 39 rfl) rfl (lv_at hl 4 rfl) ?_
      refine fn_iald (f := A 12) (k := n0) hx hb hK hP 0 mkM_a12 rfl (rfl) (by omega) (by decide) (fh_d d_Mo_handDown 40 rfl) ?_
      rw [show ((A 12) n0) = nI u from hu.2]
      refine lv_iload_n hx hb (fh_d d_Mo_handDown 41 rfl) rfl (lv_at hl 2 rfl) ?_
      refine lv_iconst (v := 2) hx hb (fh_d d_Mo_handDown 42 rfl) (by decide) ?_
      refine lv_icmp_ge (tgt := 77) hx hb (fh_d d_Mo_handDown 43 rfl) rfl (fun c49 => absurd c49 (by decide)) (fun c49 => ?_)
      refine lv_iconst (v := 2) hx hb (fh_d d_Mo_handDown 44 rfl) (by decide) ?_
      refine lv_goto (tgt := 78) hx hb (fh_d d_Mo_handDown 45 rfl) rfl ?_
      refine lv_iload_n hx hb (fh_d d_Mo_handDown 47 rfl) rfl (lv_at hl 1 rfl) ?_
      refine fh_callV (cc' := c_Mo_hand) (nL' := 4) (rest := []) (a := x) (As := [.int (nI u), .int 2, .int ((A 21) n0)]) X hR (m_Mo_hand l D ct b RO (r - 1) n x g A th co at_ wr no nu op pi wi he de u hu.1 2 ((A 21) n0) hcv) w1128 w1125 w1127 v48 w9 ⟨by decide, by decide, by show _ = some 3; decide +kernel⟩ (by omega) (by decide) (fh_recv hK hP mkM_o rfl) hP hS hl.1 rfl (by exact Nat.le_of_ble_eq_true rfl) (fh_d d_Mo_handDown 48 rfl) ⟨Nat.le_refl _, Nat.le_refl _⟩ (fun v9 h9 n9 H locs hq hP hS => ?_)
      obtain ⟨rfl, u50, u51⟩ := hq
      rw [u50, u51] at hP
      refine W.eq (g2 := F0 m 82 ls []) rfl ?_
      refine lv_aload_n hx hb (fh_d d_Mo_handDown 49 rfl) rfl (lv_at hl 3 rfl) ?_
      refine lv_aload_n hx hb (fh_d d_Mo_handDown 50 rfl) rfl (lv_at hl 3 rfl) ?_
      refine fh_get (own := "FormulaSetterModel") (ref := "FormulaSetterModel") (C := "FormulaSetterModel") (T := T_Mo) (N := 53) (v := .ref (x + 14)) hx hb hT i_Mo hown hK hP mkM_o rfl 19 (by decide) (hT _ w879) (fun _ h9 => h9) rfl (fh_d d_Mo_handDown 51 rfl) ?_
      refine lv_iload_n hx hb (fh_d d_Mo_handDown 52 rfl) rfl (lv_at hl 4 rfl) ?_
      refine fn_iald (f := (rf_hand A u 2 ((A 21) n0)) 13) (k := n0) hx hb hK hP 0 mkM_a13 rfl (rfl) (by omega) (by decide) (fh_d d_Mo_handDown 53 rfl) ?_
      rw [show (rf_hand A u 2 ((A 21) n0)) 13 n0 = nI lo from (congrFun (rf_hand_k (by decide) (by decide)) n0).trans (hlo.2)]
      refine lv_iload_n hx hb (fh_d d_Mo_handDown 54 rfl) rfl (lv_at hl 2 rfl) ?_
      refine lv_iconst (v := 2) hx hb (fh_d d_Mo_handDown 55 rfl) (by decide) ?_
      refine lv_icmp_ge (tgt := 98) hx hb (fh_d d_Mo_handDown 56 rfl) rfl (fun c52 => absurd c52 (by decide)) (fun c52 => ?_)
      refine lv_iconst (v := 2) hx hb (fh_d d_Mo_handDown 57 rfl) (by decide) ?_
      refine lv_goto (tgt := 99) hx hb (fh_d d_Mo_handDown 58 rfl) rfl ?_
      refine lv_iconst (v := 1) hx hb (fh_d d_Mo_handDown 60 rfl) (by decide) ?_
      refine fh_callV (cc' := c_Mo_hand) (nL' := 4) (rest := []) (a := x) (As := [.int (nI lo), .int 2, .int 1]) X hR (m_Mo_hand l D ct b RO (r - 1) n x g (rf_hand A u 2 ((A 21) n0)) th co at_ wr no nu op pi wi he de lo hlo.1 2 1 (by decide)) w1128 w1125 w1127 v48 w9 ⟨by decide, by decide, by show _ = some 3; decide +kernel⟩ (by omega) (by decide) (fh_recv hK hP mkM_o rfl) hP hS hl.1 rfl (by exact Nat.le_of_ble_eq_true rfl) (fh_d d_Mo_handDown 61 rfl) ⟨Nat.le_refl _, Nat.le_refl _⟩ (fun v9 h9 n9 H locs hq hP hS => ?_)
      obtain ⟨rfl, u53, u54⟩ := hq
      rw [u53, u54] at hP
      refine W.eq (g2 := F0 m 103 ls []) rfl ?_
      refine lv_iload hx hb (fh_d d_Mo_handDown 62 rfl) (lv_at hl 0 rfl) ?_
      refine lv_iconst (v := 4) hx hb (fh_d d_Mo_handDown 63 rfl) (by decide) ?_
      refine lv_icmp_ne (tgt := 170) hx hb (fh_d d_Mo_handDown 64 rfl) rfl (fun c55 => ?_) (fun c55 => ?_)
      · refine lv_iload hx hb (fh_d d_Mo_handDown 100 rfl) (lv_at hl 0 rfl) ?_
        refine lv_bipush (v := 9) hx hb (fh_d d_Mo_handDown 101 rfl) (by decide) ?_
        refine lv_icmp_ne (tgt := 221) hx hb (fh_d d_Mo_handDown 102 rfl) rfl (fun c56 => ?_) (fun c56 => ?_)
        · refine lv_aload_n hx hb (fh_d d_Mo_handDown 126 rfl) rfl (lv_at hl 3 rfl) ?_
          refine lv_aload_n hx hb (fh_d d_Mo_handDown 127 rfl) rfl (lv_at hl 3 rfl) ?_
          refine fh_get (own := "FormulaSetterModel") (ref := "FormulaSetterModel") (C := "FormulaSetterModel") (T := T_Mo) (N := 53) (v := .ref (x + 11)) hx hb hT i_Mo hown hK hP mkM_o rfl 16 (by decide) (hT _ w876) (fun _ h9 => h9) rfl (fh_d d_Mo_handDown 128 rfl) ?_
          refine lv_iload_n hx hb (fh_d d_Mo_handDown 129 rfl) rfl (lv_at hl 4 rfl) ?_
          refine fn_iald (f := (rf_hand (rf_hand A u 2 ((A 21) n0)) lo 2 1) 10) (k := n0) hx hb hK hP 0 mkM_a10 rfl (rfl) (by omega) (by decide) (fh_d d_Mo_handDown 130 rfl) ?_
          rw [show (rf_hand (rf_hand A u 2 ((A 21) n0)) lo 2 1) 10 n0 = nI o1 from (congrFun ((rf_hand_k (by decide) (by decide)).trans (rf_hand_k (by decide) (by decide))) n0).trans (ho1.2)]
          refine lv_iload_n hx hb (fh_d d_Mo_handDown 131 rfl) rfl (lv_at hl 2 rfl) ?_
          refine lv_iload_n hx hb (fh_d d_Mo_handDown 132 rfl) rfl (lv_at hl 1 rfl) ?_
          refine lv_if_ne (tgt := 253) hx hb (fh_d d_Mo_handDown 133 rfl) rfl (fun c57 => ?_) (fun c57 => ?_)
          · refine lv_iconst (v := 1) hx hb (fh_d d_Mo_handDown 143 rfl) (by decide) ?_
            refine lv_goto (tgt := 258) hx hb (fh_d d_Mo_handDown 144 rfl) rfl ?_
            refine fh_callV (cc' := c_Mo_hand) (nL' := 4) (rest := []) (a := x) (As := [.int (nI o1), .int 1, .int 1]) X hR (m_Mo_hand l D ct b RO (r - 1) n x g (rf_hand (rf_hand A u 2 ((A 21) n0)) lo 2 1) th co at_ wr no nu op pi wi he de o1 ho1.1 1 1 (by decide)) w1128 w1125 w1127 v48 w9 ⟨by decide, by decide, by show _ = some 3; decide +kernel⟩ (by omega) (by decide) (fh_recv hK hP mkM_o rfl) hP hS hl.1 rfl (by exact Nat.le_of_ble_eq_true rfl) (fh_d d_Mo_handDown 146 rfl) ⟨Nat.le_refl _, Nat.le_refl _⟩ (fun v9 h9 n9 H locs hq hP hS => ?_)
            obtain ⟨rfl, u58, u59⟩ := hq
            rw [u58, u59] at hP
            refine W.eq (g2 := F0 m 261 ls []) rfl ?_
            exact fh_vret X hP hS (fh_d d_Mo_handDown 147 rfl) ⟨rfl, by subst hsv; unfold rf_hd; dsimp only; rw [if_neg c48, if_neg c55, if_neg c56, if_pos (Or.inl c57)]; rfl, rfl⟩
          · refine lv_iload hx hb (fh_d d_Mo_handDown 134 rfl) (lv_at hl 0 rfl) ?_
            refine lv_iconst (v := 5) hx hb (fh_d d_Mo_handDown 135 rfl) (by decide) ?_
            refine lv_icmp_eq (tgt := 253) hx hb (fh_d d_Mo_handDown 136 rfl) rfl (fun c60 => ?_) (fun c60 => ?_)
            · refine lv_iconst (v := 1) hx hb (fh_d d_Mo_handDown 143 rfl) (by decide) ?_
              refine lv_goto (tgt := 258) hx hb (fh_d d_Mo_handDown 144 rfl) rfl ?_
              refine fh_callV (cc' := c_Mo_hand) (nL' := 4) (rest := []) (a := x) (As := [.int (nI o1), .int 1, .int 1]) X hR (m_Mo_hand l D ct b RO (r - 1) n x g (rf_hand (rf_hand A u 2 ((A 21) n0)) lo 2 1) th co at_ wr no nu op pi wi he de o1 ho1.1 1 1 (by decide)) w1128 w1125 w1127 v48 w9 ⟨by decide, by decide, by show _ = some 3; decide +kernel⟩ (by omega) (by decide) (fh_recv hK hP mkM_o rfl) hP hS hl.1 rfl (by exact Nat.le_of_ble_eq_true rfl) (fh_d d_Mo_handDown 146 rfl) ⟨Nat.le_refl _, Nat.le_refl _⟩ (fun v9 h9 n9 H locs hq hP hS => ?_)
              obtain ⟨rfl, u61, u62⟩ := hq
              rw [u61, u62] at hP
              refine W.eq (g2 := F0 m 261 ls []) rfl ?_
              exact fh_vret X hP hS (fh_d d_Mo_handDown 147 rfl) ⟨rfl, by subst hsv; unfold rf_hd; dsimp only; rw [if_neg c48, if_neg c55, if_neg c56, if_pos (Or.inr (Or.inl c60))]; rfl, rfl⟩
            · refine lv_iload hx hb (fh_d d_Mo_handDown 137 rfl) (lv_at hl 0 rfl) ?_
              refine lv_bipush (v := 6) hx hb (fh_d d_Mo_handDown 138 rfl) (by decide) ?_
              refine lv_icmp_eq (tgt := 253) hx hb (fh_d d_Mo_handDown 139 rfl) rfl (fun c63 => ?_) (fun c63 => ?_)
              · refine lv_iconst (v := 1) hx hb (fh_d d_Mo_handDown 143 rfl) (by decide) ?_
                refine lv_goto (tgt := 258) hx hb (fh_d d_Mo_handDown 144 rfl) rfl ?_
                refine fh_callV (cc' := c_Mo_hand) (nL' := 4) (rest := []) (a := x) (As := [.int (nI o1), .int 1, .int 1]) X hR (m_Mo_hand l D ct b RO (r - 1) n x g (rf_hand (rf_hand A u 2 ((A 21) n0)) lo 2 1) th co at_ wr no nu op pi wi he de o1 ho1.1 1 1 (by decide)) w1128 w1125 w1127 v48 w9 ⟨by decide, by decide, by show _ = some 3; decide +kernel⟩ (by omega) (by decide) (fh_recv hK hP mkM_o rfl) hP hS hl.1 rfl (by exact Nat.le_of_ble_eq_true rfl) (fh_d d_Mo_handDown 146 rfl) ⟨Nat.le_refl _, Nat.le_refl _⟩ (fun v9 h9 n9 H locs hq hP hS => ?_)
                obtain ⟨rfl, u64, u65⟩ := hq
                rw [u64, u65] at hP
                refine W.eq (g2 := F0 m 261 ls []) rfl ?_
                exact fh_vret X hP hS (fh_d d_Mo_handDown 147 rfl) ⟨rfl, by subst hsv; unfold rf_hd; dsimp only; rw [if_neg c48, if_neg c55, if_neg c56, if_pos (Or.inr (Or.inr (Or.inl c63)))]; rfl, rfl⟩
              · refine lv_iload hx hb (fh_d d_Mo_handDown 140 rfl) (lv_at hl 0 rfl) ?_
                refine lv_bipush (v := 7) hx hb (fh_d d_Mo_handDown 141 rfl) (by decide) ?_
                refine lv_icmp_ne (tgt := 257) hx hb (fh_d d_Mo_handDown 142 rfl) rfl (fun c66 => ?_) (fun c66 => ?_)
                · refine lv_iconst (v := 0) hx hb (fh_d d_Mo_handDown 145 rfl) (by decide) ?_
                  refine fh_callV (cc' := c_Mo_hand) (nL' := 4) (rest := []) (a := x) (As := [.int (nI o1), .int 1, .int 0]) X hR (m_Mo_hand l D ct b RO (r - 1) n x g (rf_hand (rf_hand A u 2 ((A 21) n0)) lo 2 1) th co at_ wr no nu op pi wi he de o1 ho1.1 1 0 (by decide)) w1128 w1125 w1127 v48 w9 ⟨by decide, by decide, by show _ = some 3; decide +kernel⟩ (by omega) (by decide) (fh_recv hK hP mkM_o rfl) hP hS hl.1 rfl (by exact Nat.le_of_ble_eq_true rfl) (fh_d d_Mo_handDown 146 rfl) ⟨Nat.le_refl _, Nat.le_refl _⟩ (fun v9 h9 n9 H locs hq hP hS => ?_)
                  obtain ⟨rfl, u67, u68⟩ := hq
                  rw [u67, u68] at hP
                  refine W.eq (g2 := F0 m 261 ls []) rfl ?_
                  exact fh_vret X hP hS (fh_d d_Mo_handDown 147 rfl) ⟨rfl, by subst hsv; unfold rf_hd; dsimp only; rw [if_neg c48, if_neg c55, if_neg c56, if_neg (fun z => z.elim (fun y => y c57) (fun z => z.elim c60 (fun z => z.elim c63 c66)))]; rfl, rfl⟩
                · refine lv_iconst (v := 1) hx hb (fh_d d_Mo_handDown 143 rfl) (by decide) ?_
                  refine lv_goto (tgt := 258) hx hb (fh_d d_Mo_handDown 144 rfl) rfl ?_
                  refine fh_callV (cc' := c_Mo_hand) (nL' := 4) (rest := []) (a := x) (As := [.int (nI o1), .int 1, .int 1]) X hR (m_Mo_hand l D ct b RO (r - 1) n x g (rf_hand (rf_hand A u 2 ((A 21) n0)) lo 2 1) th co at_ wr no nu op pi wi he de o1 ho1.1 1 1 (by decide)) w1128 w1125 w1127 v48 w9 ⟨by decide, by decide, by show _ = some 3; decide +kernel⟩ (by omega) (by decide) (fh_recv hK hP mkM_o rfl) hP hS hl.1 rfl (by exact Nat.le_of_ble_eq_true rfl) (fh_d d_Mo_handDown 146 rfl) ⟨Nat.le_refl _, Nat.le_refl _⟩ (fun v9 h9 n9 H locs hq hP hS => ?_)
                  obtain ⟨rfl, u69, u70⟩ := hq
                  rw [u69, u70] at hP
                  refine W.eq (g2 := F0 m 261 ls []) rfl ?_
                  exact fh_vret X hP hS (fh_d d_Mo_handDown 147 rfl) ⟨rfl, by subst hsv; unfold rf_hd; dsimp only; rw [if_neg c48, if_neg c55, if_neg c56, if_pos (Or.inr (Or.inr (Or.inr c66)))]; rfl, rfl⟩
        · refine lv_aload_n hx hb (fh_d d_Mo_handDown 103 rfl) rfl (lv_at hl 3 rfl) ?_
          refine fh_get (own := "FormulaSetterModel") (ref := "FormulaSetterModel") (C := "FormulaSetterModel") (T := T_Mo) (N := 53) (v := .ref (x + 7)) hx hb hT i_Mo hown hK hP mkM_o rfl 12 (by decide) (hT _ w872) (fun _ h9 => h9) rfl (fh_d d_Mo_handDown 104 rfl) ?_
          refine lv_iload_n hx hb (fh_d d_Mo_handDown 105 rfl) rfl (lv_at hl 4 rfl) ?_
          refine fn_iald (f := (rf_hand (rf_hand A u 2 ((A 21) n0)) lo 2 1) 6) (k := n0) hx hb hK hP 0 mkM_a6 rfl (rfl) (by omega) (by decide) (fh_d d_Mo_handDown 106 rfl) ?_
          rw [show (rf_hand (rf_hand A u 2 ((A 21) n0)) lo 2 1) 6 n0 = nI (hdz cs) from (congrFun ((rf_hand_k (by decide) (by decide)).trans (rf_hand_k (by decide) (by decide))) n0).trans (h6)]
          refine lv_istore (lv' := [(5, .int (nI (hdz cs))), (4, .int ((A 1) n0)), (3, .int ((A 21) n0)), (2, .int 1), (0, .ref x), (1, .int (nI n0))]) hx hb (fh_d d_Mo_handDown 107 rfl) hl (by decide) rfl (fun ls hl => ?_)
          exact loop2 cs _ hnx ((rf_hand_k (by decide) (by decide)).trans (rf_hand_k (by decide) (by decide))) (by subst hsv; unfold rf_hd; dsimp only; rw [if_neg c48, if_neg c55, if_pos c56]; rfl) H _ _ hP hS (lv_sub hl [0, 3, 2, 1, 4, 5] rfl)
      · refine lv_aload_n hx hb (fh_d d_Mo_handDown 65 rfl) rfl (lv_at hl 3 rfl) ?_
        refine lv_aload_n hx hb (fh_d d_Mo_handDown 66 rfl) rfl (lv_at hl 3 rfl) ?_
        refine fh_get (own := "FormulaSetterModel") (ref := "FormulaSetterModel") (C := "FormulaSetterModel") (T := T_Mo) (N := 53) (v := .ref (x + 11)) hx hb hT i_Mo hown hK hP mkM_o rfl 16 (by decide) (hT _ w876) (fun _ h9 => h9) rfl (fh_d d_Mo_handDown 67 rfl) ?_
        refine lv_iload_n hx hb (fh_d d_Mo_handDown 68 rfl) rfl (lv_at hl 4 rfl) ?_
        refine fn_iald (f := (rf_hand (rf_hand A u 2 ((A 21) n0)) lo 2 1) 10) (k := n0) hx hb hK hP 0 mkM_a10 rfl (rfl) (by omega) (by decide) (fh_d d_Mo_handDown 69 rfl) ?_
        rw [show (rf_hand (rf_hand A u 2 ((A 21) n0)) lo 2 1) 10 n0 = nI o1 from (congrFun ((rf_hand_k (by decide) (by decide)).trans (rf_hand_k (by decide) (by decide))) n0).trans (ho1.2)]
        refine lv_iload_n hx hb (fh_d d_Mo_handDown 70 rfl) rfl (lv_at hl 2 rfl) ?_
        refine lv_if_ne (tgt := 124) hx hb (fh_d d_Mo_handDown 71 rfl) rfl (fun c71 => ?_) (fun c71 => absurd c71 (by decide))
        refine lv_iload_n hx hb (fh_d d_Mo_handDown 74 rfl) rfl (lv_at hl 2 rfl) ?_
        refine lv_iconst (v := 1) hx hb (fh_d d_Mo_handDown 75 rfl) (by decide) ?_
        refine lv_icmp_ne (tgt := 133) hx hb (fh_d d_Mo_handDown 76 rfl) rfl (fun c72 => absurd c72 (Classical.not_not.mpr (by decide))) (fun c72 => ?_)
        refine lv_iconst (v := 2) hx hb (fh_d d_Mo_handDown 77 rfl) (by decide) ?_
        refine lv_goto (tgt := 134) hx hb (fh_d d_Mo_handDown 78 rfl) rfl ?_
        refine lv_iload_n hx hb (fh_d d_Mo_handDown 80 rfl) rfl (lv_at hl 1 rfl) ?_
        refine fh_callV (cc' := c_Mo_hand) (nL' := 4) (rest := []) (a := x) (As := [.int (nI o1), .int 2, .int ((A 21) n0)]) X hR (m_Mo_hand l D ct b RO (r - 1) n x g (rf_hand (rf_hand A u 2 ((A 21) n0)) lo 2 1) th co at_ wr no nu op pi wi he de o1 ho1.1 2 ((A 21) n0) hcv) w1128 w1125 w1127 v48 w9 ⟨by decide, by decide, by show _ = some 3; decide +kernel⟩ (by omega) (by decide) (fh_recv hK hP mkM_o rfl) hP hS hl.1 rfl (by exact Nat.le_of_ble_eq_true rfl) (fh_d d_Mo_handDown 81 rfl) ⟨Nat.le_refl _, Nat.le_refl _⟩ (fun v9 h9 n9 H locs hq hP hS => ?_)
        obtain ⟨rfl, u73, u74⟩ := hq
        rw [u73, u74] at hP
        refine W.eq (g2 := F0 m 138 ls []) rfl ?_
        refine lv_aload_n hx hb (fh_d d_Mo_handDown 82 rfl) rfl (lv_at hl 3 rfl) ?_
        refine lv_aload_n hx hb (fh_d d_Mo_handDown 83 rfl) rfl (lv_at hl 3 rfl) ?_
        refine fh_get (own := "FormulaSetterModel") (ref := "FormulaSetterModel") (C := "FormulaSetterModel") (T := T_Mo) (N := 53) (v := .ref (x + 12)) hx hb hT i_Mo hown hK hP mkM_o rfl 17 (by decide) (hT _ w877) (fun _ h9 => h9) rfl (fh_d d_Mo_handDown 84 rfl) ?_
        refine lv_iload_n hx hb (fh_d d_Mo_handDown 85 rfl) rfl (lv_at hl 4 rfl) ?_
        refine fn_iald (f := (rf_hand (rf_hand (rf_hand A u 2 ((A 21) n0)) lo 2 1) o1 2 ((A 21) n0)) 11) (k := n0) hx hb hK hP 0 mkM_a11 rfl (rfl) (by omega) (by decide) (fh_d d_Mo_handDown 86 rfl) ?_
        rw [show (rf_hand (rf_hand (rf_hand A u 2 ((A 21) n0)) lo 2 1) o1 2 ((A 21) n0)) 11 n0 = nI t2 from (congrFun (((rf_hand_k (by decide) (by decide)).trans (rf_hand_k (by decide) (by decide))).trans (rf_hand_k (by decide) (by decide))) n0).trans (ht2.2)]
        refine lv_iload_n hx hb (fh_d d_Mo_handDown 87 rfl) rfl (lv_at hl 2 rfl) ?_
        refine lv_if_ne (tgt := 153) hx hb (fh_d d_Mo_handDown 88 rfl) rfl (fun c75 => ?_) (fun c75 => absurd c75 (by decide))
        refine lv_iload_n hx hb (fh_d d_Mo_handDown 91 rfl) rfl (lv_at hl 2 rfl) ?_
        refine lv_iconst (v := 1) hx hb (fh_d d_Mo_handDown 92 rfl) (by decide) ?_
        refine lv_icmp_ne (tgt := 162) hx hb (fh_d d_Mo_handDown 93 rfl) rfl (fun c76 => absurd c76 (Classical.not_not.mpr (by decide))) (fun c76 => ?_)
        refine lv_iconst (v := 2) hx hb (fh_d d_Mo_handDown 94 rfl) (by decide) ?_
        refine lv_goto (tgt := 163) hx hb (fh_d d_Mo_handDown 95 rfl) rfl ?_
        refine lv_iconst (v := 1) hx hb (fh_d d_Mo_handDown 97 rfl) (by decide) ?_
        refine fh_callV (cc' := c_Mo_hand) (nL' := 4) (rest := []) (a := x) (As := [.int (nI t2), .int 2, .int 1]) X hR (m_Mo_hand l D ct b RO (r - 1) n x g (rf_hand (rf_hand (rf_hand A u 2 ((A 21) n0)) lo 2 1) o1 2 ((A 21) n0)) th co at_ wr no nu op pi wi he de t2 ht2.1 2 1 (by decide)) w1128 w1125 w1127 v48 w9 ⟨by decide, by decide, by show _ = some 3; decide +kernel⟩ (by omega) (by decide) (fh_recv hK hP mkM_o rfl) hP hS hl.1 rfl (by exact Nat.le_of_ble_eq_true rfl) (fh_d d_Mo_handDown 98 rfl) ⟨Nat.le_refl _, Nat.le_refl _⟩ (fun v9 h9 n9 H locs hq hP hS => ?_)
        obtain ⟨rfl, u77, u78⟩ := hq
        rw [u77, u78] at hP
        refine W.eq (g2 := F0 m 167 ls []) rfl ?_
        refine lv_goto (tgt := 261) hx hb (fh_d d_Mo_handDown 99 rfl) rfl ?_
        exact fh_vret X hP hS (fh_d d_Mo_handDown 147 rfl) ⟨rfl, by subst hsv; unfold rf_hd; dsimp only; rw [if_neg c48, if_pos c55]; rfl, rfl⟩
    · refine lv_aload_n hx hb (fh_d d_Mo_handDown 17 rfl) rfl (lv_at hl 3 rfl) ?_
      refine fh_get (own := "FormulaSetterModel") (ref := "FormulaSetterModel") (C := "FormulaSetterModel") (T := T_Mo) (N := 53) (v := .ref (x + 7)) hx hb hT i_Mo hown hK hP mkM_o rfl 12 (by decide) (hT _ w872) (fun _ h9 => h9) rfl (fh_d d_Mo_handDown 18 rfl) ?_
      refine lv_iload_n hx hb (fh_d d_Mo_handDown 19 rfl) rfl (lv_at hl 4 rfl) ?_
      refine fn_iald (f := A 6) (k := n0) hx hb hK hP 0 mkM_a6 rfl (rfl) (by omega) (by decide) (fh_d d_Mo_handDown 20 rfl) ?_
      rw [show ((A 6) n0) = nI (hdz cs) from h6]
      refine lv_istore (lv' := [(5, .int (nI (hdz cs))), (4, .int ((A 1) n0)), (3, .int ((A 21) n0)), (2, .int 1), (0, .ref x), (1, .int (nI n0))]) hx hb (fh_d d_Mo_handDown 21 rfl) hl (by decide) rfl (fun ls hl => ?_)
      exact loop1 cs A hnx rfl (by subst hsv; unfold rf_hd; rw [if_pos c48]; rfl) H _ _ hP hS (lv_sub hl [0, 3, 2, 1, 4, 5] rfl)
  · have h20 : A 20 n0 = nI 2 := by rw [h20, hsv]
    have loop1 : ∀ (t : List Nat) (A1 : Nat → Nat → Int32), nxA (A 7) t → A1 7 = A 7 → rf_hds 2 (A 21 n0) t A1 = rf_hd A n0 s0 u lo o1 t2 cs → ∀ (H : Heap) (locs : List Loc) (ls : Array Slot), fh_P D fh_cl b (mkM ct x g A1 th co at_ wr no nu op pi wi he de) n H → va_S (fh_A b) s.heap H locs → lv_has ls 6 [(5, .int (nI (hdz t))), (2, .int 2), (3, .int ((A 21) n0)), (4, .int ((A 1) n0)), (0, .ref x), (1, .int (nI n0))] → W p l e (fh_rm r 0 0) s m args below meth c H locs 0 0 (MQ below (fh_Post D fh_cl b (fun v h' n' => v = none ∧ h' = mkM ct x g (rf_hd A n0 s0 u lo o1 t2 cs) th co at_ wr no nu op pi wi he de ∧ n' = n)) args s 0 0 (fh_A b)) (F0 m 35 ls []) := by
      intro t
      induction t with
      | nil =>
        intro A1 hnt h7 hfo H locs ls hP hS hl
        have hl : lv_has ls 6 [(5, .int (nI 0)), (2, .int 2), (3, .int ((A 21) n0)), (4, .int ((A 1) n0)), (0, .ref x), (1, .int (nI n0))] := hl
        refine lv_iload hx hb (fh_d d_Mo_handDown 22 rfl) (lv_at hl 0 rfl) ?_
        refine lv_if_le (tgt := 60) hx hb (fh_d d_Mo_handDown 23 rfl) rfl (fun c79 => ?_) (fun c79 => absurd c79 (fun z => z (by decide)))
        exact fh_vret X hP hS (fh_d d_Mo_handDown 35 rfl) ⟨rfl, by rw [← hfo]; rfl, rfl⟩
      | cons i t ih =>
        intro A1 hnt h7 hfo H locs ls hP hS hl
        have hl : lv_has ls 6 [(5, .int (nI i)), (2, .int 2), (3, .int ((A 21) n0)), (4, .int ((A 1) n0)), (0, .ref x), (1, .int (nI n0))] := hl
        refine lv_iload hx hb (fh_d d_Mo_handDown 22 rfl) (lv_at hl 0 rfl) ?_
        refine lv_if_le (tgt := 60) hx hb (fh_d d_Mo_handDown 23 rfl) rfl (fun c80 => absurd c80 (nI_np hnt.1)) (fun c80 => ?_)
        refine lv_aload_n hx hb (fh_d d_Mo_handDown 24 rfl) rfl (lv_at hl 4 rfl) ?_
        refine lv_iload hx hb (fh_d d_Mo_handDown 25 rfl) (lv_at hl 0 rfl) ?_
        refine lv_iload_n hx hb (fh_d d_Mo_handDown 26 rfl) rfl (lv_at hl 1 rfl) ?_
        refine lv_iload_n hx hb (fh_d d_Mo_handDown 27 rfl) rfl (lv_at hl 2 rfl) ?_
        refine fh_callV (cc' := c_Mo_hand) (nL' := 4) (rest := []) (a := x) (As := [.int (nI i), .int 2, .int ((A 21) n0)]) X hR (m_Mo_hand l D ct b RO (r - 1) n x g A1 th co at_ wr no nu op pi wi he de i hnt.1.2 2 ((A 21) n0) hcv) w1128 w1125 w1127 v48 w9 ⟨by decide, by decide, by show _ = some 3; decide +kernel⟩ (by omega) (by decide) (fh_recv hK hP mkM_o rfl) hP hS hl.1 rfl (by exact Nat.le_of_ble_eq_true rfl) (fh_d d_Mo_handDown 28 rfl) ⟨Nat.le_refl _, Nat.le_refl _⟩ (fun v9 h9 n9 H locs hq hP hS => ?_)
        obtain ⟨rfl, u81, u82⟩ := hq
        rw [u81, u82] at hP
        refine W.eq (g2 := F0 m 48 ls []) rfl ?_
        refine lv_aload_n hx hb (fh_d d_Mo_handDown 29 rfl) rfl (lv_at hl 4 rfl) ?_
        refine fh_get (own := "FormulaSetterModel") (ref := "FormulaSetterModel") (C := "FormulaSetterModel") (T := T_Mo) (N := 53) (v := .ref (x + 8)) hx hb hT i_Mo hown hK hP mkM_o rfl 13 (by decide) (hT _ w873) (fun _ h9 => h9) rfl (fh_d d_Mo_handDown 30 rfl) ?_
        refine lv_iload hx hb (fh_d d_Mo_handDown 31 rfl) (lv_at hl 0 rfl) ?_
        refine fn_iald (f := (rf_hand A1 i 2 ((A 21) n0)) 7) (k := i) hx hb hK hP 0 mkM_a7 rfl (rfl) (hnt.1.2) (by decide) (fh_d d_Mo_handDown 32 rfl) ?_
        rw [show (rf_hand A1 i 2 ((A 21) n0)) 7 i = nI (hdz t) from (congrFun (rf_hand_k (by decide) (by decide)) i).trans ((congrFun h7 i).trans hnt.2.1)]
        refine lv_istore (lv' := [(5, .int (nI (hdz t))), (2, .int 2), (3, .int ((A 21) n0)), (4, .int ((A 1) n0)), (0, .ref x), (1, .int (nI n0))]) hx hb (fh_d d_Mo_handDown 33 rfl) hl (by decide) rfl (fun ls hl => ?_)
        refine lv_goto (tgt := 35) hx hb (fh_d d_Mo_handDown 34 rfl) rfl ?_
        exact ih _ hnt.2.2 ((rf_hand_k (by decide) (by decide)).trans h7) hfo H locs _ hP hS (lv_sub hl [0, 1, 2, 3, 4, 5] rfl)
    have loop2 : ∀ (t : List Nat) (A1 : Nat → Nat → Int32), nxA (A 7) t → A1 7 = A 7 → rf_hds 2 (A 21 n0) t A1 = rf_hd A n0 s0 u lo o1 t2 cs → ∀ (H : Heap) (locs : List Loc) (ls : Array Slot), fh_P D fh_cl b (mkM ct x g A1 th co at_ wr no nu op pi wi he de) n H → va_S (fh_A b) s.heap H locs → lv_has ls 6 [(5, .int (nI (hdz t))), (2, .int 2), (3, .int ((A 21) n0)), (4, .int ((A 1) n0)), (0, .ref x), (1, .int (nI n0))] → W p l e (fh_rm r 0 0) s m args below meth c H locs 0 0 (MQ below (fh_Post D fh_cl b (fun v h' n' => v = none ∧ h' = mkM ct x g (rf_hd A n0 s0 u lo o1 t2 cs) th co at_ wr no nu op pi wi he de ∧ n' = n)) args s 0 0 (fh_A b)) (F0 m 185 ls []) := by
      intro t
      induction t with
      | nil =>
        intro A1 hnt h7 hfo H locs ls hP hS hl
        have hl : lv_has ls 6 [(5, .int (nI 0)), (2, .int 2), (3, .int ((A 21) n0)), (4, .int ((A 1) n0)), (0, .ref x), (1, .int (nI n0))] := hl
        refine lv_iload hx hb (fh_d d_Mo_handDown 108 rfl) (lv_at hl 0 rfl) ?_
        refine lv_if_le (tgt := 218) hx hb (fh_d d_Mo_handDown 109 rfl) rfl (fun c83 => ?_) (fun c83 => absurd c83 (fun z => z (by decide)))
        refine lv_goto (tgt := 261) hx hb (fh_d d_Mo_handDown 125 rfl) rfl ?_
        exact fh_vret X hP hS (fh_d d_Mo_handDown 147 rfl) ⟨rfl, by rw [← hfo]; rfl, rfl⟩
      | cons i t ih =>
        intro A1 hnt h7 hfo H locs ls hP hS hl
        have hl : lv_has ls 6 [(5, .int (nI i)), (2, .int 2), (3, .int ((A 21) n0)), (4, .int ((A 1) n0)), (0, .ref x), (1, .int (nI n0))] := hl
        refine lv_iload hx hb (fh_d d_Mo_handDown 108 rfl) (lv_at hl 0 rfl) ?_
        refine lv_if_le (tgt := 218) hx hb (fh_d d_Mo_handDown 109 rfl) rfl (fun c84 => absurd c84 (nI_np hnt.1)) (fun c84 => ?_)
        refine lv_aload_n hx hb (fh_d d_Mo_handDown 110 rfl) rfl (lv_at hl 4 rfl) ?_
        refine lv_iload hx hb (fh_d d_Mo_handDown 111 rfl) (lv_at hl 0 rfl) ?_
        refine lv_iload_n hx hb (fh_d d_Mo_handDown 112 rfl) rfl (lv_at hl 1 rfl) ?_
        refine lv_if_ne (tgt := 201) hx hb (fh_d d_Mo_handDown 113 rfl) rfl (fun c85 => ?_) (fun c85 => absurd c85 (by decide))
        refine lv_iload_n hx hb (fh_d d_Mo_handDown 116 rfl) rfl (lv_at hl 1 rfl) ?_
        refine lv_iload_n hx hb (fh_d d_Mo_handDown 117 rfl) rfl (lv_at hl 2 rfl) ?_
        refine fh_callV (cc' := c_Mo_hand) (nL' := 4) (rest := []) (a := x) (As := [.int (nI i), .int 2, .int ((A 21) n0)]) X hR (m_Mo_hand l D ct b RO (r - 1) n x g A1 th co at_ wr no nu op pi wi he de i hnt.1.2 2 ((A 21) n0) hcv) w1128 w1125 w1127 v48 w9 ⟨by decide, by decide, by show _ = some 3; decide +kernel⟩ (by omega) (by decide) (fh_recv hK hP mkM_o rfl) hP hS hl.1 rfl (by exact Nat.le_of_ble_eq_true rfl) (fh_d d_Mo_handDown 118 rfl) ⟨Nat.le_refl _, Nat.le_refl _⟩ (fun v9 h9 n9 H locs hq hP hS => ?_)
        obtain ⟨rfl, u86, u87⟩ := hq
        rw [u86, u87] at hP
        refine W.eq (g2 := F0 m 206 ls []) rfl ?_
        refine lv_aload_n hx hb (fh_d d_Mo_handDown 119 rfl) rfl (lv_at hl 4 rfl) ?_
        refine fh_get (own := "FormulaSetterModel") (ref := "FormulaSetterModel") (C := "FormulaSetterModel") (T := T_Mo) (N := 53) (v := .ref (x + 8)) hx hb hT i_Mo hown hK hP mkM_o rfl 13 (by decide) (hT _ w873) (fun _ h9 => h9) rfl (fh_d d_Mo_handDown 120 rfl) ?_
        refine lv_iload hx hb (fh_d d_Mo_handDown 121 rfl) (lv_at hl 0 rfl) ?_
        refine fn_iald (f := (rf_hand A1 i 2 ((A 21) n0)) 7) (k := i) hx hb hK hP 0 mkM_a7 rfl (rfl) (hnt.1.2) (by decide) (fh_d d_Mo_handDown 122 rfl) ?_
        rw [show (rf_hand A1 i 2 ((A 21) n0)) 7 i = nI (hdz t) from (congrFun (rf_hand_k (by decide) (by decide)) i).trans ((congrFun h7 i).trans hnt.2.1)]
        refine lv_istore (lv' := [(5, .int (nI (hdz t))), (2, .int 2), (3, .int ((A 21) n0)), (4, .int ((A 1) n0)), (0, .ref x), (1, .int (nI n0))]) hx hb (fh_d d_Mo_handDown 123 rfl) hl (by decide) rfl (fun ls hl => ?_)
        refine lv_goto (tgt := 185) hx hb (fh_d d_Mo_handDown 124 rfl) rfl ?_
        exact ih _ hnt.2.2 ((rf_hand_k (by decide) (by decide)).trans h7) hfo H locs _ hP hS (lv_sub hl [0, 1, 2, 3, 4, 5] rfl)
    refine lv_aload_n hx hb (fh_d d_Mo_handDown 0 rfl) rfl (lv_at hl 0 rfl) ?_
    refine fh_get (own := "FormulaSetterModel") (ref := "FormulaSetterModel") (C := "FormulaSetterModel") (T := T_Mo) (N := 53) (v := .ref (x + 21)) hx hb hT i_Mo hown hK hP mkM_o rfl 27 (by decide) (hT _ w887) (fun _ h9 => h9) rfl (fh_d d_Mo_handDown 1 rfl) ?_
    refine lv_iload_n hx hb (fh_d d_Mo_handDown 2 rfl) rfl (lv_at hl 1 rfl) ?_
    refine fn_iald (f := A 20) (k := n0) hx hb hK hP 0 mkM_a20 rfl (rfl) (by omega) (by decide) (fh_d d_Mo_handDown 3 rfl) ?_
    rw [show ((A 20) n0) = 2 from h20]
    refine lv_istore_n (lv' := [(2, .int 2), (0, .ref x), (1, .int (nI n0))]) hx hb (fh_d d_Mo_handDown 4 rfl) rfl hl (by decide) rfl (fun ls hl => ?_)
    refine lv_aload_n hx hb (fh_d d_Mo_handDown 5 rfl) rfl (lv_at hl 1 rfl) ?_
    refine fh_get (own := "FormulaSetterModel") (ref := "FormulaSetterModel") (C := "FormulaSetterModel") (T := T_Mo) (N := 53) (v := .ref (x + 22)) hx hb hT i_Mo hown hK hP mkM_o rfl 28 (by decide) (hT _ w888) (fun _ h9 => h9) rfl (fh_d d_Mo_handDown 6 rfl) ?_
    refine lv_iload_n hx hb (fh_d d_Mo_handDown 7 rfl) rfl (lv_at hl 2 rfl) ?_
    refine fn_zald (f := A 21) (k := n0) hx hb hK hP 3 mkM_a21 rfl (rfl) (by omega) (by decide) (fh_d d_Mo_handDown 8 rfl) ?_
    refine lv_istore_n (lv' := [(3, .int ((A 21) n0)), (2, .int 2), (0, .ref x), (1, .int (nI n0))]) hx hb (fh_d d_Mo_handDown 9 rfl) rfl hl (by decide) rfl (fun ls hl => ?_)
    refine lv_aload_n hx hb (fh_d d_Mo_handDown 10 rfl) rfl (lv_at hl 2 rfl) ?_
    refine fh_get (own := "FormulaSetterModel") (ref := "FormulaSetterModel") (C := "FormulaSetterModel") (T := T_Mo) (N := 53) (v := .ref (x + 2)) hx hb hT i_Mo hown hK hP mkM_o rfl 7 (by decide) (hT _ w867) (fun _ h9 => h9) rfl (fh_d d_Mo_handDown 11 rfl) ?_
    refine lv_iload_n hx hb (fh_d d_Mo_handDown 12 rfl) rfl (lv_at hl 3 rfl) ?_
    refine fn_iald (f := A 1) (k := n0) hx hb hK hP 0 mkM_a1 rfl (rfl) (by omega) (by decide) (fh_d d_Mo_handDown 13 rfl) ?_
    refine lv_istore (lv' := [(4, .int ((A 1) n0)), (3, .int ((A 21) n0)), (2, .int 2), (0, .ref x), (1, .int (nI n0))]) hx hb (fh_d d_Mo_handDown 14 rfl) hl (by decide) rfl (fun ls hl => ?_)
    refine lv_iload hx hb (fh_d d_Mo_handDown 15 rfl) (lv_at hl 0 rfl) ?_
    refine lv_if_ne (tgt := 61) hx hb (fh_d d_Mo_handDown 16 rfl) rfl (fun c88 => ?_) (fun c88 => ?_)
    · refine lv_aload_n hx hb (fh_d d_Mo_handDown 36 rfl) rfl (lv_at hl 3 rfl) ?_
      refine lv_aload_n hx hb (fh_d d_Mo_handDown 37 rfl) rfl (lv_at hl 3 rfl) ?_
      refine fh_get (own := "FormulaSetterModel") (ref := "FormulaSetterModel") (C := "FormulaSetterModel") (T := T_Mo) (N := 53) (v := .ref (x + 13)) hx hb hT i_Mo hown hK hP mkM_o rfl 18 (by decide) (hT _ w878) (fun _ h9 => h9) rfl (fh_d d_Mo_handDown 38 rfl) ?_
      refine lv_iload_n hx hb (fh_d d_Mo_handDown 39 rfl) rfl (lv_at hl 4 rfl) ?_
      refine fn_iald (f := A 12) (k := n0) hx hb hK hP 0 mkM_a12 rfl (rfl) (by omega) (by decide) (fh_d d_Mo_handDown 40 rfl) ?_
      rw [show ((A 12) n0) = nI u from hu.2]
      refine lv_iload_n hx hb (fh_d d_Mo_handDown 41 rfl) rfl (lv_at hl 2 rfl) ?_
      refine lv_iconst (v := 2) hx hb (fh_d d_Mo_handDown 42 rfl) (by decide) ?_
      refine lv_icmp_ge (tgt := 77) hx hb (fh_d d_Mo_handDown 43 rfl) rfl (fun c89 => ?_) (fun c89 => absurd c89 (Classical.not_not.mpr (by decide)))
      refine lv_iconst (v := 3) hx hb (fh_d d_Mo_handDown 46 rfl) (by decide) ?_
      refine lv_iload_n hx hb (fh_d d_Mo_handDown 47 rfl) rfl (lv_at hl 1 rfl) ?_
      refine fh_callV (cc' := c_Mo_hand) (nL' := 4) (rest := []) (a := x) (As := [.int (nI u), .int 3, .int ((A 21) n0)]) X hR (m_Mo_hand l D ct b RO (r - 1) n x g A th co at_ wr no nu op pi wi he de u hu.1 3 ((A 21) n0) hcv) w1128 w1125 w1127 v48 w9 ⟨by decide, by decide, by show _ = some 3; decide +kernel⟩ (by omega) (by decide) (fh_recv hK hP mkM_o rfl) hP hS hl.1 rfl (by exact Nat.le_of_ble_eq_true rfl) (fh_d d_Mo_handDown 48 rfl) ⟨Nat.le_refl _, Nat.le_refl _⟩ (fun v9 h9 n9 H locs hq hP hS => ?_)
      obtain ⟨rfl, u90, u91⟩ := hq
      rw [u90, u91] at hP
      refine W.eq (g2 := F0 m 82 ls []) rfl ?_
      refine lv_aload_n hx hb (fh_d d_Mo_handDown 49 rfl) rfl (lv_at hl 3 rfl) ?_
      refine lv_aload_n hx hb (fh_d d_Mo_handDown 50 rfl) rfl (lv_at hl 3 rfl) ?_
      refine fh_get (own := "FormulaSetterModel") (ref := "FormulaSetterModel") (C := "FormulaSetterModel") (T := T_Mo) (N := 53) (v := .ref (x + 14)) hx hb hT i_Mo hown hK hP mkM_o rfl 19 (by decide) (hT _ w879) (fun _ h9 => h9) rfl (fh_d d_Mo_handDown 51 rfl) ?_
      refine lv_iload_n hx hb (fh_d d_Mo_handDown 52 rfl) rfl (lv_at hl 4 rfl) ?_
      refine fn_iald (f := (rf_hand A u 3 ((A 21) n0)) 13) (k := n0) hx hb hK hP 0 mkM_a13 rfl (rfl) (by omega) (by decide) (fh_d d_Mo_handDown 53 rfl) ?_
      rw [show (rf_hand A u 3 ((A 21) n0)) 13 n0 = nI lo from (congrFun (rf_hand_k (by decide) (by decide)) n0).trans (hlo.2)]
      refine lv_iload_n hx hb (fh_d d_Mo_handDown 54 rfl) rfl (lv_at hl 2 rfl) ?_
      refine lv_iconst (v := 2) hx hb (fh_d d_Mo_handDown 55 rfl) (by decide) ?_
      refine lv_icmp_ge (tgt := 98) hx hb (fh_d d_Mo_handDown 56 rfl) rfl (fun c92 => ?_) (fun c92 => absurd c92 (Classical.not_not.mpr (by decide)))
      refine lv_iconst (v := 3) hx hb (fh_d d_Mo_handDown 59 rfl) (by decide) ?_
      refine lv_iconst (v := 1) hx hb (fh_d d_Mo_handDown 60 rfl) (by decide) ?_
      refine fh_callV (cc' := c_Mo_hand) (nL' := 4) (rest := []) (a := x) (As := [.int (nI lo), .int 3, .int 1]) X hR (m_Mo_hand l D ct b RO (r - 1) n x g (rf_hand A u 3 ((A 21) n0)) th co at_ wr no nu op pi wi he de lo hlo.1 3 1 (by decide)) w1128 w1125 w1127 v48 w9 ⟨by decide, by decide, by show _ = some 3; decide +kernel⟩ (by omega) (by decide) (fh_recv hK hP mkM_o rfl) hP hS hl.1 rfl (by exact Nat.le_of_ble_eq_true rfl) (fh_d d_Mo_handDown 61 rfl) ⟨Nat.le_refl _, Nat.le_refl _⟩ (fun v9 h9 n9 H locs hq hP hS => ?_)
      obtain ⟨rfl, u93, u94⟩ := hq
      rw [u93, u94] at hP
      refine W.eq (g2 := F0 m 103 ls []) rfl ?_
      refine lv_iload hx hb (fh_d d_Mo_handDown 62 rfl) (lv_at hl 0 rfl) ?_
      refine lv_iconst (v := 4) hx hb (fh_d d_Mo_handDown 63 rfl) (by decide) ?_
      refine lv_icmp_ne (tgt := 170) hx hb (fh_d d_Mo_handDown 64 rfl) rfl (fun c95 => ?_) (fun c95 => ?_)
      · refine lv_iload hx hb (fh_d d_Mo_handDown 100 rfl) (lv_at hl 0 rfl) ?_
        refine lv_bipush (v := 9) hx hb (fh_d d_Mo_handDown 101 rfl) (by decide) ?_
        refine lv_icmp_ne (tgt := 221) hx hb (fh_d d_Mo_handDown 102 rfl) rfl (fun c96 => ?_) (fun c96 => ?_)
        · refine lv_aload_n hx hb (fh_d d_Mo_handDown 126 rfl) rfl (lv_at hl 3 rfl) ?_
          refine lv_aload_n hx hb (fh_d d_Mo_handDown 127 rfl) rfl (lv_at hl 3 rfl) ?_
          refine fh_get (own := "FormulaSetterModel") (ref := "FormulaSetterModel") (C := "FormulaSetterModel") (T := T_Mo) (N := 53) (v := .ref (x + 11)) hx hb hT i_Mo hown hK hP mkM_o rfl 16 (by decide) (hT _ w876) (fun _ h9 => h9) rfl (fh_d d_Mo_handDown 128 rfl) ?_
          refine lv_iload_n hx hb (fh_d d_Mo_handDown 129 rfl) rfl (lv_at hl 4 rfl) ?_
          refine fn_iald (f := (rf_hand (rf_hand A u 3 ((A 21) n0)) lo 3 1) 10) (k := n0) hx hb hK hP 0 mkM_a10 rfl (rfl) (by omega) (by decide) (fh_d d_Mo_handDown 130 rfl) ?_
          rw [show (rf_hand (rf_hand A u 3 ((A 21) n0)) lo 3 1) 10 n0 = nI o1 from (congrFun ((rf_hand_k (by decide) (by decide)).trans (rf_hand_k (by decide) (by decide))) n0).trans (ho1.2)]
          refine lv_iload_n hx hb (fh_d d_Mo_handDown 131 rfl) rfl (lv_at hl 2 rfl) ?_
          refine lv_iload_n hx hb (fh_d d_Mo_handDown 132 rfl) rfl (lv_at hl 1 rfl) ?_
          refine lv_if_ne (tgt := 253) hx hb (fh_d d_Mo_handDown 133 rfl) rfl (fun c97 => ?_) (fun c97 => ?_)
          · refine lv_iconst (v := 1) hx hb (fh_d d_Mo_handDown 143 rfl) (by decide) ?_
            refine lv_goto (tgt := 258) hx hb (fh_d d_Mo_handDown 144 rfl) rfl ?_
            refine fh_callV (cc' := c_Mo_hand) (nL' := 4) (rest := []) (a := x) (As := [.int (nI o1), .int 2, .int 1]) X hR (m_Mo_hand l D ct b RO (r - 1) n x g (rf_hand (rf_hand A u 3 ((A 21) n0)) lo 3 1) th co at_ wr no nu op pi wi he de o1 ho1.1 2 1 (by decide)) w1128 w1125 w1127 v48 w9 ⟨by decide, by decide, by show _ = some 3; decide +kernel⟩ (by omega) (by decide) (fh_recv hK hP mkM_o rfl) hP hS hl.1 rfl (by exact Nat.le_of_ble_eq_true rfl) (fh_d d_Mo_handDown 146 rfl) ⟨Nat.le_refl _, Nat.le_refl _⟩ (fun v9 h9 n9 H locs hq hP hS => ?_)
            obtain ⟨rfl, u98, u99⟩ := hq
            rw [u98, u99] at hP
            refine W.eq (g2 := F0 m 261 ls []) rfl ?_
            exact fh_vret X hP hS (fh_d d_Mo_handDown 147 rfl) ⟨rfl, by subst hsv; unfold rf_hd; dsimp only; rw [if_neg c88, if_neg c95, if_neg c96, if_pos (Or.inl c97)]; rfl, rfl⟩
          · refine lv_iload hx hb (fh_d d_Mo_handDown 134 rfl) (lv_at hl 0 rfl) ?_
            refine lv_iconst (v := 5) hx hb (fh_d d_Mo_handDown 135 rfl) (by decide) ?_
            refine lv_icmp_eq (tgt := 253) hx hb (fh_d d_Mo_handDown 136 rfl) rfl (fun c100 => ?_) (fun c100 => ?_)
            · refine lv_iconst (v := 1) hx hb (fh_d d_Mo_handDown 143 rfl) (by decide) ?_
              refine lv_goto (tgt := 258) hx hb (fh_d d_Mo_handDown 144 rfl) rfl ?_
              refine fh_callV (cc' := c_Mo_hand) (nL' := 4) (rest := []) (a := x) (As := [.int (nI o1), .int 2, .int 1]) X hR (m_Mo_hand l D ct b RO (r - 1) n x g (rf_hand (rf_hand A u 3 ((A 21) n0)) lo 3 1) th co at_ wr no nu op pi wi he de o1 ho1.1 2 1 (by decide)) w1128 w1125 w1127 v48 w9 ⟨by decide, by decide, by show _ = some 3; decide +kernel⟩ (by omega) (by decide) (fh_recv hK hP mkM_o rfl) hP hS hl.1 rfl (by exact Nat.le_of_ble_eq_true rfl) (fh_d d_Mo_handDown 146 rfl) ⟨Nat.le_refl _, Nat.le_refl _⟩ (fun v9 h9 n9 H locs hq hP hS => ?_)
              obtain ⟨rfl, u101, u102⟩ := hq
              rw [u101, u102] at hP
              refine W.eq (g2 := F0 m 261 ls []) rfl ?_
              exact fh_vret X hP hS (fh_d d_Mo_handDown 147 rfl) ⟨rfl, by subst hsv; unfold rf_hd; dsimp only; rw [if_neg c88, if_neg c95, if_neg c96, if_pos (Or.inr (Or.inl c100))]; rfl, rfl⟩
            · refine lv_iload hx hb (fh_d d_Mo_handDown 137 rfl) (lv_at hl 0 rfl) ?_
              refine lv_bipush (v := 6) hx hb (fh_d d_Mo_handDown 138 rfl) (by decide) ?_
              refine lv_icmp_eq (tgt := 253) hx hb (fh_d d_Mo_handDown 139 rfl) rfl (fun c103 => ?_) (fun c103 => ?_)
              · refine lv_iconst (v := 1) hx hb (fh_d d_Mo_handDown 143 rfl) (by decide) ?_
                refine lv_goto (tgt := 258) hx hb (fh_d d_Mo_handDown 144 rfl) rfl ?_
                refine fh_callV (cc' := c_Mo_hand) (nL' := 4) (rest := []) (a := x) (As := [.int (nI o1), .int 2, .int 1]) X hR (m_Mo_hand l D ct b RO (r - 1) n x g (rf_hand (rf_hand A u 3 ((A 21) n0)) lo 3 1) th co at_ wr no nu op pi wi he de o1 ho1.1 2 1 (by decide)) w1128 w1125 w1127 v48 w9 ⟨by decide, by decide, by show _ = some 3; decide +kernel⟩ (by omega) (by decide) (fh_recv hK hP mkM_o rfl) hP hS hl.1 rfl (by exact Nat.le_of_ble_eq_true rfl) (fh_d d_Mo_handDown 146 rfl) ⟨Nat.le_refl _, Nat.le_refl _⟩ (fun v9 h9 n9 H locs hq hP hS => ?_)
                obtain ⟨rfl, u104, u105⟩ := hq
                rw [u104, u105] at hP
                refine W.eq (g2 := F0 m 261 ls []) rfl ?_
                exact fh_vret X hP hS (fh_d d_Mo_handDown 147 rfl) ⟨rfl, by subst hsv; unfold rf_hd; dsimp only; rw [if_neg c88, if_neg c95, if_neg c96, if_pos (Or.inr (Or.inr (Or.inl c103)))]; rfl, rfl⟩
              · refine lv_iload hx hb (fh_d d_Mo_handDown 140 rfl) (lv_at hl 0 rfl) ?_
                refine lv_bipush (v := 7) hx hb (fh_d d_Mo_handDown 141 rfl) (by decide) ?_
                refine lv_icmp_ne (tgt := 257) hx hb (fh_d d_Mo_handDown 142 rfl) rfl (fun c106 => ?_) (fun c106 => ?_)
                · refine lv_iconst (v := 0) hx hb (fh_d d_Mo_handDown 145 rfl) (by decide) ?_
                  refine fh_callV (cc' := c_Mo_hand) (nL' := 4) (rest := []) (a := x) (As := [.int (nI o1), .int 2, .int 0]) X hR (m_Mo_hand l D ct b RO (r - 1) n x g (rf_hand (rf_hand A u 3 ((A 21) n0)) lo 3 1) th co at_ wr no nu op pi wi he de o1 ho1.1 2 0 (by decide)) w1128 w1125 w1127 v48 w9 ⟨by decide, by decide, by show _ = some 3; decide +kernel⟩ (by omega) (by decide) (fh_recv hK hP mkM_o rfl) hP hS hl.1 rfl (by exact Nat.le_of_ble_eq_true rfl) (fh_d d_Mo_handDown 146 rfl) ⟨Nat.le_refl _, Nat.le_refl _⟩ (fun v9 h9 n9 H locs hq hP hS => ?_)
                  obtain ⟨rfl, u107, u108⟩ := hq
                  rw [u107, u108] at hP
                  refine W.eq (g2 := F0 m 261 ls []) rfl ?_
                  exact fh_vret X hP hS (fh_d d_Mo_handDown 147 rfl) ⟨rfl, by subst hsv; unfold rf_hd; dsimp only; rw [if_neg c88, if_neg c95, if_neg c96, if_neg (fun z => z.elim (fun y => y c97) (fun z => z.elim c100 (fun z => z.elim c103 c106)))]; rfl, rfl⟩
                · refine lv_iconst (v := 1) hx hb (fh_d d_Mo_handDown 143 rfl) (by decide) ?_
                  refine lv_goto (tgt := 258) hx hb (fh_d d_Mo_handDown 144 rfl) rfl ?_
                  refine fh_callV (cc' := c_Mo_hand) (nL' := 4) (rest := []) (a := x) (As := [.int (nI o1), .int 2, .int 1]) X hR (m_Mo_hand l D ct b RO (r - 1) n x g (rf_hand (rf_hand A u 3 ((A 21) n0)) lo 3 1) th co at_ wr no nu op pi wi he de o1 ho1.1 2 1 (by decide)) w1128 w1125 w1127 v48 w9 ⟨by decide, by decide, by show _ = some 3; decide +kernel⟩ (by omega) (by decide) (fh_recv hK hP mkM_o rfl) hP hS hl.1 rfl (by exact Nat.le_of_ble_eq_true rfl) (fh_d d_Mo_handDown 146 rfl) ⟨Nat.le_refl _, Nat.le_refl _⟩ (fun v9 h9 n9 H locs hq hP hS => ?_)
                  obtain ⟨rfl, u109, u110⟩ := hq
                  rw [u109, u110] at hP
                  refine W.eq (g2 := F0 m 261 ls []) rfl ?_
                  exact fh_vret X hP hS (fh_d d_Mo_handDown 147 rfl) ⟨rfl, by subst hsv; unfold rf_hd; dsimp only; rw [if_neg c88, if_neg c95, if_neg c96, if_pos (Or.inr (Or.inr (Or.inr c106)))]; rfl, rfl⟩
        · refine lv_aload_n hx hb (fh_d d_Mo_handDown 103 rfl) rfl (lv_at hl 3 rfl) ?_
          refine fh_get (own := "FormulaSetterModel") (ref := "FormulaSetterModel") (C := "FormulaSetterModel") (T := T_Mo) (N := 53) (v := .ref (x + 7)) hx hb hT i_Mo hown hK hP mkM_o rfl 12 (by decide) (hT _ w872) (fun _ h9 => h9) rfl (fh_d d_Mo_handDown 104 rfl) ?_
          refine lv_iload_n hx hb (fh_d d_Mo_handDown 105 rfl) rfl (lv_at hl 4 rfl) ?_
          refine fn_iald (f := (rf_hand (rf_hand A u 3 ((A 21) n0)) lo 3 1) 6) (k := n0) hx hb hK hP 0 mkM_a6 rfl (rfl) (by omega) (by decide) (fh_d d_Mo_handDown 106 rfl) ?_
          rw [show (rf_hand (rf_hand A u 3 ((A 21) n0)) lo 3 1) 6 n0 = nI (hdz cs) from (congrFun ((rf_hand_k (by decide) (by decide)).trans (rf_hand_k (by decide) (by decide))) n0).trans (h6)]
          refine lv_istore (lv' := [(5, .int (nI (hdz cs))), (4, .int ((A 1) n0)), (3, .int ((A 21) n0)), (2, .int 2), (0, .ref x), (1, .int (nI n0))]) hx hb (fh_d d_Mo_handDown 107 rfl) hl (by decide) rfl (fun ls hl => ?_)
          exact loop2 cs _ hnx ((rf_hand_k (by decide) (by decide)).trans (rf_hand_k (by decide) (by decide))) (by subst hsv; unfold rf_hd; dsimp only; rw [if_neg c88, if_neg c95, if_pos c96]; rfl) H _ _ hP hS (lv_sub hl [0, 3, 2, 1, 4, 5] rfl)
      · refine lv_aload_n hx hb (fh_d d_Mo_handDown 65 rfl) rfl (lv_at hl 3 rfl) ?_
        refine lv_aload_n hx hb (fh_d d_Mo_handDown 66 rfl) rfl (lv_at hl 3 rfl) ?_
        refine fh_get (own := "FormulaSetterModel") (ref := "FormulaSetterModel") (C := "FormulaSetterModel") (T := T_Mo) (N := 53) (v := .ref (x + 11)) hx hb hT i_Mo hown hK hP mkM_o rfl 16 (by decide) (hT _ w876) (fun _ h9 => h9) rfl (fh_d d_Mo_handDown 67 rfl) ?_
        refine lv_iload_n hx hb (fh_d d_Mo_handDown 68 rfl) rfl (lv_at hl 4 rfl) ?_
        refine fn_iald (f := (rf_hand (rf_hand A u 3 ((A 21) n0)) lo 3 1) 10) (k := n0) hx hb hK hP 0 mkM_a10 rfl (rfl) (by omega) (by decide) (fh_d d_Mo_handDown 69 rfl) ?_
        rw [show (rf_hand (rf_hand A u 3 ((A 21) n0)) lo 3 1) 10 n0 = nI o1 from (congrFun ((rf_hand_k (by decide) (by decide)).trans (rf_hand_k (by decide) (by decide))) n0).trans (ho1.2)]
        refine lv_iload_n hx hb (fh_d d_Mo_handDown 70 rfl) rfl (lv_at hl 2 rfl) ?_
        refine lv_if_ne (tgt := 124) hx hb (fh_d d_Mo_handDown 71 rfl) rfl (fun c111 => ?_) (fun c111 => absurd c111 (by decide))
        refine lv_iload_n hx hb (fh_d d_Mo_handDown 74 rfl) rfl (lv_at hl 2 rfl) ?_
        refine lv_iconst (v := 1) hx hb (fh_d d_Mo_handDown 75 rfl) (by decide) ?_
        refine lv_icmp_ne (tgt := 133) hx hb (fh_d d_Mo_handDown 76 rfl) rfl (fun c112 => ?_) (fun c112 => absurd c112 (by decide))
        refine lv_iconst (v := 3) hx hb (fh_d d_Mo_handDown 79 rfl) (by decide) ?_
        refine lv_iload_n hx hb (fh_d d_Mo_handDown 80 rfl) rfl (lv_at hl 1 rfl) ?_
        refine fh_callV (cc' := c_Mo_hand) (nL' := 4) (rest := []) (a := x) (As := [.int (nI o1), .int 3, .int ((A 21) n0)]) X hR (m_Mo_hand l D ct b RO (r - 1) n x g (rf_hand (rf_hand A u 3 ((A 21) n0)) lo 3 1) th co at_ wr no nu op pi wi he de o1 ho1.1 3 ((A 21) n0) hcv) w1128 w1125 w1127 v48 w9 ⟨by decide, by decide, by show _ = some 3; decide +kernel⟩ (by omega) (by decide) (fh_recv hK hP mkM_o rfl) hP hS hl.1 rfl (by exact Nat.le_of_ble_eq_true rfl) (fh_d d_Mo_handDown 81 rfl) ⟨Nat.le_refl _, Nat.le_refl _⟩ (fun v9 h9 n9 H locs hq hP hS => ?_)
        obtain ⟨rfl, u113, u114⟩ := hq
        rw [u113, u114] at hP
        refine W.eq (g2 := F0 m 138 ls []) rfl ?_
        refine lv_aload_n hx hb (fh_d d_Mo_handDown 82 rfl) rfl (lv_at hl 3 rfl) ?_
        refine lv_aload_n hx hb (fh_d d_Mo_handDown 83 rfl) rfl (lv_at hl 3 rfl) ?_
        refine fh_get (own := "FormulaSetterModel") (ref := "FormulaSetterModel") (C := "FormulaSetterModel") (T := T_Mo) (N := 53) (v := .ref (x + 12)) hx hb hT i_Mo hown hK hP mkM_o rfl 17 (by decide) (hT _ w877) (fun _ h9 => h9) rfl (fh_d d_Mo_handDown 84 rfl) ?_
        refine lv_iload_n hx hb (fh_d d_Mo_handDown 85 rfl) rfl (lv_at hl 4 rfl) ?_
        refine fn_iald (f := (rf_hand (rf_hand (rf_hand A u 3 ((A 21) n0)) lo 3 1) o1 3 ((A 21) n0)) 11) (k := n0) hx hb hK hP 0 mkM_a11 rfl (rfl) (by omega) (by decide) (fh_d d_Mo_handDown 86 rfl) ?_
        rw [show (rf_hand (rf_hand (rf_hand A u 3 ((A 21) n0)) lo 3 1) o1 3 ((A 21) n0)) 11 n0 = nI t2 from (congrFun (((rf_hand_k (by decide) (by decide)).trans (rf_hand_k (by decide) (by decide))).trans (rf_hand_k (by decide) (by decide))) n0).trans (ht2.2)]
        refine lv_iload_n hx hb (fh_d d_Mo_handDown 87 rfl) rfl (lv_at hl 2 rfl) ?_
        refine lv_if_ne (tgt := 153) hx hb (fh_d d_Mo_handDown 88 rfl) rfl (fun c115 => ?_) (fun c115 => absurd c115 (by decide))
        refine lv_iload_n hx hb (fh_d d_Mo_handDown 91 rfl) rfl (lv_at hl 2 rfl) ?_
        refine lv_iconst (v := 1) hx hb (fh_d d_Mo_handDown 92 rfl) (by decide) ?_
        refine lv_icmp_ne (tgt := 162) hx hb (fh_d d_Mo_handDown 93 rfl) rfl (fun c116 => ?_) (fun c116 => absurd c116 (by decide))
        refine lv_iconst (v := 3) hx hb (fh_d d_Mo_handDown 96 rfl) (by decide) ?_
        refine lv_iconst (v := 1) hx hb (fh_d d_Mo_handDown 97 rfl) (by decide) ?_
        refine fh_callV (cc' := c_Mo_hand) (nL' := 4) (rest := []) (a := x) (As := [.int (nI t2), .int 3, .int 1]) X hR (m_Mo_hand l D ct b RO (r - 1) n x g (rf_hand (rf_hand (rf_hand A u 3 ((A 21) n0)) lo 3 1) o1 3 ((A 21) n0)) th co at_ wr no nu op pi wi he de t2 ht2.1 3 1 (by decide)) w1128 w1125 w1127 v48 w9 ⟨by decide, by decide, by show _ = some 3; decide +kernel⟩ (by omega) (by decide) (fh_recv hK hP mkM_o rfl) hP hS hl.1 rfl (by exact Nat.le_of_ble_eq_true rfl) (fh_d d_Mo_handDown 98 rfl) ⟨Nat.le_refl _, Nat.le_refl _⟩ (fun v9 h9 n9 H locs hq hP hS => ?_)
        obtain ⟨rfl, u117, u118⟩ := hq
        rw [u117, u118] at hP
        refine W.eq (g2 := F0 m 167 ls []) rfl ?_
        refine lv_goto (tgt := 261) hx hb (fh_d d_Mo_handDown 99 rfl) rfl ?_
        exact fh_vret X hP hS (fh_d d_Mo_handDown 147 rfl) ⟨rfl, by subst hsv; unfold rf_hd; dsimp only; rw [if_neg c88, if_pos c95]; rfl, rfl⟩
    · refine lv_aload_n hx hb (fh_d d_Mo_handDown 17 rfl) rfl (lv_at hl 3 rfl) ?_
      refine fh_get (own := "FormulaSetterModel") (ref := "FormulaSetterModel") (C := "FormulaSetterModel") (T := T_Mo) (N := 53) (v := .ref (x + 7)) hx hb hT i_Mo hown hK hP mkM_o rfl 12 (by decide) (hT _ w872) (fun _ h9 => h9) rfl (fh_d d_Mo_handDown 18 rfl) ?_
      refine lv_iload_n hx hb (fh_d d_Mo_handDown 19 rfl) rfl (lv_at hl 4 rfl) ?_
      refine fn_iald (f := A 6) (k := n0) hx hb hK hP 0 mkM_a6 rfl (rfl) (by omega) (by decide) (fh_d d_Mo_handDown 20 rfl) ?_
      rw [show ((A 6) n0) = nI (hdz cs) from h6]
      refine lv_istore (lv' := [(5, .int (nI (hdz cs))), (4, .int ((A 1) n0)), (3, .int ((A 21) n0)), (2, .int 2), (0, .ref x), (1, .int (nI n0))]) hx hb (fh_d d_Mo_handDown 21 rfl) hl (by decide) rfl (fun ls hl => ?_)
      exact loop1 cs A hnx rfl (by subst hsv; unfold rf_hd; rw [if_pos c88]; rfl) H _ _ hP hS (lv_sub hl [0, 3, 2, 1, 4, 5] rfl)
  · have h20 : A 20 n0 = nI 3 := by rw [h20, hsv]
    have loop1 : ∀ (t : List Nat) (A1 : Nat → Nat → Int32), nxA (A 7) t → A1 7 = A 7 → rf_hds 3 (A 21 n0) t A1 = rf_hd A n0 s0 u lo o1 t2 cs → ∀ (H : Heap) (locs : List Loc) (ls : Array Slot), fh_P D fh_cl b (mkM ct x g A1 th co at_ wr no nu op pi wi he de) n H → va_S (fh_A b) s.heap H locs → lv_has ls 6 [(5, .int (nI (hdz t))), (2, .int 3), (3, .int ((A 21) n0)), (4, .int ((A 1) n0)), (0, .ref x), (1, .int (nI n0))] → W p l e (fh_rm r 0 0) s m args below meth c H locs 0 0 (MQ below (fh_Post D fh_cl b (fun v h' n' => v = none ∧ h' = mkM ct x g (rf_hd A n0 s0 u lo o1 t2 cs) th co at_ wr no nu op pi wi he de ∧ n' = n)) args s 0 0 (fh_A b)) (F0 m 35 ls []) := by
      intro t
      induction t with
      | nil =>
        intro A1 hnt h7 hfo H locs ls hP hS hl
        have hl : lv_has ls 6 [(5, .int (nI 0)), (2, .int 3), (3, .int ((A 21) n0)), (4, .int ((A 1) n0)), (0, .ref x), (1, .int (nI n0))] := hl
        refine lv_iload hx hb (fh_d d_Mo_handDown 22 rfl) (lv_at hl 0 rfl) ?_
        refine lv_if_le (tgt := 60) hx hb (fh_d d_Mo_handDown 23 rfl) rfl (fun c119 => ?_) (fun c119 => absurd c119 (fun z => z (by decide)))
        exact fh_vret X hP hS (fh_d d_Mo_handDown 35 rfl) ⟨rfl, by rw [← hfo]; rfl, rfl⟩
      | cons i t ih =>
        intro A1 hnt h7 hfo H locs ls hP hS hl
        have hl : lv_has ls 6 [(5, .int (nI i)), (2, .int 3), (3, .int ((A 21) n0)), (4, .int ((A 1) n0)), (0, .ref x), (1, .int (nI n0))] := hl
        refine lv_iload hx hb (fh_d d_Mo_handDown 22 rfl) (lv_at hl 0 rfl) ?_
        refine lv_if_le (tgt := 60) hx hb (fh_d d_Mo_handDown 23 rfl) rfl (fun c120 => absurd c120 (nI_np hnt.1)) (fun c120 => ?_)
        refine lv_aload_n hx hb (fh_d d_Mo_handDown 24 rfl) rfl (lv_at hl 4 rfl) ?_
        refine lv_iload hx hb (fh_d d_Mo_handDown 25 rfl) (lv_at hl 0 rfl) ?_
        refine lv_iload_n hx hb (fh_d d_Mo_handDown 26 rfl) rfl (lv_at hl 1 rfl) ?_
        refine lv_iload_n hx hb (fh_d d_Mo_handDown 27 rfl) rfl (lv_at hl 2 rfl) ?_
        refine fh_callV (cc' := c_Mo_hand) (nL' := 4) (rest := []) (a := x) (As := [.int (nI i), .int 3, .int ((A 21) n0)]) X hR (m_Mo_hand l D ct b RO (r - 1) n x g A1 th co at_ wr no nu op pi wi he de i hnt.1.2 3 ((A 21) n0) hcv) w1128 w1125 w1127 v48 w9 ⟨by decide, by decide, by show _ = some 3; decide +kernel⟩ (by omega) (by decide) (fh_recv hK hP mkM_o rfl) hP hS hl.1 rfl (by exact Nat.le_of_ble_eq_true rfl) (fh_d d_Mo_handDown 28 rfl) ⟨Nat.le_refl _, Nat.le_refl _⟩ (fun v9 h9 n9 H locs hq hP hS => ?_)
        obtain ⟨rfl, u121, u122⟩ := hq
        rw [u121, u122] at hP
        refine W.eq (g2 := F0 m 48 ls []) rfl ?_
        refine lv_aload_n hx hb (fh_d d_Mo_handDown 29 rfl) rfl (lv_at hl 4 rfl) ?_
        refine fh_get (own := "FormulaSetterModel") (ref := "FormulaSetterModel") (C := "FormulaSetterModel") (T := T_Mo) (N := 53) (v := .ref (x + 8)) hx hb hT i_Mo hown hK hP mkM_o rfl 13 (by decide) (hT _ w873) (fun _ h9 => h9) rfl (fh_d d_Mo_handDown 30 rfl) ?_
        refine lv_iload hx hb (fh_d d_Mo_handDown 31 rfl) (lv_at hl 0 rfl) ?_
        refine fn_iald (f := (rf_hand A1 i 3 ((A 21) n0)) 7) (k := i) hx hb hK hP 0 mkM_a7 rfl (rfl) (hnt.1.2) (by decide) (fh_d d_Mo_handDown 32 rfl) ?_
        rw [show (rf_hand A1 i 3 ((A 21) n0)) 7 i = nI (hdz t) from (congrFun (rf_hand_k (by decide) (by decide)) i).trans ((congrFun h7 i).trans hnt.2.1)]
        refine lv_istore (lv' := [(5, .int (nI (hdz t))), (2, .int 3), (3, .int ((A 21) n0)), (4, .int ((A 1) n0)), (0, .ref x), (1, .int (nI n0))]) hx hb (fh_d d_Mo_handDown 33 rfl) hl (by decide) rfl (fun ls hl => ?_)
        refine lv_goto (tgt := 35) hx hb (fh_d d_Mo_handDown 34 rfl) rfl ?_
        exact ih _ hnt.2.2 ((rf_hand_k (by decide) (by decide)).trans h7) hfo H locs _ hP hS (lv_sub hl [0, 1, 2, 3, 4, 5] rfl)
    have loop2 : ∀ (t : List Nat) (A1 : Nat → Nat → Int32), nxA (A 7) t → A1 7 = A 7 → rf_hds 3 (A 21 n0) t A1 = rf_hd A n0 s0 u lo o1 t2 cs → ∀ (H : Heap) (locs : List Loc) (ls : Array Slot), fh_P D fh_cl b (mkM ct x g A1 th co at_ wr no nu op pi wi he de) n H → va_S (fh_A b) s.heap H locs → lv_has ls 6 [(5, .int (nI (hdz t))), (2, .int 3), (3, .int ((A 21) n0)), (4, .int ((A 1) n0)), (0, .ref x), (1, .int (nI n0))] → W p l e (fh_rm r 0 0) s m args below meth c H locs 0 0 (MQ below (fh_Post D fh_cl b (fun v h' n' => v = none ∧ h' = mkM ct x g (rf_hd A n0 s0 u lo o1 t2 cs) th co at_ wr no nu op pi wi he de ∧ n' = n)) args s 0 0 (fh_A b)) (F0 m 185 ls []) := by
      intro t
      induction t with
      | nil =>
        intro A1 hnt h7 hfo H locs ls hP hS hl
        have hl : lv_has ls 6 [(5, .int (nI 0)), (2, .int 3), (3, .int ((A 21) n0)), (4, .int ((A 1) n0)), (0, .ref x), (1, .int (nI n0))] := hl
        refine lv_iload hx hb (fh_d d_Mo_handDown 108 rfl) (lv_at hl 0 rfl) ?_
        refine lv_if_le (tgt := 218) hx hb (fh_d d_Mo_handDown 109 rfl) rfl (fun c123 => ?_) (fun c123 => absurd c123 (fun z => z (by decide)))
        refine lv_goto (tgt := 261) hx hb (fh_d d_Mo_handDown 125 rfl) rfl ?_
        exact fh_vret X hP hS (fh_d d_Mo_handDown 147 rfl) ⟨rfl, by rw [← hfo]; rfl, rfl⟩
      | cons i t ih =>
        intro A1 hnt h7 hfo H locs ls hP hS hl
        have hl : lv_has ls 6 [(5, .int (nI i)), (2, .int 3), (3, .int ((A 21) n0)), (4, .int ((A 1) n0)), (0, .ref x), (1, .int (nI n0))] := hl
        refine lv_iload hx hb (fh_d d_Mo_handDown 108 rfl) (lv_at hl 0 rfl) ?_
        refine lv_if_le (tgt := 218) hx hb (fh_d d_Mo_handDown 109 rfl) rfl (fun c124 => absurd c124 (nI_np hnt.1)) (fun c124 => ?_)
        refine lv_aload_n hx hb (fh_d d_Mo_handDown 110 rfl) rfl (lv_at hl 4 rfl) ?_
        refine lv_iload hx hb (fh_d d_Mo_handDown 111 rfl) (lv_at hl 0 rfl) ?_
        refine lv_iload_n hx hb (fh_d d_Mo_handDown 112 rfl) rfl (lv_at hl 1 rfl) ?_
        refine lv_if_ne (tgt := 201) hx hb (fh_d d_Mo_handDown 113 rfl) rfl (fun c125 => ?_) (fun c125 => absurd c125 (by decide))
        refine lv_iload_n hx hb (fh_d d_Mo_handDown 116 rfl) rfl (lv_at hl 1 rfl) ?_
        refine lv_iload_n hx hb (fh_d d_Mo_handDown 117 rfl) rfl (lv_at hl 2 rfl) ?_
        refine fh_callV (cc' := c_Mo_hand) (nL' := 4) (rest := []) (a := x) (As := [.int (nI i), .int 3, .int ((A 21) n0)]) X hR (m_Mo_hand l D ct b RO (r - 1) n x g A1 th co at_ wr no nu op pi wi he de i hnt.1.2 3 ((A 21) n0) hcv) w1128 w1125 w1127 v48 w9 ⟨by decide, by decide, by show _ = some 3; decide +kernel⟩ (by omega) (by decide) (fh_recv hK hP mkM_o rfl) hP hS hl.1 rfl (by exact Nat.le_of_ble_eq_true rfl) (fh_d d_Mo_handDown 118 rfl) ⟨Nat.le_refl _, Nat.le_refl _⟩ (fun v9 h9 n9 H locs hq hP hS => ?_)
        obtain ⟨rfl, u126, u127⟩ := hq
        rw [u126, u127] at hP
        refine W.eq (g2 := F0 m 206 ls []) rfl ?_
        refine lv_aload_n hx hb (fh_d d_Mo_handDown 119 rfl) rfl (lv_at hl 4 rfl) ?_
        refine fh_get (own := "FormulaSetterModel") (ref := "FormulaSetterModel") (C := "FormulaSetterModel") (T := T_Mo) (N := 53) (v := .ref (x + 8)) hx hb hT i_Mo hown hK hP mkM_o rfl 13 (by decide) (hT _ w873) (fun _ h9 => h9) rfl (fh_d d_Mo_handDown 120 rfl) ?_
        refine lv_iload hx hb (fh_d d_Mo_handDown 121 rfl) (lv_at hl 0 rfl) ?_
        refine fn_iald (f := (rf_hand A1 i 3 ((A 21) n0)) 7) (k := i) hx hb hK hP 0 mkM_a7 rfl (rfl) (hnt.1.2) (by decide) (fh_d d_Mo_handDown 122 rfl) ?_
        rw [show (rf_hand A1 i 3 ((A 21) n0)) 7 i = nI (hdz t) from (congrFun (rf_hand_k (by decide) (by decide)) i).trans ((congrFun h7 i).trans hnt.2.1)]
        refine lv_istore (lv' := [(5, .int (nI (hdz t))), (2, .int 3), (3, .int ((A 21) n0)), (4, .int ((A 1) n0)), (0, .ref x), (1, .int (nI n0))]) hx hb (fh_d d_Mo_handDown 123 rfl) hl (by decide) rfl (fun ls hl => ?_)
        refine lv_goto (tgt := 185) hx hb (fh_d d_Mo_handDown 124 rfl) rfl ?_
        exact ih _ hnt.2.2 ((rf_hand_k (by decide) (by decide)).trans h7) hfo H locs _ hP hS (lv_sub hl [0, 1, 2, 3, 4, 5] rfl)
    refine lv_aload_n hx hb (fh_d d_Mo_handDown 0 rfl) rfl (lv_at hl 0 rfl) ?_
    refine fh_get (own := "FormulaSetterModel") (ref := "FormulaSetterModel") (C := "FormulaSetterModel") (T := T_Mo) (N := 53) (v := .ref (x + 21)) hx hb hT i_Mo hown hK hP mkM_o rfl 27 (by decide) (hT _ w887) (fun _ h9 => h9) rfl (fh_d d_Mo_handDown 1 rfl) ?_
    refine lv_iload_n hx hb (fh_d d_Mo_handDown 2 rfl) rfl (lv_at hl 1 rfl) ?_
    refine fn_iald (f := A 20) (k := n0) hx hb hK hP 0 mkM_a20 rfl (rfl) (by omega) (by decide) (fh_d d_Mo_handDown 3 rfl) ?_
    rw [show ((A 20) n0) = 3 from h20]
    refine lv_istore_n (lv' := [(2, .int 3), (0, .ref x), (1, .int (nI n0))]) hx hb (fh_d d_Mo_handDown 4 rfl) rfl hl (by decide) rfl (fun ls hl => ?_)
    refine lv_aload_n hx hb (fh_d d_Mo_handDown 5 rfl) rfl (lv_at hl 1 rfl) ?_
    refine fh_get (own := "FormulaSetterModel") (ref := "FormulaSetterModel") (C := "FormulaSetterModel") (T := T_Mo) (N := 53) (v := .ref (x + 22)) hx hb hT i_Mo hown hK hP mkM_o rfl 28 (by decide) (hT _ w888) (fun _ h9 => h9) rfl (fh_d d_Mo_handDown 6 rfl) ?_
    refine lv_iload_n hx hb (fh_d d_Mo_handDown 7 rfl) rfl (lv_at hl 2 rfl) ?_
    refine fn_zald (f := A 21) (k := n0) hx hb hK hP 3 mkM_a21 rfl (rfl) (by omega) (by decide) (fh_d d_Mo_handDown 8 rfl) ?_
    refine lv_istore_n (lv' := [(3, .int ((A 21) n0)), (2, .int 3), (0, .ref x), (1, .int (nI n0))]) hx hb (fh_d d_Mo_handDown 9 rfl) rfl hl (by decide) rfl (fun ls hl => ?_)
    refine lv_aload_n hx hb (fh_d d_Mo_handDown 10 rfl) rfl (lv_at hl 2 rfl) ?_
    refine fh_get (own := "FormulaSetterModel") (ref := "FormulaSetterModel") (C := "FormulaSetterModel") (T := T_Mo) (N := 53) (v := .ref (x + 2)) hx hb hT i_Mo hown hK hP mkM_o rfl 7 (by decide) (hT _ w867) (fun _ h9 => h9) rfl (fh_d d_Mo_handDown 11 rfl) ?_
    refine lv_iload_n hx hb (fh_d d_Mo_handDown 12 rfl) rfl (lv_at hl 3 rfl) ?_
    refine fn_iald (f := A 1) (k := n0) hx hb hK hP 0 mkM_a1 rfl (rfl) (by omega) (by decide) (fh_d d_Mo_handDown 13 rfl) ?_
    refine lv_istore (lv' := [(4, .int ((A 1) n0)), (3, .int ((A 21) n0)), (2, .int 3), (0, .ref x), (1, .int (nI n0))]) hx hb (fh_d d_Mo_handDown 14 rfl) hl (by decide) rfl (fun ls hl => ?_)
    refine lv_iload hx hb (fh_d d_Mo_handDown 15 rfl) (lv_at hl 0 rfl) ?_
    refine lv_if_ne (tgt := 61) hx hb (fh_d d_Mo_handDown 16 rfl) rfl (fun c128 => ?_) (fun c128 => ?_)
    · refine lv_aload_n hx hb (fh_d d_Mo_handDown 36 rfl) rfl (lv_at hl 3 rfl) ?_
      refine lv_aload_n hx hb (fh_d d_Mo_handDown 37 rfl) rfl (lv_at hl 3 rfl) ?_
      refine fh_get (own := "FormulaSetterModel") (ref := "FormulaSetterModel") (C := "FormulaSetterModel") (T := T_Mo) (N := 53) (v := .ref (x + 13)) hx hb hT i_Mo hown hK hP mkM_o rfl 18 (by decide) (hT _ w878) (fun _ h9 => h9) rfl (fh_d d_Mo_handDown 38 rfl) ?_
      refine lv_iload_n hx hb (fh_d d_Mo_handDown 39 rfl) rfl (lv_at hl 4 rfl) ?_
      refine fn_iald (f := A 12) (k := n0) hx hb hK hP 0 mkM_a12 rfl (rfl) (by omega) (by decide) (fh_d d_Mo_handDown 40 rfl) ?_
      rw [show ((A 12) n0) = nI u from hu.2]
      refine lv_iload_n hx hb (fh_d d_Mo_handDown 41 rfl) rfl (lv_at hl 2 rfl) ?_
      refine lv_iconst (v := 2) hx hb (fh_d d_Mo_handDown 42 rfl) (by decide) ?_
      refine lv_icmp_ge (tgt := 77) hx hb (fh_d d_Mo_handDown 43 rfl) rfl (fun c129 => ?_) (fun c129 => absurd c129 (Classical.not_not.mpr (by decide)))
      refine lv_iconst (v := 3) hx hb (fh_d d_Mo_handDown 46 rfl) (by decide) ?_
      refine lv_iload_n hx hb (fh_d d_Mo_handDown 47 rfl) rfl (lv_at hl 1 rfl) ?_
      refine fh_callV (cc' := c_Mo_hand) (nL' := 4) (rest := []) (a := x) (As := [.int (nI u), .int 3, .int ((A 21) n0)]) X hR (m_Mo_hand l D ct b RO (r - 1) n x g A th co at_ wr no nu op pi wi he de u hu.1 3 ((A 21) n0) hcv) w1128 w1125 w1127 v48 w9 ⟨by decide, by decide, by show _ = some 3; decide +kernel⟩ (by omega) (by decide) (fh_recv hK hP mkM_o rfl) hP hS hl.1 rfl (by exact Nat.le_of_ble_eq_true rfl) (fh_d d_Mo_handDown 48 rfl) ⟨Nat.le_refl _, Nat.le_refl _⟩ (fun v9 h9 n9 H locs hq hP hS => ?_)
      obtain ⟨rfl, u130, u131⟩ := hq
      rw [u130, u131] at hP
      refine W.eq (g2 := F0 m 82 ls []) rfl ?_
      refine lv_aload_n hx hb (fh_d d_Mo_handDown 49 rfl) rfl (lv_at hl 3 rfl) ?_
      refine lv_aload_n hx hb (fh_d d_Mo_handDown 50 rfl) rfl (lv_at hl 3 rfl) ?_
      refine fh_get (own := "FormulaSetterModel") (ref := "FormulaSetterModel") (C := "FormulaSetterModel") (T := T_Mo) (N := 53) (v := .ref (x + 14)) hx hb hT i_Mo hown hK hP mkM_o rfl 19 (by decide) (hT _ w879) (fun _ h9 => h9) rfl (fh_d d_Mo_handDown 51 rfl) ?_
      refine lv_iload_n hx hb (fh_d d_Mo_handDown 52 rfl) rfl (lv_at hl 4 rfl) ?_
      refine fn_iald (f := (rf_hand A u 3 ((A 21) n0)) 13) (k := n0) hx hb hK hP 0 mkM_a13 rfl (rfl) (by omega) (by decide) (fh_d d_Mo_handDown 53 rfl) ?_
      rw [show (rf_hand A u 3 ((A 21) n0)) 13 n0 = nI lo from (congrFun (rf_hand_k (by decide) (by decide)) n0).trans (hlo.2)]
      refine lv_iload_n hx hb (fh_d d_Mo_handDown 54 rfl) rfl (lv_at hl 2 rfl) ?_
      refine lv_iconst (v := 2) hx hb (fh_d d_Mo_handDown 55 rfl) (by decide) ?_
      refine lv_icmp_ge (tgt := 98) hx hb (fh_d d_Mo_handDown 56 rfl) rfl (fun c132 => ?_) (fun c132 => absurd c132 (Classical.not_not.mpr (by decide)))
      refine lv_iconst (v := 3) hx hb (fh_d d_Mo_handDown 59 rfl) (by decide) ?_
      refine lv_iconst (v := 1) hx hb (fh_d d_Mo_handDown 60 rfl) (by decide) ?_
      refine fh_callV (cc' := c_Mo_hand) (nL' := 4) (rest := []) (a := x) (As := [.int (nI lo), .int 3, .int 1]) X hR (m_Mo_hand l D ct b RO (r - 1) n x g (rf_hand A u 3 ((A 21) n0)) th co at_ wr no nu op pi wi he de lo hlo.1 3 1 (by decide)) w1128 w1125 w1127 v48 w9 ⟨by decide, by decide, by show _ = some 3; decide +kernel⟩ (by omega) (by decide) (fh_recv hK hP mkM_o rfl) hP hS hl.1 rfl (by exact Nat.le_of_ble_eq_true rfl) (fh_d d_Mo_handDown 61 rfl) ⟨Nat.le_refl _, Nat.le_refl _⟩ (fun v9 h9 n9 H locs hq hP hS => ?_)
      obtain ⟨rfl, u133, u134⟩ := hq
      rw [u133, u134] at hP
      refine W.eq (g2 := F0 m 103 ls []) rfl ?_
      refine lv_iload hx hb (fh_d d_Mo_handDown 62 rfl) (lv_at hl 0 rfl) ?_
      refine lv_iconst (v := 4) hx hb (fh_d d_Mo_handDown 63 rfl) (by decide) ?_
      refine lv_icmp_ne (tgt := 170) hx hb (fh_d d_Mo_handDown 64 rfl) rfl (fun c135 => ?_) (fun c135 => ?_)
      · refine lv_iload hx hb (fh_d d_Mo_handDown 100 rfl) (lv_at hl 0 rfl) ?_
        refine lv_bipush (v := 9) hx hb (fh_d d_Mo_handDown 101 rfl) (by decide) ?_
        refine lv_icmp_ne (tgt := 221) hx hb (fh_d d_Mo_handDown 102 rfl) rfl (fun c136 => ?_) (fun c136 => ?_)
        · refine lv_aload_n hx hb (fh_d d_Mo_handDown 126 rfl) rfl (lv_at hl 3 rfl) ?_
          refine lv_aload_n hx hb (fh_d d_Mo_handDown 127 rfl) rfl (lv_at hl 3 rfl) ?_
          refine fh_get (own := "FormulaSetterModel") (ref := "FormulaSetterModel") (C := "FormulaSetterModel") (T := T_Mo) (N := 53) (v := .ref (x + 11)) hx hb hT i_Mo hown hK hP mkM_o rfl 16 (by decide) (hT _ w876) (fun _ h9 => h9) rfl (fh_d d_Mo_handDown 128 rfl) ?_
          refine lv_iload_n hx hb (fh_d d_Mo_handDown 129 rfl) rfl (lv_at hl 4 rfl) ?_
          refine fn_iald (f := (rf_hand (rf_hand A u 3 ((A 21) n0)) lo 3 1) 10) (k := n0) hx hb hK hP 0 mkM_a10 rfl (rfl) (by omega) (by decide) (fh_d d_Mo_handDown 130 rfl) ?_
          rw [show (rf_hand (rf_hand A u 3 ((A 21) n0)) lo 3 1) 10 n0 = nI o1 from (congrFun ((rf_hand_k (by decide) (by decide)).trans (rf_hand_k (by decide) (by decide))) n0).trans (ho1.2)]
          refine lv_iload_n hx hb (fh_d d_Mo_handDown 131 rfl) rfl (lv_at hl 2 rfl) ?_
          refine lv_iload_n hx hb (fh_d d_Mo_handDown 132 rfl) rfl (lv_at hl 1 rfl) ?_
          refine lv_if_ne (tgt := 253) hx hb (fh_d d_Mo_handDown 133 rfl) rfl (fun c137 => ?_) (fun c137 => ?_)
          · refine lv_iconst (v := 1) hx hb (fh_d d_Mo_handDown 143 rfl) (by decide) ?_
            refine lv_goto (tgt := 258) hx hb (fh_d d_Mo_handDown 144 rfl) rfl ?_
            refine fh_callV (cc' := c_Mo_hand) (nL' := 4) (rest := []) (a := x) (As := [.int (nI o1), .int 3, .int 1]) X hR (m_Mo_hand l D ct b RO (r - 1) n x g (rf_hand (rf_hand A u 3 ((A 21) n0)) lo 3 1) th co at_ wr no nu op pi wi he de o1 ho1.1 3 1 (by decide)) w1128 w1125 w1127 v48 w9 ⟨by decide, by decide, by show _ = some 3; decide +kernel⟩ (by omega) (by decide) (fh_recv hK hP mkM_o rfl) hP hS hl.1 rfl (by exact Nat.le_of_ble_eq_true rfl) (fh_d d_Mo_handDown 146 rfl) ⟨Nat.le_refl _, Nat.le_refl _⟩ (fun v9 h9 n9 H locs hq hP hS => ?_)
            obtain ⟨rfl, u138, u139⟩ := hq
            rw [u138, u139] at hP
            refine W.eq (g2 := F0 m 261 ls []) rfl ?_
            exact fh_vret X hP hS (fh_d d_Mo_handDown 147 rfl) ⟨rfl, by subst hsv; unfold rf_hd; dsimp only; rw [if_neg c128, if_neg c135, if_neg c136, if_pos (Or.inl c137)]; rfl, rfl⟩
          · refine lv_iload hx hb (fh_d d_Mo_handDown 134 rfl) (lv_at hl 0 rfl) ?_
            refine lv_iconst (v := 5) hx hb (fh_d d_Mo_handDown 135 rfl) (by decide) ?_
            refine lv_icmp_eq (tgt := 253) hx hb (fh_d d_Mo_handDown 136 rfl) rfl (fun c140 => ?_) (fun c140 => ?_)
            · refine lv_iconst (v := 1) hx hb (fh_d d_Mo_handDown 143 rfl) (by decide) ?_
              refine lv_goto (tgt := 258) hx hb (fh_d d_Mo_handDown 144 rfl) rfl ?_
              refine fh_callV (cc' := c_Mo_hand) (nL' := 4) (rest := []) (a := x) (As := [.int (nI o1), .int 3, .int 1]) X hR (m_Mo_hand l D ct b RO (r - 1) n x g (rf_hand (rf_hand A u 3 ((A 21) n0)) lo 3 1) th co at_ wr no nu op pi wi he de o1 ho1.1 3 1 (by decide)) w1128 w1125 w1127 v48 w9 ⟨by decide, by decide, by show _ = some 3; decide +kernel⟩ (by omega) (by decide) (fh_recv hK hP mkM_o rfl) hP hS hl.1 rfl (by exact Nat.le_of_ble_eq_true rfl) (fh_d d_Mo_handDown 146 rfl) ⟨Nat.le_refl _, Nat.le_refl _⟩ (fun v9 h9 n9 H locs hq hP hS => ?_)
              obtain ⟨rfl, u141, u142⟩ := hq
              rw [u141, u142] at hP
              refine W.eq (g2 := F0 m 261 ls []) rfl ?_
              exact fh_vret X hP hS (fh_d d_Mo_handDown 147 rfl) ⟨rfl, by subst hsv; unfold rf_hd; dsimp only; rw [if_neg c128, if_neg c135, if_neg c136, if_pos (Or.inr (Or.inl c140))]; rfl, rfl⟩
            · refine lv_iload hx hb (fh_d d_Mo_handDown 137 rfl) (lv_at hl 0 rfl) ?_
              refine lv_bipush (v := 6) hx hb (fh_d d_Mo_handDown 138 rfl) (by decide) ?_
              refine lv_icmp_eq (tgt := 253) hx hb (fh_d d_Mo_handDown 139 rfl) rfl (fun c143 => ?_) (fun c143 => ?_)
              · refine lv_iconst (v := 1) hx hb (fh_d d_Mo_handDown 143 rfl) (by decide) ?_
                refine lv_goto (tgt := 258) hx hb (fh_d d_Mo_handDown 144 rfl) rfl ?_
                refine fh_callV (cc' := c_Mo_hand) (nL' := 4) (rest := []) (a := x) (As := [.int (nI o1), .int 3, .int 1]) X hR (m_Mo_hand l D ct b RO (r - 1) n x g (rf_hand (rf_hand A u 3 ((A 21) n0)) lo 3 1) th co at_ wr no nu op pi wi he de o1 ho1.1 3 1 (by decide)) w1128 w1125 w1127 v48 w9 ⟨by decide, by decide, by show _ = some 3; decide +kernel⟩ (by omega) (by decide) (fh_recv hK hP mkM_o rfl) hP hS hl.1 rfl (by exact Nat.le_of_ble_eq_true rfl) (fh_d d_Mo_handDown 146 rfl) ⟨Nat.le_refl _, Nat.le_refl _⟩ (fun v9 h9 n9 H locs hq hP hS => ?_)
                obtain ⟨rfl, u144, u145⟩ := hq
                rw [u144, u145] at hP
                refine W.eq (g2 := F0 m 261 ls []) rfl ?_
                exact fh_vret X hP hS (fh_d d_Mo_handDown 147 rfl) ⟨rfl, by subst hsv; unfold rf_hd; dsimp only; rw [if_neg c128, if_neg c135, if_neg c136, if_pos (Or.inr (Or.inr (Or.inl c143)))]; rfl, rfl⟩
              · refine lv_iload hx hb (fh_d d_Mo_handDown 140 rfl) (lv_at hl 0 rfl) ?_
                refine lv_bipush (v := 7) hx hb (fh_d d_Mo_handDown 141 rfl) (by decide) ?_
                refine lv_icmp_ne (tgt := 257) hx hb (fh_d d_Mo_handDown 142 rfl) rfl (fun c146 => ?_) (fun c146 => ?_)
                · refine lv_iconst (v := 0) hx hb (fh_d d_Mo_handDown 145 rfl) (by decide) ?_
                  refine fh_callV (cc' := c_Mo_hand) (nL' := 4) (rest := []) (a := x) (As := [.int (nI o1), .int 3, .int 0]) X hR (m_Mo_hand l D ct b RO (r - 1) n x g (rf_hand (rf_hand A u 3 ((A 21) n0)) lo 3 1) th co at_ wr no nu op pi wi he de o1 ho1.1 3 0 (by decide)) w1128 w1125 w1127 v48 w9 ⟨by decide, by decide, by show _ = some 3; decide +kernel⟩ (by omega) (by decide) (fh_recv hK hP mkM_o rfl) hP hS hl.1 rfl (by exact Nat.le_of_ble_eq_true rfl) (fh_d d_Mo_handDown 146 rfl) ⟨Nat.le_refl _, Nat.le_refl _⟩ (fun v9 h9 n9 H locs hq hP hS => ?_)
                  obtain ⟨rfl, u147, u148⟩ := hq
                  rw [u147, u148] at hP
                  refine W.eq (g2 := F0 m 261 ls []) rfl ?_
                  exact fh_vret X hP hS (fh_d d_Mo_handDown 147 rfl) ⟨rfl, by subst hsv; unfold rf_hd; dsimp only; rw [if_neg c128, if_neg c135, if_neg c136, if_neg (fun z => z.elim (fun y => y c137) (fun z => z.elim c140 (fun z => z.elim c143 c146)))]; rfl, rfl⟩
                · refine lv_iconst (v := 1) hx hb (fh_d d_Mo_handDown 143 rfl) (by decide) ?_
                  refine lv_goto (tgt := 258) hx hb (fh_d d_Mo_handDown 144 rfl) rfl ?_
                  refine fh_callV (cc' := c_Mo_hand) (nL' := 4) (rest := []) (a := x) (As := [.int (nI o1), .int 3, .int 1]) X hR (m_Mo_hand l D ct b RO (r - 1) n x g (rf_hand (rf_hand A u 3 ((A 21) n0)) lo 3 1) th co at_ wr no nu op pi wi he de o1 ho1.1 3 1 (by decide)) w1128 w1125 w1127 v48 w9 ⟨by decide, by decide, by show _ = some 3; decide +kernel⟩ (by omega) (by decide) (fh_recv hK hP mkM_o rfl) hP hS hl.1 rfl (by exact Nat.le_of_ble_eq_true rfl) (fh_d d_Mo_handDown 146 rfl) ⟨Nat.le_refl _, Nat.le_refl _⟩ (fun v9 h9 n9 H locs hq hP hS => ?_)
                  obtain ⟨rfl, u149, u150⟩ := hq
                  rw [u149, u150] at hP
                  refine W.eq (g2 := F0 m 261 ls []) rfl ?_
                  exact fh_vret X hP hS (fh_d d_Mo_handDown 147 rfl) ⟨rfl, by subst hsv; unfold rf_hd; dsimp only; rw [if_neg c128, if_neg c135, if_neg c136, if_pos (Or.inr (Or.inr (Or.inr c146)))]; rfl, rfl⟩
        · refine lv_aload_n hx hb (fh_d d_Mo_handDown 103 rfl) rfl (lv_at hl 3 rfl) ?_
          refine fh_get (own := "FormulaSetterModel") (ref := "FormulaSetterModel") (C := "FormulaSetterModel") (T := T_Mo) (N := 53) (v := .ref (x + 7)) hx hb hT i_Mo hown hK hP mkM_o rfl 12 (by decide) (hT _ w872) (fun _ h9 => h9) rfl (fh_d d_Mo_handDown 104 rfl) ?_
          refine lv_iload_n hx hb (fh_d d_Mo_handDown 105 rfl) rfl (lv_at hl 4 rfl) ?_
          refine fn_iald (f := (rf_hand (rf_hand A u 3 ((A 21) n0)) lo 3 1) 6) (k := n0) hx hb hK hP 0 mkM_a6 rfl (rfl) (by omega) (by decide) (fh_d d_Mo_handDown 106 rfl) ?_
          rw [show (rf_hand (rf_hand A u 3 ((A 21) n0)) lo 3 1) 6 n0 = nI (hdz cs) from (congrFun ((rf_hand_k (by decide) (by decide)).trans (rf_hand_k (by decide) (by decide))) n0).trans (h6)]
          refine lv_istore (lv' := [(5, .int (nI (hdz cs))), (4, .int ((A 1) n0)), (3, .int ((A 21) n0)), (2, .int 3), (0, .ref x), (1, .int (nI n0))]) hx hb (fh_d d_Mo_handDown 107 rfl) hl (by decide) rfl (fun ls hl => ?_)
          exact loop2 cs _ hnx ((rf_hand_k (by decide) (by decide)).trans (rf_hand_k (by decide) (by decide))) (by subst hsv; unfold rf_hd; dsimp only; rw [if_neg c128, if_neg c135, if_pos c136]; rfl) H _ _ hP hS (lv_sub hl [0, 3, 2, 1, 4, 5] rfl)
      · refine lv_aload_n hx hb (fh_d d_Mo_handDown 65 rfl) rfl (lv_at hl 3 rfl) ?_
        refine lv_aload_n hx hb (fh_d d_Mo_handDown 66 rfl) rfl (lv_at hl 3 rfl) ?_
        refine fh_get (own := "FormulaSetterModel") (ref := "FormulaSetterModel") (C := "FormulaSetterModel") (T := T_Mo) (N := 53) (v := .ref (x + 11)) hx hb hT i_Mo hown hK hP mkM_o rfl 16 (by decide) (hT _ w876) (fun _ h9 => h9) rfl (fh_d d_Mo_handDown 67 rfl) ?_
        refine lv_iload_n hx hb (fh_d d_Mo_handDown 68 rfl) rfl (lv_at hl 4 rfl) ?_
        refine fn_iald (f := (rf_hand (rf_hand A u 3 ((A 21) n0)) lo 3 1) 10) (k := n0) hx hb hK hP 0 mkM_a10 rfl (rfl) (by omega) (by decide) (fh_d d_Mo_handDown 69 rfl) ?_
        rw [show (rf_hand (rf_hand A u 3 ((A 21) n0)) lo 3 1) 10 n0 = nI o1 from (congrFun ((rf_hand_k (by decide) (by decide)).trans (rf_hand_k (by decide) (by decide))) n0).trans (ho1.2)]
        refine lv_iload_n hx hb (fh_d d_Mo_handDown 70 rfl) rfl (lv_at hl 2 rfl) ?_
        refine lv_if_ne (tgt := 124) hx hb (fh_d d_Mo_handDown 71 rfl) rfl (fun c151 => ?_) (fun c151 => absurd c151 (by decide))
        refine lv_iload_n hx hb (fh_d d_Mo_handDown 74 rfl) rfl (lv_at hl 2 rfl) ?_
        refine lv_iconst (v := 1) hx hb (fh_d d_Mo_handDown 75 rfl) (by decide) ?_
        refine lv_icmp_ne (tgt := 133) hx hb (fh_d d_Mo_handDown 76 rfl) rfl (fun c152 => ?_) (fun c152 => absurd c152 (by decide))
        refine lv_iconst (v := 3) hx hb (fh_d d_Mo_handDown 79 rfl) (by decide) ?_
        refine lv_iload_n hx hb (fh_d d_Mo_handDown 80 rfl) rfl (lv_at hl 1 rfl) ?_
        refine fh_callV (cc' := c_Mo_hand) (nL' := 4) (rest := []) (a := x) (As := [.int (nI o1), .int 3, .int ((A 21) n0)]) X hR (m_Mo_hand l D ct b RO (r - 1) n x g (rf_hand (rf_hand A u 3 ((A 21) n0)) lo 3 1) th co at_ wr no nu op pi wi he de o1 ho1.1 3 ((A 21) n0) hcv) w1128 w1125 w1127 v48 w9 ⟨by decide, by decide, by show _ = some 3; decide +kernel⟩ (by omega) (by decide) (fh_recv hK hP mkM_o rfl) hP hS hl.1 rfl (by exact Nat.le_of_ble_eq_true rfl) (fh_d d_Mo_handDown 81 rfl) ⟨Nat.le_refl _, Nat.le_refl _⟩ (fun v9 h9 n9 H locs hq hP hS => ?_)
        obtain ⟨rfl, u153, u154⟩ := hq
        rw [u153, u154] at hP
        refine W.eq (g2 := F0 m 138 ls []) rfl ?_
        refine lv_aload_n hx hb (fh_d d_Mo_handDown 82 rfl) rfl (lv_at hl 3 rfl) ?_
        refine lv_aload_n hx hb (fh_d d_Mo_handDown 83 rfl) rfl (lv_at hl 3 rfl) ?_
        refine fh_get (own := "FormulaSetterModel") (ref := "FormulaSetterModel") (C := "FormulaSetterModel") (T := T_Mo) (N := 53) (v := .ref (x + 12)) hx hb hT i_Mo hown hK hP mkM_o rfl 17 (by decide) (hT _ w877) (fun _ h9 => h9) rfl (fh_d d_Mo_handDown 84 rfl) ?_
        refine lv_iload_n hx hb (fh_d d_Mo_handDown 85 rfl) rfl (lv_at hl 4 rfl) ?_
        refine fn_iald (f := (rf_hand (rf_hand (rf_hand A u 3 ((A 21) n0)) lo 3 1) o1 3 ((A 21) n0)) 11) (k := n0) hx hb hK hP 0 mkM_a11 rfl (rfl) (by omega) (by decide) (fh_d d_Mo_handDown 86 rfl) ?_
        rw [show (rf_hand (rf_hand (rf_hand A u 3 ((A 21) n0)) lo 3 1) o1 3 ((A 21) n0)) 11 n0 = nI t2 from (congrFun (((rf_hand_k (by decide) (by decide)).trans (rf_hand_k (by decide) (by decide))).trans (rf_hand_k (by decide) (by decide))) n0).trans (ht2.2)]
        refine lv_iload_n hx hb (fh_d d_Mo_handDown 87 rfl) rfl (lv_at hl 2 rfl) ?_
        refine lv_if_ne (tgt := 153) hx hb (fh_d d_Mo_handDown 88 rfl) rfl (fun c155 => ?_) (fun c155 => absurd c155 (by decide))
        refine lv_iload_n hx hb (fh_d d_Mo_handDown 91 rfl) rfl (lv_at hl 2 rfl) ?_
        refine lv_iconst (v := 1) hx hb (fh_d d_Mo_handDown 92 rfl) (by decide) ?_
        refine lv_icmp_ne (tgt := 162) hx hb (fh_d d_Mo_handDown 93 rfl) rfl (fun c156 => ?_) (fun c156 => absurd c156 (by decide))
        refine lv_iconst (v := 3) hx hb (fh_d d_Mo_handDown 96 rfl) (by decide) ?_
        refine lv_iconst (v := 1) hx hb (fh_d d_Mo_handDown 97 rfl) (by decide) ?_
        refine fh_callV (cc' := c_Mo_hand) (nL' := 4) (rest := []) (a := x) (As := [.int (nI t2), .int 3, .int 1]) X hR (m_Mo_hand l D ct b RO (r - 1) n x g (rf_hand (rf_hand (rf_hand A u 3 ((A 21) n0)) lo 3 1) o1 3 ((A 21) n0)) th co at_ wr no nu op pi wi he de t2 ht2.1 3 1 (by decide)) w1128 w1125 w1127 v48 w9 ⟨by decide, by decide, by show _ = some 3; decide +kernel⟩ (by omega) (by decide) (fh_recv hK hP mkM_o rfl) hP hS hl.1 rfl (by exact Nat.le_of_ble_eq_true rfl) (fh_d d_Mo_handDown 98 rfl) ⟨Nat.le_refl _, Nat.le_refl _⟩ (fun v9 h9 n9 H locs hq hP hS => ?_)
        obtain ⟨rfl, u157, u158⟩ := hq
        rw [u157, u158] at hP
        refine W.eq (g2 := F0 m 167 ls []) rfl ?_
        refine lv_goto (tgt := 261) hx hb (fh_d d_Mo_handDown 99 rfl) rfl ?_
        exact fh_vret X hP hS (fh_d d_Mo_handDown 147 rfl) ⟨rfl, by subst hsv; unfold rf_hd; dsimp only; rw [if_neg c128, if_pos c135]; rfl, rfl⟩
    · refine lv_aload_n hx hb (fh_d d_Mo_handDown 17 rfl) rfl (lv_at hl 3 rfl) ?_
      refine fh_get (own := "FormulaSetterModel") (ref := "FormulaSetterModel") (C := "FormulaSetterModel") (T := T_Mo) (N := 53) (v := .ref (x + 7)) hx hb hT i_Mo hown hK hP mkM_o rfl 12 (by decide) (hT _ w872) (fun _ h9 => h9) rfl (fh_d d_Mo_handDown 18 rfl) ?_
      refine lv_iload_n hx hb (fh_d d_Mo_handDown 19 rfl) rfl (lv_at hl 4 rfl) ?_
      refine fn_iald (f := A 6) (k := n0) hx hb hK hP 0 mkM_a6 rfl (rfl) (by omega) (by decide) (fh_d d_Mo_handDown 20 rfl) ?_
      rw [show ((A 6) n0) = nI (hdz cs) from h6]
      refine lv_istore (lv' := [(5, .int (nI (hdz cs))), (4, .int ((A 1) n0)), (3, .int ((A 21) n0)), (2, .int 3), (0, .ref x), (1, .int (nI n0))]) hx hb (fh_d d_Mo_handDown 21 rfl) hl (by decide) rfl (fun ls hl => ?_)
      exact loop1 cs A hnx rfl (by subst hsv; unfold rf_hd; rw [if_pos c128]; rfl) H _ _ hP hS (lv_sub hl [0, 3, 2, 1, 4, 5] rfl)
