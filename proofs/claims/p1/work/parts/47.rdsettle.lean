/-! Line.settleAtoms. Printed by wip/whole/gen/p47.py -/
/-- the items of a list, by their next -/
def nxL (R : Nat → Nat → Option Nat) : List Nat → Prop
  | [] => True
  | i :: t => R i 14 = t.head? ∧ nxL R t
def s1v (R : Nat → Nat → Option Nat) (bf : Option Nat) : Int32 := bf.elim 1 (fun q => (R q 6).elim 0 aB)
def s2v (R : Nat → Nat → Option Nat) (nx : Option Nat) : Int32 := nx.elim 1 (fun q => (R q 6).elim 0 aF)
def st1 (R : Nat → Nat → Option Nat) (bf : Option Nat) : List Nat → Nat → Nat → Option Nat
  | [] => R
  | i :: t => st1 (if R i 6 = some 2 ∧ ¬ s1v R bf = 0 then sT R i 6 (some 0) else R) (some i) t
def st2 (R : Nat → Nat → Option Nat) : List Nat → Nat → Nat → Option Nat
  | [] => R
  | i :: t => st2 (if R i 6 = some 2 ∧ ¬ s2v R t.head? = 0 then sT R i 6 (some 0) else R) t
theorem sT_6 {R0 R : Nat → Nat → Option Nat} {i : Nat} (h : ∀ q c, c ≠ 6 → R0 q c = R q c) : ∀ q c, c ≠ 6 → sT R0 i 6 (some 0) q c = R q c := fun q c hc => (sT_ne (fun z => hc z.2)).trans (h q c hc)
theorem sT_a {R0 : Nat → Nat → Option Nat} {its : List Nat} {i : Nat} (h : ∀ q ∈ its, ∃ a, a < 8 ∧ R0 q 6 = some a) : ∀ q ∈ its, ∃ a, a < 8 ∧ sT R0 i 6 (some 0) q 6 = some a := fun q hq => by
  by_cases e : q = i
  · subst e; exact ⟨0, by decide, sT_same⟩
  · obtain ⟨a, h1, h2⟩ := h q hq; exact ⟨a, h1, (sT_ne (fun z => e z.1)).trans h2⟩
set_option maxHeartbeats 4000000 in
set_option maxRecDepth 100000 in
theorem m_Li_settleAtoms (l : Launch) (D : va_G) (ct : Nat → ClassId) (b : Nat) (RO : State → Prop) (sA sV : Nat → Nat) (hSt : ∀ U, RO U → ro_S b sA sV U) (kA aA yA : Nat → Nat) (tK tS tM : Nat) (hEn : ∀ U, RO U → ro_E b sA kA aA yA tK tS tM U) (hAd : ad_ok kA aA yA) (r : Nat) (n x : Nat) (g : fh_H) (C : Nat → Nat → Int32) (R : Nat → Nat → Option Nat) (CL : Nat → Nat → Int32) (RL : Nat → Nat → Option Nat) (nc lc : Int32) (tx : Value) (len at_ : Int32) (j : Nat) (hj : j < 161) (its : List Nat) (hfi : RL j 5 = its.head?) (hlt : ∀ i ∈ its, i < 60) (hnx : nxL R its) (hat : ∀ i ∈ its, ∃ a, a < 8 ∧ R i 6 = some a) : fh_C l D fh_cl (fh_tys ct) b RO y_Li_settleAtoms (Cond.code y_Li_settleAtoms c_Li_settleAtoms 3 (Option.none : Option FieldType) :: fh_T) (fh_rm r 0 0) [.ref (x + 65 + j)] (mkR x kA aA g nc lc tx len at_ C R CL RL) n (fun v h' n' => v = none ∧ h' = mkR x kA aA g nc lc tx len at_ C (st2 (st1 R none its) its) CL RL ∧ n' = n) 0 0 := by
  refine fh_enter (by decide) (Nat.le_of_ble_eq_true rfl) [(0, .ref (x + 65 + j))] rfl ?_
  intro p e s m args below meth c H ls X hP hS hl
  have hx := X.1
  have hb := X.2.1
  have hml := X.2.2.1
  have hown : s.vm.findClass "FormulaSetter$Line" = some m.cls := X.2.2.2.1
  have hT := X.2.2.2.2.1
  have hK := X.2.2.2.2.2.1
  have hRO := X.2.2.2.2.2.2.1
  have hnm : meth.name = "settleAtoms" := X.2.2.2.2.2.2.2.2.2.2
  have pass2 : ∀ (t : List Nat) (R0 : Nat → Nat → Option Nat), (∀ i ∈ t, i ∈ its) → nxL R t → (∀ q c, c ≠ 6 → R0 q c = R q c) → (∀ i ∈ its, ∃ a, a < 8 ∧ R0 i 6 = some a) → st2 R0 t = st2 (st1 R none its) its → ∀ (H : Heap) (locs : List Loc) (ls : Array Slot), fh_P D fh_cl b (mkR x kA aA g nc lc tx len at_ C R0 CL RL) n H → va_S (fh_A b) s.heap H locs → lv_has ls 3 [(2, va_rf (t.head?.map (fun z => x + 4 + z))), (0, .ref (x + 65 + j))] → W p l e (fh_rm r 0 0) s m args below meth c H locs 0 0 (MQ below (fh_Post D fh_cl b (fun v h' n' => v = none ∧ h' = mkR x kA aA g nc lc tx len at_ C (st2 (st1 R none its) its) CL RL ∧ n' = n)) args s 0 0 (fh_A b)) (F0 m 57 ls []) := by
    intro t
    induction t with
    | nil =>
      intro R0 hmem hnt hcol hok hst H locs ls hP hS hl
      have hl : lv_has ls 3 [(2, .null), (0, .ref (x + 65 + j))] := hl
      refine lv_aload_nN hx hb (fh_d d_Li_settleAtoms 29 rfl) rfl (lv_at hl 0 rfl) ?_
      refine lv_ifnullN (tgt := 106) hx hb (fh_d d_Li_settleAtoms 30 rfl) rfl ?_
      exact fh_vret X hP hS (fh_d d_Li_settleAtoms 50 rfl) ⟨rfl, by rw [← hst]; rfl, rfl⟩
    | cons i t ih =>
      intro R0 hmem hnt hcol hok hst H locs ls hP hS hl
      have him := hmem i List.mem_cons_self
      have hi := hlt i him
      obtain ⟨a, ha8, fa⟩ := hok i him
      rcases t with _ | ⟨q, t⟩
      · have f14 : R0 i 14 = none := (hcol i 14 (by decide)).trans hnt.1
        have hl : lv_has ls 3 [(2, .ref (x + 4 + i)), (0, .ref (x + 65 + j))] := hl
        refine lv_aload_n hx hb (fh_d d_Li_settleAtoms 29 rfl) rfl (lv_at hl 0 rfl) ?_
        refine lv_ifnull hx hb (fh_d d_Li_settleAtoms 30 rfl) ?_
        refine lv_aload_n hx hb (fh_d d_Li_settleAtoms 31 rfl) rfl (lv_at hl 0 rfl) ?_
        refine fh_get (own := "FormulaSetter$Line") (ref := "FormulaSetter$Nucleus") (C := "FormulaSetter$Nucleus") (T := T_Nu) (N := 15) (v := .ref (aA a)) hx hb hT i_Nu hown hK hP (mkR_nu (hi)) rfl 6 (by decide) (hT _ w55) (fun _ h9 => h9) (by show some (va_rf ((R0 i 6).map aA)) = _; rw [fa]; rfl) (fh_d d_Li_settleAtoms 32 rfl) ?_
        refine va_gets (own := "FormulaSetter$Line") (ref := "FormulaSetter$Atom") (n := "BIN") hx hb ((hEn _ hRO).2.1 2 (by decide)).1 hS hown (hT _ w542) (fun _ h9 => h9) (fh_d d_Li_settleAtoms 33 rfl) ?_
        refine lv_acmp_ne (rx := some (aA a)) (ry := some (aA 2)) (tgt := 98) hx hb (fh_d d_Li_settleAtoms 34 rfl) rfl (fun c3 => ?_) (fun c3 => ?_)
        · refine lv_aload_n hx hb (fh_d d_Li_settleAtoms 46 rfl) rfl (lv_at hl 0 rfl) ?_
          refine fh_get (own := "FormulaSetter$Line") (ref := "FormulaSetter$Nucleus") (C := "FormulaSetter$Nucleus") (T := T_Nu) (N := 15) (v := .null) hx hb hT i_Nu hown hK hP (mkR_nu (hi)) rfl 14 (by decide) (hT _ w80) (fun _ h9 => h9) (by show some (va_rf ((R0 i 14).map (fun z => x + 4 + z))) = _; rw [f14]; rfl) (fh_d d_Li_settleAtoms 47 rfl) ?_
          refine lv_astore_nN (lv' := [(2, .null), (0, .ref (x + 65 + j))]) hx hb (fh_d d_Li_settleAtoms 48 rfl) rfl hl (by decide) rfl (fun ls hl => ?_)
          refine lv_goto (tgt := 57) hx hb (fh_d d_Li_settleAtoms 49 rfl) rfl ?_
          have e9 : st2 R0 (i :: []) = st2 (R0) [] := by
            show st2 (if R0 i 6 = some 2 ∧ ¬ s2v R0 (none) = 0 then sT R0 i 6 (some 0) else R0) _ = _
            rw [if_neg (fun z => c3 (by rw [Option.some.inj (fa.symm.trans z.1)]))]
          exact ih (R0) (fun z hz => hmem z (List.mem_cons_of_mem _ hz)) hnt.2 (hcol) (hok) (e9.symm.trans hst) H _ _ hP hS hl
        · refine lv_aload_n hx hb (fh_d d_Li_settleAtoms 35 rfl) rfl (lv_at hl 0 rfl) ?_
          refine fh_get (own := "FormulaSetter$Line") (ref := "FormulaSetter$Nucleus") (C := "FormulaSetter$Nucleus") (T := T_Nu) (N := 15) (v := .null) hx hb hT i_Nu hown hK hP (mkR_nu (hi)) rfl 14 (by decide) (hT _ w80) (fun _ h9 => h9) (by show some (va_rf ((R0 i 14).map (fun z => x + 4 + z))) = _; rw [f14]; rfl) (fh_d d_Li_settleAtoms 36 rfl) ?_
          refine lv_ifnullN (tgt := 91) hx hb (fh_d d_Li_settleAtoms 37 rfl) rfl ?_
          refine lv_aload_n hx hb (fh_d d_Li_settleAtoms 43 rfl) rfl (lv_at hl 0 rfl) ?_
          refine va_gets (own := "FormulaSetter$Line") (ref := "FormulaSetter$Atom") (n := "ORD") hx hb ((hEn _ hRO).2.1 0 (by decide)).1 hS hown (hT _ w543) (fun _ h9 => h9) (fh_d d_Li_settleAtoms 44 rfl) ?_
          refine fh_put (own := "FormulaSetter$Line") (ref := "FormulaSetter$Nucleus") (C := "FormulaSetter$Nucleus") (T := T_Nu) (N := 15) (v := .ref (aA 0)) (ty := (.object "FormulaSetter$Atom")) hx hb hT i_Nu t_Nu k_Nu n_Nu hown hK hP hS (mkR_nu (hi)) rfl 6 (by decide) (hT _ w55) (fun _ h9 => h9) rfl (by decide +kernel) rfl rfl (Nat.le_of_ble_eq_true rfl) (fh_d d_Li_settleAtoms 45 rfl) (fun H locs hP hS => ?_)
          replace hP := fh_P.eq (h' := mkR x kA aA g nc lc tx len at_ C (sT R0 i 6 (some 0)) CL RL) hP (mkR_nu6 (v := some 0) (hi))
          have f5 : (sT R0 i 6 (some 0)) i 14 = none := (sT_ne (by omega)).trans f14
          have f6 : (sT R0 i 6 (some 0)) i 6 = some 0 := sT_same
          refine lv_aload_n hx hb (fh_d d_Li_settleAtoms 46 rfl) rfl (lv_at hl 0 rfl) ?_
          refine fh_get (own := "FormulaSetter$Line") (ref := "FormulaSetter$Nucleus") (C := "FormulaSetter$Nucleus") (T := T_Nu) (N := 15) (v := .null) hx hb hT i_Nu hown hK hP (mkR_nu (hi)) rfl 14 (by decide) (hT _ w80) (fun _ h9 => h9) (by show some (va_rf (((sT R0 i 6 (some 0)) i 14).map (fun z => x + 4 + z))) = _; rw [f5]; rfl) (fh_d d_Li_settleAtoms 47 rfl) ?_
          refine lv_astore_nN (lv' := [(2, .null), (0, .ref (x + 65 + j))]) hx hb (fh_d d_Li_settleAtoms 48 rfl) rfl hl (by decide) rfl (fun ls hl => ?_)
          refine lv_goto (tgt := 57) hx hb (fh_d d_Li_settleAtoms 49 rfl) rfl ?_
          have e9 : st2 R0 (i :: []) = st2 (sT R0 i 6 (some 0)) [] := by
            show st2 (if R0 i 6 = some 2 ∧ ¬ s2v R0 (none) = 0 then sT R0 i 6 (some 0) else R0) _ = _
            rw [if_pos ⟨by rw [fa, hAd.2.1 _ _ ha8 (by decide) (Option.some.inj c3)], (show ¬ (1 : Int32) = 0 by decide)⟩]
          exact ih (sT R0 i 6 (some 0)) (fun z hz => hmem z (List.mem_cons_of_mem _ hz)) hnt.2 (sT_6 hcol) (sT_a hok) (e9.symm.trans hst) H _ _ hP hS hl
      · have f14 : R0 i 14 = some q := (hcol i 14 (by decide)).trans hnt.1
        have hqm := hmem q (List.mem_cons_of_mem _ List.mem_cons_self)
        have hq := hlt q hqm
        obtain ⟨e0, he8, fe⟩ := hok q hqm
        have hl : lv_has ls 3 [(2, .ref (x + 4 + i)), (0, .ref (x + 65 + j))] := hl
        refine lv_aload_n hx hb (fh_d d_Li_settleAtoms 29 rfl) rfl (lv_at hl 0 rfl) ?_
        refine lv_ifnull hx hb (fh_d d_Li_settleAtoms 30 rfl) ?_
        refine lv_aload_n hx hb (fh_d d_Li_settleAtoms 31 rfl) rfl (lv_at hl 0 rfl) ?_
        refine fh_get (own := "FormulaSetter$Line") (ref := "FormulaSetter$Nucleus") (C := "FormulaSetter$Nucleus") (T := T_Nu) (N := 15) (v := .ref (aA a)) hx hb hT i_Nu hown hK hP (mkR_nu (hi)) rfl 6 (by decide) (hT _ w55) (fun _ h9 => h9) (by show some (va_rf ((R0 i 6).map aA)) = _; rw [fa]; rfl) (fh_d d_Li_settleAtoms 32 rfl) ?_
        refine va_gets (own := "FormulaSetter$Line") (ref := "FormulaSetter$Atom") (n := "BIN") hx hb ((hEn _ hRO).2.1 2 (by decide)).1 hS hown (hT _ w542) (fun _ h9 => h9) (fh_d d_Li_settleAtoms 33 rfl) ?_
        refine lv_acmp_ne (rx := some (aA a)) (ry := some (aA 2)) (tgt := 98) hx hb (fh_d d_Li_settleAtoms 34 rfl) rfl (fun c8 => ?_) (fun c8 => ?_)
        · refine lv_aload_n hx hb (fh_d d_Li_settleAtoms 46 rfl) rfl (lv_at hl 0 rfl) ?_
          refine fh_get (own := "FormulaSetter$Line") (ref := "FormulaSetter$Nucleus") (C := "FormulaSetter$Nucleus") (T := T_Nu) (N := 15) (v := .ref (x + 4 + q)) hx hb hT i_Nu hown hK hP (mkR_nu (hi)) rfl 14 (by decide) (hT _ w80) (fun _ h9 => h9) (by show some (va_rf ((R0 i 14).map (fun z => x + 4 + z))) = _; rw [f14]; rfl) (fh_d d_Li_settleAtoms 47 rfl) ?_
          refine lv_astore_n (lv' := [(2, .ref (x + 4 + q)), (0, .ref (x + 65 + j))]) hx hb (fh_d d_Li_settleAtoms 48 rfl) rfl hl (by decide) rfl (fun ls hl => ?_)
          refine lv_goto (tgt := 57) hx hb (fh_d d_Li_settleAtoms 49 rfl) rfl ?_
          have e9 : st2 R0 (i :: (q :: t)) = st2 (R0) (q :: t) := by
            show st2 (if R0 i 6 = some 2 ∧ ¬ s2v R0 (some q) = 0 then sT R0 i 6 (some 0) else R0) _ = _
            rw [if_neg (fun z => c8 (by rw [Option.some.inj (fa.symm.trans z.1)]))]
          exact ih (R0) (fun z hz => hmem z (List.mem_cons_of_mem _ hz)) hnt.2 (hcol) (hok) (e9.symm.trans hst) H _ _ hP hS hl
        · refine lv_aload_n hx hb (fh_d d_Li_settleAtoms 35 rfl) rfl (lv_at hl 0 rfl) ?_
          refine fh_get (own := "FormulaSetter$Line") (ref := "FormulaSetter$Nucleus") (C := "FormulaSetter$Nucleus") (T := T_Nu) (N := 15) (v := .ref (x + 4 + q)) hx hb hT i_Nu hown hK hP (mkR_nu (hi)) rfl 14 (by decide) (hT _ w80) (fun _ h9 => h9) (by show some (va_rf ((R0 i 14).map (fun z => x + 4 + z))) = _; rw [f14]; rfl) (fh_d d_Li_settleAtoms 36 rfl) ?_
          refine lv_ifnull hx hb (fh_d d_Li_settleAtoms 37 rfl) ?_
          refine lv_aload_n hx hb (fh_d d_Li_settleAtoms 38 rfl) rfl (lv_at hl 0 rfl) ?_
          refine fh_get (own := "FormulaSetter$Line") (ref := "FormulaSetter$Nucleus") (C := "FormulaSetter$Nucleus") (T := T_Nu) (N := 15) (v := .ref (x + 4 + q)) hx hb hT i_Nu hown hK hP (mkR_nu (hi)) rfl 14 (by decide) (hT _ w80) (fun _ h9 => h9) (by show some (va_rf ((R0 i 14).map (fun z => x + 4 + z))) = _; rw [f14]; rfl) (fh_d d_Li_settleAtoms 39 rfl) ?_
          refine fh_get (own := "FormulaSetter$Line") (ref := "FormulaSetter$Nucleus") (C := "FormulaSetter$Nucleus") (T := T_Nu) (N := 15) (v := .ref (aA e0)) hx hb hT i_Nu hown hK hP (mkR_nu (hq)) rfl 6 (by decide) (hT _ w55) (fun _ h9 => h9) (by show some (va_rf ((R0 q 6).map aA)) = _; rw [fe]; rfl) (fh_d d_Li_settleAtoms 40 rfl) ?_
          refine vk_getf (own := "FormulaSetter$Line") (ref := "FormulaSetter$Atom") hx hb (((hEn _ hRO).2.1 e0 he8).2.2.2.2.2.2) hS hown (hT _ w1248) (fun _ h9 => h9) (fh_d d_Li_settleAtoms 41 rfl) ?_
          refine lv_if_eq (tgt := 98) hx hb (fh_d d_Li_settleAtoms 42 rfl) rfl (fun c10 => ?_) (fun c10 => ?_)
          · refine lv_aload_n hx hb (fh_d d_Li_settleAtoms 46 rfl) rfl (lv_at hl 0 rfl) ?_
            refine fh_get (own := "FormulaSetter$Line") (ref := "FormulaSetter$Nucleus") (C := "FormulaSetter$Nucleus") (T := T_Nu) (N := 15) (v := .ref (x + 4 + q)) hx hb hT i_Nu hown hK hP (mkR_nu (hi)) rfl 14 (by decide) (hT _ w80) (fun _ h9 => h9) (by show some (va_rf ((R0 i 14).map (fun z => x + 4 + z))) = _; rw [f14]; rfl) (fh_d d_Li_settleAtoms 47 rfl) ?_
            refine lv_astore_n (lv' := [(2, .ref (x + 4 + q)), (0, .ref (x + 65 + j))]) hx hb (fh_d d_Li_settleAtoms 48 rfl) rfl hl (by decide) rfl (fun ls hl => ?_)
            refine lv_goto (tgt := 57) hx hb (fh_d d_Li_settleAtoms 49 rfl) rfl ?_
            have e9 : st2 R0 (i :: (q :: t)) = st2 (R0) (q :: t) := by
              show st2 (if R0 i 6 = some 2 ∧ ¬ s2v R0 (some q) = 0 then sT R0 i 6 (some 0) else R0) _ = _
              rw [if_neg (fun z => z.2 (by show (R0 q 6).elim 0 aF = 0; rw [fe]; exact c10))]
            exact ih (R0) (fun z hz => hmem z (List.mem_cons_of_mem _ hz)) hnt.2 (hcol) (hok) (e9.symm.trans hst) H _ _ hP hS hl
          · refine lv_aload_n hx hb (fh_d d_Li_settleAtoms 43 rfl) rfl (lv_at hl 0 rfl) ?_
            refine va_gets (own := "FormulaSetter$Line") (ref := "FormulaSetter$Atom") (n := "ORD") hx hb ((hEn _ hRO).2.1 0 (by decide)).1 hS hown (hT _ w543) (fun _ h9 => h9) (fh_d d_Li_settleAtoms 44 rfl) ?_
            refine fh_put (own := "FormulaSetter$Line") (ref := "FormulaSetter$Nucleus") (C := "FormulaSetter$Nucleus") (T := T_Nu) (N := 15) (v := .ref (aA 0)) (ty := (.object "FormulaSetter$Atom")) hx hb hT i_Nu t_Nu k_Nu n_Nu hown hK hP hS (mkR_nu (hi)) rfl 6 (by decide) (hT _ w55) (fun _ h9 => h9) rfl (by decide +kernel) rfl rfl (Nat.le_of_ble_eq_true rfl) (fh_d d_Li_settleAtoms 45 rfl) (fun H locs hP hS => ?_)
            replace hP := fh_P.eq (h' := mkR x kA aA g nc lc tx len at_ C (sT R0 i 6 (some 0)) CL RL) hP (mkR_nu6 (v := some 0) (hi))
            have f11 : (sT R0 i 6 (some 0)) i 14 = some q := (sT_ne (by omega)).trans f14
            have f12 : (sT R0 i 6 (some 0)) i 6 = some 0 := sT_same
            refine lv_aload_n hx hb (fh_d d_Li_settleAtoms 46 rfl) rfl (lv_at hl 0 rfl) ?_
            refine fh_get (own := "FormulaSetter$Line") (ref := "FormulaSetter$Nucleus") (C := "FormulaSetter$Nucleus") (T := T_Nu) (N := 15) (v := .ref (x + 4 + q)) hx hb hT i_Nu hown hK hP (mkR_nu (hi)) rfl 14 (by decide) (hT _ w80) (fun _ h9 => h9) (by show some (va_rf (((sT R0 i 6 (some 0)) i 14).map (fun z => x + 4 + z))) = _; rw [f11]; rfl) (fh_d d_Li_settleAtoms 47 rfl) ?_
            refine lv_astore_n (lv' := [(2, .ref (x + 4 + q)), (0, .ref (x + 65 + j))]) hx hb (fh_d d_Li_settleAtoms 48 rfl) rfl hl (by decide) rfl (fun ls hl => ?_)
            refine lv_goto (tgt := 57) hx hb (fh_d d_Li_settleAtoms 49 rfl) rfl ?_
            have e9 : st2 R0 (i :: (q :: t)) = st2 (sT R0 i 6 (some 0)) (q :: t) := by
              show st2 (if R0 i 6 = some 2 ∧ ¬ s2v R0 (some q) = 0 then sT R0 i 6 (some 0) else R0) _ = _
              rw [if_pos ⟨by rw [fa, hAd.2.1 _ _ ha8 (by decide) (Option.some.inj c8)], (by show ¬ (R0 q 6).elim 0 aF = 0; rw [fe]; exact c10)⟩]
            exact ih (sT R0 i 6 (some 0)) (fun z hz => hmem z (List.mem_cons_of_mem _ hz)) hnt.2 (sT_6 hcol) (sT_a hok) (e9.symm.trans hst) H _ _ hP hS hl
  have pass1 : ∀ (t : List Nat) (bf : Option Nat) (R0 : Nat → Nat → Option Nat), (∀ q, bf = some q → q ∈ its) → (∀ i ∈ t, i ∈ its) → nxL R t → (∀ q c, c ≠ 6 → R0 q c = R q c) → (∀ i ∈ its, ∃ a, a < 8 ∧ R0 i 6 = some a) → st1 R0 bf t = st1 R none its → ∀ (H : Heap) (locs : List Loc) (ls : Array Slot), fh_P D fh_cl b (mkR x kA aA g nc lc tx len at_ C R0 CL RL) n H → va_S (fh_A b) s.heap H locs → lv_has ls 3 [(2, va_rf (t.head?.map (fun z => x + 4 + z))), (1, va_rf (bf.map (fun z => x + 4 + z))), (0, .ref (x + 65 + j))] → W p l e (fh_rm r 0 0) s m args below meth c H locs 0 0 (MQ below (fh_Post D fh_cl b (fun v h' n' => v = none ∧ h' = mkR x kA aA g nc lc tx len at_ C (st2 (st1 R none its) its) CL RL ∧ n' = n)) args s 0 0 (fh_A b)) (F0 m 7 ls []) := by
    intro t
    induction t with
    | nil =>
      intro bf R0 hbf hmem hnt hcol hok hst H locs ls hP hS hl
      have hl : lv_has ls 3 [(2, .null), (0, .ref (x + 65 + j))] := lv_sub hl [0, 2] rfl
      refine lv_aload_nN hx hb (fh_d d_Li_settleAtoms 5 rfl) rfl (lv_at hl 0 rfl) ?_
      refine lv_ifnullN (tgt := 52) hx hb (fh_d d_Li_settleAtoms 6 rfl) rfl ?_
      refine lv_aload_n hx hb (fh_d d_Li_settleAtoms 26 rfl) rfl (lv_at hl 1 rfl) ?_
      refine fh_get (own := "FormulaSetter$Line") (ref := "FormulaSetter$Line") (C := "FormulaSetter$Line") (T := T_Li) (N := 9) (v := va_rf ((its.head?).map (fun z => x + 4 + z))) hx hb hT i_Li hown hK hP (mkR_li (hj)) rfl 5 (by decide) (hT _ w153) (fun _ h9 => h9) (by show some (va_rf ((RL j 5).map (fun z => x + 4 + z))) = _; rw [hfi]) (fh_d d_Li_settleAtoms 27 rfl) ?_
      refine fq_astore_n (lv' := [(2, va_rf ((its.head?).map (fun z => x + 4 + z))), (0, .ref (x + 65 + j))]) hx hb (fh_d d_Li_settleAtoms 28 rfl) rfl hl (by decide) rfl (fun ls hl => ?_)
      exact pass2 its R0 (fun z hz => hz) hnx hcol hok (by rw [← hst]; rfl) H _ _ hP hS hl
    | cons i t ih =>
      intro bf R0 hbf hmem hnt hcol hok hst H locs ls hP hS hl
      have him := hmem i List.mem_cons_self
      have hi := hlt i him
      obtain ⟨a, ha8, fa⟩ := hok i him
      have f14 : R0 i 14 = t.head? := (hcol i 14 (by decide)).trans hnt.1
      rcases bf with _ | q
      · have hi := hi
        have hl : lv_has ls 3 [(2, .ref (x + 4 + i)), (1, .null), (0, .ref (x + 65 + j))] := hl
        refine lv_aload_n hx hb (fh_d d_Li_settleAtoms 5 rfl) rfl (lv_at hl 0 rfl) ?_
        refine lv_ifnull hx hb (fh_d d_Li_settleAtoms 6 rfl) ?_
        refine lv_aload_n hx hb (fh_d d_Li_settleAtoms 7 rfl) rfl (lv_at hl 0 rfl) ?_
        refine fh_get (own := "FormulaSetter$Line") (ref := "FormulaSetter$Nucleus") (C := "FormulaSetter$Nucleus") (T := T_Nu) (N := 15) (v := .ref (aA a)) hx hb hT i_Nu hown hK hP (mkR_nu (hi)) rfl 6 (by decide) (hT _ w55) (fun _ h9 => h9) (by show some (va_rf ((R0 i 6).map aA)) = _; rw [fa]; rfl) (fh_d d_Li_settleAtoms 8 rfl) ?_
        refine va_gets (own := "FormulaSetter$Line") (ref := "FormulaSetter$Atom") (n := "BIN") hx hb ((hEn _ hRO).2.1 2 (by decide)).1 hS hown (hT _ w542) (fun _ h9 => h9) (fh_d d_Li_settleAtoms 9 rfl) ?_
        refine lv_acmp_ne (rx := some (aA a)) (ry := some (aA 2)) (tgt := 42) hx hb (fh_d d_Li_settleAtoms 10 rfl) rfl (fun c15 => ?_) (fun c15 => ?_)
        · refine lv_aload_n hx hb (fh_d d_Li_settleAtoms 20 rfl) rfl (lv_at hl 0 rfl) ?_
          refine lv_astore_n (lv' := [(1, .ref (x + 4 + i)), (2, .ref (x + 4 + i)), (0, .ref (x + 65 + j))]) hx hb (fh_d d_Li_settleAtoms 21 rfl) rfl hl (by decide) rfl (fun ls hl => ?_)
          refine lv_aload_n hx hb (fh_d d_Li_settleAtoms 22 rfl) rfl (lv_at hl 1 rfl) ?_
          refine fh_get (own := "FormulaSetter$Line") (ref := "FormulaSetter$Nucleus") (C := "FormulaSetter$Nucleus") (T := T_Nu) (N := 15) (v := va_rf ((t.head?).map (fun z => x + 4 + z))) hx hb hT i_Nu hown hK hP (mkR_nu (hi)) rfl 14 (by decide) (hT _ w80) (fun _ h9 => h9) (by show some (va_rf ((R0 i 14).map (fun z => x + 4 + z))) = _; rw [f14]) (fh_d d_Li_settleAtoms 23 rfl) ?_
          refine fq_astore_n (lv' := [(2, va_rf ((t.head?).map (fun z => x + 4 + z))), (1, .ref (x + 4 + i)), (0, .ref (x + 65 + j))]) hx hb (fh_d d_Li_settleAtoms 24 rfl) rfl hl (by decide) rfl (fun ls hl => ?_)
          refine lv_goto (tgt := 7) hx hb (fh_d d_Li_settleAtoms 25 rfl) rfl ?_
          have e9 : st1 R0 none (i :: t) = st1 (R0) (some i) t := by
            show st1 (if R0 i 6 = some 2 ∧ ¬ s1v R0 none = 0 then sT R0 i 6 (some 0) else R0) _ _ = _
            rw [if_neg (fun z => c15 (by rw [Option.some.inj (fa.symm.trans z.1)]))]
          exact ih (some i) (R0) (fun z hz => Option.some.inj hz ▸ him) (fun z hz => hmem z (List.mem_cons_of_mem _ hz)) hnt.2 (hcol) (hok) (e9.symm.trans hst) H _ _ hP hS hl
        · refine lv_aload_nN hx hb (fh_d d_Li_settleAtoms 11 rfl) rfl (lv_at hl 1 rfl) ?_
          refine lv_ifnullN (tgt := 35) hx hb (fh_d d_Li_settleAtoms 12 rfl) rfl ?_
          refine lv_aload_n hx hb (fh_d d_Li_settleAtoms 17 rfl) rfl (lv_at hl 0 rfl) ?_
          refine va_gets (own := "FormulaSetter$Line") (ref := "FormulaSetter$Atom") (n := "ORD") hx hb ((hEn _ hRO).2.1 0 (by decide)).1 hS hown (hT _ w543) (fun _ h9 => h9) (fh_d d_Li_settleAtoms 18 rfl) ?_
          refine fh_put (own := "FormulaSetter$Line") (ref := "FormulaSetter$Nucleus") (C := "FormulaSetter$Nucleus") (T := T_Nu) (N := 15) (v := .ref (aA 0)) (ty := (.object "FormulaSetter$Atom")) hx hb hT i_Nu t_Nu k_Nu n_Nu hown hK hP hS (mkR_nu (hi)) rfl 6 (by decide) (hT _ w55) (fun _ h9 => h9) rfl (by decide +kernel) rfl rfl (Nat.le_of_ble_eq_true rfl) (fh_d d_Li_settleAtoms 19 rfl) (fun H locs hP hS => ?_)
          replace hP := fh_P.eq (h' := mkR x kA aA g nc lc tx len at_ C (sT R0 i 6 (some 0)) CL RL) hP (mkR_nu6 (v := some 0) (hi))
          have f17 : (sT R0 i 6 (some 0)) i 14 = t.head? := (sT_ne (by omega)).trans f14
          have f18 : (sT R0 i 6 (some 0)) i 6 = some 0 := sT_same
          refine lv_aload_n hx hb (fh_d d_Li_settleAtoms 20 rfl) rfl (lv_at hl 0 rfl) ?_
          refine lv_astore_n (lv' := [(1, .ref (x + 4 + i)), (2, .ref (x + 4 + i)), (0, .ref (x + 65 + j))]) hx hb (fh_d d_Li_settleAtoms 21 rfl) rfl hl (by decide) rfl (fun ls hl => ?_)
          refine lv_aload_n hx hb (fh_d d_Li_settleAtoms 22 rfl) rfl (lv_at hl 1 rfl) ?_
          refine fh_get (own := "FormulaSetter$Line") (ref := "FormulaSetter$Nucleus") (C := "FormulaSetter$Nucleus") (T := T_Nu) (N := 15) (v := va_rf ((t.head?).map (fun z => x + 4 + z))) hx hb hT i_Nu hown hK hP (mkR_nu (hi)) rfl 14 (by decide) (hT _ w80) (fun _ h9 => h9) (by show some (va_rf (((sT R0 i 6 (some 0)) i 14).map (fun z => x + 4 + z))) = _; rw [f17]) (fh_d d_Li_settleAtoms 23 rfl) ?_
          refine fq_astore_n (lv' := [(2, va_rf ((t.head?).map (fun z => x + 4 + z))), (1, .ref (x + 4 + i)), (0, .ref (x + 65 + j))]) hx hb (fh_d d_Li_settleAtoms 24 rfl) rfl hl (by decide) rfl (fun ls hl => ?_)
          refine lv_goto (tgt := 7) hx hb (fh_d d_Li_settleAtoms 25 rfl) rfl ?_
          have e9 : st1 R0 none (i :: t) = st1 (sT R0 i 6 (some 0)) (some i) t := by
            show st1 (if R0 i 6 = some 2 ∧ ¬ s1v R0 none = 0 then sT R0 i 6 (some 0) else R0) _ _ = _
            rw [if_pos ⟨by rw [fa, hAd.2.1 _ _ ha8 (by decide) (Option.some.inj c15)], (show ¬ (1 : Int32) = 0 by decide)⟩]
          exact ih (some i) (sT R0 i 6 (some 0)) (fun z hz => Option.some.inj hz ▸ him) (fun z hz => hmem z (List.mem_cons_of_mem _ hz)) hnt.2 (sT_6 hcol) (sT_a hok) (e9.symm.trans hst) H _ _ hP hS hl
      · have hi := hi
        have hqm := hbf q rfl
        have hq := hlt q hqm
        obtain ⟨e0, he8, fe⟩ := hok q hqm
        have hl : lv_has ls 3 [(2, .ref (x + 4 + i)), (1, .ref (x + 4 + q)), (0, .ref (x + 65 + j))] := hl
        refine lv_aload_n hx hb (fh_d d_Li_settleAtoms 5 rfl) rfl (lv_at hl 0 rfl) ?_
        refine lv_ifnull hx hb (fh_d d_Li_settleAtoms 6 rfl) ?_
        refine lv_aload_n hx hb (fh_d d_Li_settleAtoms 7 rfl) rfl (lv_at hl 0 rfl) ?_
        refine fh_get (own := "FormulaSetter$Line") (ref := "FormulaSetter$Nucleus") (C := "FormulaSetter$Nucleus") (T := T_Nu) (N := 15) (v := .ref (aA a)) hx hb hT i_Nu hown hK hP (mkR_nu (hi)) rfl 6 (by decide) (hT _ w55) (fun _ h9 => h9) (by show some (va_rf ((R0 i 6).map aA)) = _; rw [fa]; rfl) (fh_d d_Li_settleAtoms 8 rfl) ?_
        refine va_gets (own := "FormulaSetter$Line") (ref := "FormulaSetter$Atom") (n := "BIN") hx hb ((hEn _ hRO).2.1 2 (by decide)).1 hS hown (hT _ w542) (fun _ h9 => h9) (fh_d d_Li_settleAtoms 9 rfl) ?_
        refine lv_acmp_ne (rx := some (aA a)) (ry := some (aA 2)) (tgt := 42) hx hb (fh_d d_Li_settleAtoms 10 rfl) rfl (fun c20 => ?_) (fun c20 => ?_)
        · refine lv_aload_n hx hb (fh_d d_Li_settleAtoms 20 rfl) rfl (lv_at hl 0 rfl) ?_
          refine lv_astore_n (lv' := [(1, .ref (x + 4 + i)), (2, .ref (x + 4 + i)), (0, .ref (x + 65 + j))]) hx hb (fh_d d_Li_settleAtoms 21 rfl) rfl hl (by decide) rfl (fun ls hl => ?_)
          refine lv_aload_n hx hb (fh_d d_Li_settleAtoms 22 rfl) rfl (lv_at hl 1 rfl) ?_
          refine fh_get (own := "FormulaSetter$Line") (ref := "FormulaSetter$Nucleus") (C := "FormulaSetter$Nucleus") (T := T_Nu) (N := 15) (v := va_rf ((t.head?).map (fun z => x + 4 + z))) hx hb hT i_Nu hown hK hP (mkR_nu (hi)) rfl 14 (by decide) (hT _ w80) (fun _ h9 => h9) (by show some (va_rf ((R0 i 14).map (fun z => x + 4 + z))) = _; rw [f14]) (fh_d d_Li_settleAtoms 23 rfl) ?_
          refine fq_astore_n (lv' := [(2, va_rf ((t.head?).map (fun z => x + 4 + z))), (1, .ref (x + 4 + i)), (0, .ref (x + 65 + j))]) hx hb (fh_d d_Li_settleAtoms 24 rfl) rfl hl (by decide) rfl (fun ls hl => ?_)
          refine lv_goto (tgt := 7) hx hb (fh_d d_Li_settleAtoms 25 rfl) rfl ?_
          have e9 : st1 R0 (some q) (i :: t) = st1 (R0) (some i) t := by
            show st1 (if R0 i 6 = some 2 ∧ ¬ s1v R0 (some q) = 0 then sT R0 i 6 (some 0) else R0) _ _ = _
            rw [if_neg (fun z => c20 (by rw [Option.some.inj (fa.symm.trans z.1)]))]
          exact ih (some i) (R0) (fun z hz => Option.some.inj hz ▸ him) (fun z hz => hmem z (List.mem_cons_of_mem _ hz)) hnt.2 (hcol) (hok) (e9.symm.trans hst) H _ _ hP hS hl
        · refine lv_aload_n hx hb (fh_d d_Li_settleAtoms 11 rfl) rfl (lv_at hl 1 rfl) ?_
          refine lv_ifnull hx hb (fh_d d_Li_settleAtoms 12 rfl) ?_
          refine lv_aload_n hx hb (fh_d d_Li_settleAtoms 13 rfl) rfl (lv_at hl 1 rfl) ?_
          refine fh_get (own := "FormulaSetter$Line") (ref := "FormulaSetter$Nucleus") (C := "FormulaSetter$Nucleus") (T := T_Nu) (N := 15) (v := .ref (aA e0)) hx hb hT i_Nu hown hK hP (mkR_nu (hq)) rfl 6 (by decide) (hT _ w55) (fun _ h9 => h9) (by show some (va_rf ((R0 q 6).map aA)) = _; rw [fe]; rfl) (fh_d d_Li_settleAtoms 14 rfl) ?_
          refine vk_getf (own := "FormulaSetter$Line") (ref := "FormulaSetter$Atom") hx hb (((hEn _ hRO).2.1 e0 he8).2.2.2.2.2.1) hS hown (hT _ w1247) (fun _ h9 => h9) (fh_d d_Li_settleAtoms 15 rfl) ?_
          refine lv_if_eq (tgt := 42) hx hb (fh_d d_Li_settleAtoms 16 rfl) rfl (fun c22 => ?_) (fun c22 => ?_)
          · refine lv_aload_n hx hb (fh_d d_Li_settleAtoms 20 rfl) rfl (lv_at hl 0 rfl) ?_
            refine lv_astore_n (lv' := [(1, .ref (x + 4 + i)), (2, .ref (x + 4 + i)), (0, .ref (x + 65 + j))]) hx hb (fh_d d_Li_settleAtoms 21 rfl) rfl hl (by decide) rfl (fun ls hl => ?_)
            refine lv_aload_n hx hb (fh_d d_Li_settleAtoms 22 rfl) rfl (lv_at hl 1 rfl) ?_
            refine fh_get (own := "FormulaSetter$Line") (ref := "FormulaSetter$Nucleus") (C := "FormulaSetter$Nucleus") (T := T_Nu) (N := 15) (v := va_rf ((t.head?).map (fun z => x + 4 + z))) hx hb hT i_Nu hown hK hP (mkR_nu (hi)) rfl 14 (by decide) (hT _ w80) (fun _ h9 => h9) (by show some (va_rf ((R0 i 14).map (fun z => x + 4 + z))) = _; rw [f14]) (fh_d d_Li_settleAtoms 23 rfl) ?_
            refine fq_astore_n (lv' := [(2, va_rf ((t.head?).map (fun z => x + 4 + z))), (1, .ref (x + 4 + i)), (0, .ref (x + 65 + j))]) hx hb (fh_d d_Li_settleAtoms 24 rfl) rfl hl (by decide) rfl (fun ls hl => ?_)
            refine lv_goto (tgt := 7) hx hb (fh_d d_Li_settleAtoms 25 rfl) rfl ?_
            have e9 : st1 R0 (some q) (i :: t) = st1 (R0) (some i) t := by
              show st1 (if R0 i 6 = some 2 ∧ ¬ s1v R0 (some q) = 0 then sT R0 i 6 (some 0) else R0) _ _ = _
              rw [if_neg (fun z => z.2 (by show (R0 q 6).elim 0 aB = 0; rw [fe]; exact c22))]
            exact ih (some i) (R0) (fun z hz => Option.some.inj hz ▸ him) (fun z hz => hmem z (List.mem_cons_of_mem _ hz)) hnt.2 (hcol) (hok) (e9.symm.trans hst) H _ _ hP hS hl
          · refine lv_aload_n hx hb (fh_d d_Li_settleAtoms 17 rfl) rfl (lv_at hl 0 rfl) ?_
            refine va_gets (own := "FormulaSetter$Line") (ref := "FormulaSetter$Atom") (n := "ORD") hx hb ((hEn _ hRO).2.1 0 (by decide)).1 hS hown (hT _ w543) (fun _ h9 => h9) (fh_d d_Li_settleAtoms 18 rfl) ?_
            refine fh_put (own := "FormulaSetter$Line") (ref := "FormulaSetter$Nucleus") (C := "FormulaSetter$Nucleus") (T := T_Nu) (N := 15) (v := .ref (aA 0)) (ty := (.object "FormulaSetter$Atom")) hx hb hT i_Nu t_Nu k_Nu n_Nu hown hK hP hS (mkR_nu (hi)) rfl 6 (by decide) (hT _ w55) (fun _ h9 => h9) rfl (by decide +kernel) rfl rfl (Nat.le_of_ble_eq_true rfl) (fh_d d_Li_settleAtoms 19 rfl) (fun H locs hP hS => ?_)
            replace hP := fh_P.eq (h' := mkR x kA aA g nc lc tx len at_ C (sT R0 i 6 (some 0)) CL RL) hP (mkR_nu6 (v := some 0) (hi))
            have f23 : (sT R0 i 6 (some 0)) i 14 = t.head? := (sT_ne (by omega)).trans f14
            have f24 : (sT R0 i 6 (some 0)) i 6 = some 0 := sT_same
            refine lv_aload_n hx hb (fh_d d_Li_settleAtoms 20 rfl) rfl (lv_at hl 0 rfl) ?_
            refine lv_astore_n (lv' := [(1, .ref (x + 4 + i)), (2, .ref (x + 4 + i)), (0, .ref (x + 65 + j))]) hx hb (fh_d d_Li_settleAtoms 21 rfl) rfl hl (by decide) rfl (fun ls hl => ?_)
            refine lv_aload_n hx hb (fh_d d_Li_settleAtoms 22 rfl) rfl (lv_at hl 1 rfl) ?_
            refine fh_get (own := "FormulaSetter$Line") (ref := "FormulaSetter$Nucleus") (C := "FormulaSetter$Nucleus") (T := T_Nu) (N := 15) (v := va_rf ((t.head?).map (fun z => x + 4 + z))) hx hb hT i_Nu hown hK hP (mkR_nu (hi)) rfl 14 (by decide) (hT _ w80) (fun _ h9 => h9) (by show some (va_rf (((sT R0 i 6 (some 0)) i 14).map (fun z => x + 4 + z))) = _; rw [f23]) (fh_d d_Li_settleAtoms 23 rfl) ?_
            refine fq_astore_n (lv' := [(2, va_rf ((t.head?).map (fun z => x + 4 + z))), (1, .ref (x + 4 + i)), (0, .ref (x + 65 + j))]) hx hb (fh_d d_Li_settleAtoms 24 rfl) rfl hl (by decide) rfl (fun ls hl => ?_)
            refine lv_goto (tgt := 7) hx hb (fh_d d_Li_settleAtoms 25 rfl) rfl ?_
            have e9 : st1 R0 (some q) (i :: t) = st1 (sT R0 i 6 (some 0)) (some i) t := by
              show st1 (if R0 i 6 = some 2 ∧ ¬ s1v R0 (some q) = 0 then sT R0 i 6 (some 0) else R0) _ _ = _
              rw [if_pos ⟨by rw [fa, hAd.2.1 _ _ ha8 (by decide) (Option.some.inj c20)], (by show ¬ (R0 q 6).elim 0 aB = 0; rw [fe]; exact c22)⟩]
            exact ih (some i) (sT R0 i 6 (some 0)) (fun z hz => Option.some.inj hz ▸ him) (fun z hz => hmem z (List.mem_cons_of_mem _ hz)) hnt.2 (sT_6 hcol) (sT_a hok) (e9.symm.trans hst) H _ _ hP hS hl
  refine lv_null hx hb (fh_d d_Li_settleAtoms 0 rfl) ?_
  refine lv_astore_nN (lv' := [(1, .null), (0, .ref (x + 65 + j))]) hx hb (fh_d d_Li_settleAtoms 1 rfl) rfl hl (by decide) rfl (fun ls hl => ?_)
  refine lv_aload_n hx hb (fh_d d_Li_settleAtoms 2 rfl) rfl (lv_at hl 1 rfl) ?_
  refine fh_get (own := "FormulaSetter$Line") (ref := "FormulaSetter$Line") (C := "FormulaSetter$Line") (T := T_Li) (N := 9) (v := va_rf ((its.head?).map (fun z => x + 4 + z))) hx hb hT i_Li hown hK hP (mkR_li (hj)) rfl 5 (by decide) (hT _ w153) (fun _ h9 => h9) (by show some (va_rf ((RL j 5).map (fun z => x + 4 + z))) = _; rw [hfi]) (fh_d d_Li_settleAtoms 3 rfl) ?_
  refine fq_astore_n (lv' := [(2, va_rf ((its.head?).map (fun z => x + 4 + z))), (1, .null), (0, .ref (x + 65 + j))]) hx hb (fh_d d_Li_settleAtoms 4 rfl) rfl hl (by decide) rfl (fun ls hl => ?_)
  exact pass1 its none R (fun q hq => absurd hq (by simp)) (fun z hz => hz) hnx (fun _ _ _ => rfl) hat rfl H _ _ hP hS hl
