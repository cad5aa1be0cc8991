/-! The reference: set. Printed by wip/whole/gen/p98f.py -/
abbrev okm (v : Int32) (m : Nat) : Prop := v = nI (ixI v) ∧ ixI v < m
def chR (f : Nat → Int32) : Nat → Int32 → List Nat
  | 0, _ => []
  | k + 1, v => if v = 0 then [] else ixI v :: chR f k (f (ixI v))
abbrev chN (A : Nat → Nat → Int32) (n : Nat) : List Nat := chR (A 7) 400 (A 6 n)
def rf_hdN (A : Nat → Nat → Int32) (n : Nat) : Nat → Nat → Int32 := rf_hd A n (ixI (A 20 n)) (ixI (A 12 n)) (ixI (A 13 n)) (ixI (A 10 n)) (ixI (A 11 n)) (chN A n)
def okH (A : Nat → Nat → Int32) (n : Nat) : Prop := okm (A 20 n) 4 ∧ (A 21 n = 0 ∨ A 21 n = 1) ∧ okm (A 12 n) 400 ∧ okm (A 13 n) 400 ∧ okm (A 10 n) 400 ∧ okm (A 11 n) 400 ∧ A 6 n = nI (hdz (chN A n)) ∧ nxA (A 7) (chN A n)
def hdF (A : Nat → Nat → Int32) : Nat → Nat → Nat → Int32
  | 0 => A
  | k + 1 => rf_hdN (hdF A k) k
/-- how many columns from c on are there -/
def cwc (f : Nat → Int32) : Nat → Nat → Nat
  | 0, c => c
  | k + 1, c => if f c < 0 then c else cwc f k (c + 1)
theorem cwc_ok (f : Nat → Int32) : ∀ k c, (∀ j, j < c → ¬ f j < 0) → cwc f k c ≤ c + k ∧ (∀ j, j < cwc f k c → ¬ f j < 0) ∧ (cwc f k c = c + k ∨ f (cwc f k c) < 0)
  | 0, c, h => ⟨Nat.le_refl _, h, Or.inl rfl⟩
  | k + 1, c, h => by
    unfold cwc
    by_cases e : f c < 0
    · rw [if_pos e]; exact ⟨by omega, h, Or.inr e⟩
    · rw [if_neg e]
      obtain ⟨h1, h2, h3⟩ := cwc_ok f k (c + 1) (fun j hj => by
        by_cases q : j = c
        · rw [q]; exact e
        · exact h j (by omega))
      exact ⟨by omega, h2, h3.imp (fun z => by omega) id⟩
abbrev cwN (A : Nat → Nat → Int32) (n : Nat) : Nat := cwc ((mP A (ixI (A 20 n)) (chN A n)).1 36) 8 0
def rf_meN (A : Nat → Nat → Int32) (n : Nat) : Nat → Nat → Int32 := rf_me A n (ixI (A 20 n)) (ixI (A 12 n)) (ixI (A 13 n)) (ixI (A 10 n)) (ixI (A 11 n)) (cwN A n) (chN A n)
def okMN (A : Nat → Nat → Int32) (n : Nat) : Prop := okM A n (ixI (A 20 n)) (ixI (A 12 n)) (ixI (A 13 n)) (ixI (A 10 n)) (ixI (A 11 n)) (cwN A n) (chN A n)
def meF (N : Nat) (A : Nat → Nat → Int32) : Nat → Nat → Nat → Int32
  | 0 => A
  | j + 1 => rf_meN (meF N A j) (N - 1 - j)
def xyD (A : Nat → Nat → Int32) (n o : Nat) : Int32 := if ¬ A 15 n = 0 ∨ A 1 o = 0 then 0 else A 28 o
def xyS (A : Nat → Nat → Int32) (n o : Nat) (z : Int32) : Nat → Nat → Int32 := up2 (up2 A 31 (upd (A 31) n ((A 31 o + A 29 n) + z))) 32 (upd (A 32) n (A 32 o + A 30 n))
def xyF (A : Nat → Nat → Int32) : Nat → Nat → Nat → Int32
  | 0 => A
  | q + 1 => xyS (xyF A q) (q + 1) (ixI (xyF A q 14 (q + 1))) (xyD (xyF A q) (q + 1) (ixI (xyF A q 14 (q + 1))))
def wkN (z : (Nat → Nat → Int32) × Nat × Nat) : (Nat → Nat → Int32) × Nat × Nat := rf_wk z.1 (z.2.1 - 1) (ixI (z.1 17 (z.2.1 - 1))) (ixI (z.1 20 (ixI (z.1 17 (z.2.1 - 1))))) (ixI (z.1 39 (z.2.1 - 1))) (ixI (z.1 40 (z.2.1 - 1))) (ixI (z.1 6 (ixI (z.1 17 (z.2.1 - 1))))) (ixI (z.1 7 (ixI (z.1 40 (z.2.1 - 1))))) (ixI (z.1 10 (ixI (z.1 17 (z.2.1 - 1))))) (ixI (z.1 11 (ixI (z.1 17 (z.2.1 - 1))))) (ixI (z.1 12 (ixI (z.1 17 (z.2.1 - 1))))) (ixI (z.1 13 (ixI (z.1 17 (z.2.1 - 1))))) z.2.2
def okW (z : (Nat → Nat → Int32) × Nat × Nat) : Prop := (0 < z.2.1 ∧ z.2.1 < 40 ∧ z.2.2 < 240) ∧ okm (z.1 17 (z.2.1 - 1)) 400 ∧ okm (z.1 39 (z.2.1 - 1)) 5 ∧ okm (z.1 40 (z.2.1 - 1)) 400 ∧ okm (z.1 20 (ixI (z.1 17 (z.2.1 - 1)))) 4 ∧ okm (z.1 6 (ixI (z.1 17 (z.2.1 - 1)))) 400 ∧ okm (z.1 7 (ixI (z.1 40 (z.2.1 - 1)))) 400 ∧ okm (z.1 10 (ixI (z.1 17 (z.2.1 - 1)))) 400 ∧ okm (z.1 11 (ixI (z.1 17 (z.2.1 - 1)))) 400 ∧ okm (z.1 12 (ixI (z.1 17 (z.2.1 - 1)))) 400 ∧ okm (z.1 13 (ixI (z.1 17 (z.2.1 - 1)))) 400
def wkI : Nat → (Nat → Nat → Int32) × Nat × Nat → (Nat → Nat → Int32) × Nat × Nat
  | 0, z => z
  | k + 1, z => wkI k (wkN z)
def rf_a1 (B : Nat → Nat → Int32) (s0 : Nat) : Nat → Nat → Int32 := up2 (up2 B 20 (upd (B 20) 0 (nI s0))) 21 (upd (B 21) 0 0)
def rf_a2 (B : Nat → Nat → Int32) (N s0 : Nat) : Nat → Nat → Int32 := meF N (hdF (rf_a1 B s0) N) N
def rf_x0 (A : Nat → Nat → Int32) : Nat → Nat → Int32 := up2 (up2 A 31 (upd (A 31) 0 0)) 32 (upd (A 32) 0 0)
def rf_a3 (B : Nat → Nat → Int32) (N s0 : Nat) : Nat → Nat → Int32 := xyF (rf_x0 (rf_a2 B N s0)) (N - 1)
theorem xyF_k {A : Nat → Nat → Int32} {k : Nat} (h : k < 31) : ∀ q, xyF A q k = A k
  | 0 => rfl
  | q + 1 => by
    refine Eq.trans ?_ (xyF_k h q)
    show xyS _ _ _ _ k = _
    unfold xyS up2; rw [if_neg (by omega), if_neg (by omega)]
set_option maxHeartbeats 4000000 in
set_option maxRecDepth 100000 in
theorem m_Mo_set (l : Launch) (D : va_G) (ct : Nat → ClassId) (b : Nat) (RO : State → Prop) (hR : fh_R b RO) (r : Nat) (hr : 6 ≤ r) (n x : Nat) (g : fh_H) (A : Nat → Nat → Int32) (th at_ wr no nu op pi wi he de : Int32) (L : Nat) (hL : L ≤ 160) (s0 : Nat) (hs0 : s0 < 4) (B : Nat → Nat → Int32) (aV : Nat) (wV : Int32) (N uV oV : Nat) (hrd : rz_read A L = (B, aV, wV, N, uV, oV)) (hok : rz_ok (rz_read A L)) (hN1 : 1 ≤ N) (hN4 : N ≤ 400) (hH : ∀ k, k < N → okH (hdF (rf_a1 B s0) k) k) (hMm : ∀ j, j < N → okMN (meF N (hdF (rf_a1 B s0) N) j) (N - 1 - j)) (how : ∀ q, q < N → okm (rf_a2 B N s0 14 q) 400) (K : Nat) (hK1 : ∀ j, j < K → okW (wkI j (rf_ent (rf_a3 B N s0) 0 0, 1, 0))) (hK2 : (wkI K (rf_ent (rf_a3 B N s0) 0 0, 1, 0)).2.1 = 0) : fh_C l D fh_cl (fh_tys ct) b RO y_Mo_set (Cond.code y_Mo_set c_Mo_set 4 (Option.some FieldType.int) :: fh_T) (fh_rm r 0 0) [.ref x, .int (nI s0)] (mkM ct x g A th (nI L) at_ wr no nu op pi wi he de) n (fun v h' n' => v = some (.int (nI (wkI K (rf_ent (rf_a3 B N s0) 0 0, 1, 0)).2.2)) ∧ h' = mkM ct x g ((wkI K (rf_ent (rf_a3 B N s0) 0 0, 1, 0)).1) 0 (nI L) (nI aV) wV (nI N) (nI uV) (nI 0) (nI (wkI K (rf_ent (rf_a3 B N s0) 0 0, 1, 0)).2.2) (rf_a3 B N s0 22 0) (rf_a3 B N s0 23 0) (rf_a3 B N s0 24 0) ∧ n' = n) 0 0 := by
  refine fh_enter (by decide) (Nat.le_of_ble_eq_true rfl) [(0, .ref x), (1, .int (nI s0))] rfl ?_
  intro p e s m args below meth c H ls X hP hS hl
  have hx := X.1
  have hb := X.2.1
  have hml := X.2.2.1
  have hown : s.vm.findClass "FormulaSetterModel" = some m.cls := X.2.2.2.1
  have hT := X.2.2.2.2.1
  have hK := X.2.2.2.2.2.1
  have hRO := X.2.2.2.2.2.2.1
  have hnm : meth.name = "set" := X.2.2.2.2.2.2.2.2.2.2
  have LW : ∀ (t : Nat) (z : (Nat → Nat → Int32) × Nat × Nat), (∀ j, j < t → okW (wkI j z)) → wkI t z = wkI K (rf_ent (rf_a3 B N s0) 0 0, 1, 0) → ∀ (H : Heap) (locs : List Loc) (ls : Array Slot), fh_P D fh_cl b (mkM ct x g z.1 0 (nI L) (nI aV) wV (nI N) (nI uV) (nI z.2.1) (nI z.2.2) (rf_a3 B N s0 22 0) (rf_a3 B N s0 23 0) (rf_a3 B N s0 24 0)) n H → va_S (fh_A b) s.heap H locs → lv_has ls 4 [(0, .ref x), (1, .int (nI s0))] → W p l e (fh_rm r 0 0) s m args below meth c H locs 0 0 (MQ below (fh_Post D fh_cl b (fun v h' n' => v = some (.int (nI (wkI K (rf_ent (rf_a3 B N s0) 0 0, 1, 0)).2.2)) ∧ h' = mkM ct x g ((wkI K (rf_ent (rf_a3 B N s0) 0 0, 1, 0)).1) 0 (nI L) (nI aV) wV (nI N) (nI uV) (nI 0) (nI (wkI K (rf_ent (rf_a3 B N s0) 0 0, 1, 0)).2.2) (rf_a3 B N s0 22 0) (rf_a3 B N s0 23 0) (rf_a3 B N s0 24 0) ∧ n' = n)) args s 0 0 (fh_A b)) (F0 m 234 ls []) := by
    intro t
    induction t with
    | zero =>
      intro z hz9 hfo H locs ls hP hS hl
      have hfo : z = wkI K (rf_ent (rf_a3 B N s0) 0 0, 1, 0) := hfo
      have h0 : z.2.1 = 0 := by rw [hfo]; exact hK2
      rw [h0] at hP
      have hl : lv_has ls 4 [(0, .ref x), (1, .int (nI s0))] := hl
      refine lv_aload_n hx hb (fh_d d_Mo_set 142 rfl) rfl (lv_at hl 0 rfl) ?_
      refine fh_get (own := "FormulaSetterModel") (ref := "FormulaSetterModel") (C := "FormulaSetterModel") (T := T_Mo) (N := 53) (v := .int (nI 0)) hx hb hT i_Mo hown hK hP mkM_o rfl 22 (by decide) (hT _ w882) (fun _ h9 => h9) rfl (fh_d d_Mo_set 143 rfl) ?_
      refine lv_if_le (tgt := 248) hx hb (fh_d d_Mo_set 144 rfl) rfl (fun c1 => ?_) (fun c1 => absurd c1 (fun y => y (by decide)))
      refine lv_aload_n hx hb (fh_d d_Mo_set 148 rfl) rfl (lv_at hl 0 rfl) ?_
      refine fh_get (own := "FormulaSetterModel") (ref := "FormulaSetterModel") (C := "FormulaSetterModel") (T := T_Mo) (N := 53) (v := .int (nI z.2.2)) hx hb hT i_Mo hown hK hP mkM_o rfl 48 (by decide) (hT _ w908) (fun _ h9 => h9) rfl (fh_d d_Mo_set 149 rfl) ?_
      exact fh_iret X hP hS (fh_d d_Mo_set 150 rfl) ⟨by rw [← hfo], by rw [← hfo], rfl⟩
    | succ t ih =>
      rintro ⟨A9, O9, P9⟩ hz9 hfo H locs ls hP hS hl
      have hw0 := hz9 0 (by omega)
      obtain ⟨T, rfl⟩ : ∃ T, O9 = T + 1 := ⟨O9 - 1, by have := hw0.1.1; change 0 < O9 at this; omega⟩
      obtain ⟨hwa, o17, o39, o40, o20, o6, o7, o10, o11, o12, o13⟩ := hw0
      have hT4 : T + 1 < 40 := hwa.2.1
      have hP24 : P9 < 240 := hwa.2.2
      have hl : lv_has ls 4 [(0, .ref x), (1, .int (nI s0))] := hl
      refine lv_aload_n hx hb (fh_d d_Mo_set 142 rfl) rfl (lv_at hl 0 rfl) ?_
      refine fh_get (own := "FormulaSetterModel") (ref := "FormulaSetterModel") (C := "FormulaSetterModel") (T := T_Mo) (N := 53) (v := .int (nI (T + 1))) hx hb hT i_Mo hown hK hP mkM_o rfl 22 (by decide) (hT _ w882) (fun _ h9 => h9) rfl (fh_d d_Mo_set 143 rfl) ?_
      refine lv_if_le (tgt := 248) hx hb (fh_d d_Mo_set 144 rfl) rfl (fun c2 => absurd c2 (fun y => absurd ((nI_leI (a := T + 1) (b := 0) (by omega) (by decide)).mp y) (by omega))) (fun c2 => ?_)
      refine lv_aload_n hx hb (fh_d d_Mo_set 145 rfl) rfl (lv_at hl 0 rfl) ?_
      refine fh_callV (cc' := c_Mo_walk) (nL' := 5) (rest := []) (a := x) (As := []) X hR (m_Mo_walk l D ct b RO hR (r - 1) (by omega) n x g A9 0 (nI L) (nI aV) wV (nI N) (nI uV) (rf_a3 B N s0 22 0) (rf_a3 B N s0 23 0) (rf_a3 B N s0 24 0) T _ _ _ _ _ _ _ _ _ _ P9 (by omega) o17.1 o39.1 o40.1 (Nat.le_of_lt_succ o39.2) o40.2 o17.2 o20.2 o20.1 ⟨o6.2, o6.1⟩ ⟨o7.2, o7.1⟩ ⟨o10.2, o10.1⟩ ⟨o11.2, o11.1⟩ ⟨o12.2, o12.1⟩ ⟨o13.2, o13.1⟩ hP24) w1205 w1202 w1204 v59 w9 ⟨by decide, by decide, by show _ = some 0; decide +kernel⟩ (by omega) (by decide) (fh_recv hK hP mkM_o rfl) hP hS hl.1 rfl (by exact Nat.le_of_ble_eq_true rfl) (fh_d d_Mo_set 146 rfl) ⟨Nat.le_refl _, Nat.le_refl _⟩ (fun v9 h9 n9 H locs hq hP hS => ?_)
      obtain ⟨rfl, qa, qb⟩ := hq
      rw [qa, qb] at hP
      refine W.eq (g2 := F0 m 245 ls []) rfl ?_
      refine lv_goto (tgt := 234) hx hb (fh_d d_Mo_set 147 rfl) rfl ?_
      exact ih (wkN (A9, T + 1, P9)) (fun j hj => hz9 (j + 1) (by omega)) hfo H locs _ hP hS (lv_sub hl [0, 1] rfl)
  have LX : ∀ (t q : Nat), t + q = N - 1 → ∀ (H : Heap) (locs : List Loc) (ls : Array Slot), fh_P D fh_cl b (mkM ct x g (xyF (rf_x0 (rf_a2 B N s0)) q) 0 (nI L) (nI aV) wV (nI N) (nI uV) (nI oV) pi wi he de) n H → va_S (fh_A b) s.heap H locs → lv_has ls 4 [(2, .int (nI (q + 1))), (0, .ref x), (1, .int (nI s0))] → W p l e (fh_rm r 0 0) s m args below meth c H locs 0 0 (MQ below (fh_Post D fh_cl b (fun v h' n' => v = some (.int (nI (wkI K (rf_ent (rf_a3 B N s0) 0 0, 1, 0)).2.2)) ∧ h' = mkM ct x g ((wkI K (rf_ent (rf_a3 B N s0) 0 0, 1, 0)).1) 0 (nI L) (nI aV) wV (nI N) (nI uV) (nI 0) (nI (wkI K (rf_ent (rf_a3 B N s0) 0 0, 1, 0)).2.2) (rf_a3 B N s0 22 0) (rf_a3 B N s0 23 0) (rf_a3 B N s0 24 0) ∧ n' = n)) args s 0 0 (fh_A b)) (F0 m 101 ls []) := by
    intro t
    induction t with
    | zero =>
      intro q hq H locs ls hP hS hl
      obtain rfl : q = N - 1 := by omega
      replace hP : fh_P D fh_cl b (mkM ct x g (rf_a3 B N s0) 0 (nI L) (nI aV) wV (nI N) (nI uV) (nI oV) pi wi he de) n H := hP
      have hl : lv_has ls 4 [(2, .int (nI (N - 1 + 1))), (0, .ref x), (1, .int (nI s0))] := hl
      refine lv_iload_n hx hb (fh_d d_Mo_set 61 rfl) rfl (lv_at hl 0 rfl) ?_
      refine lv_aload_n hx hb (fh_d d_Mo_set 62 rfl) rfl (lv_at hl 1 rfl) ?_
      refine fh_get (own := "FormulaSetterModel") (ref := "FormulaSetterModel") (C := "FormulaSetterModel") (T := T_Mo) (N := 53) (v := .int (nI N)) hx hb hT i_Mo hown hK hP mkM_o rfl 5 (by decide) (hT _ w865) (fun _ h9 => h9) rfl (fh_d d_Mo_set 63 rfl) ?_
      refine lv_icmp_ge (tgt := 189) hx hb (fh_d d_Mo_set 64 rfl) rfl (fun c3 => ?_) (fun c3 => absurd c3 (Classical.not_not.mpr ((nI_leI (a := N) (b := N - 1 + 1) (by omega) (by omega)).mpr (by omega))))
      refine lv_aload_n hx hb (fh_d d_Mo_set 115 rfl) rfl (lv_at hl 1 rfl) ?_
      refine lv_aload_n hx hb (fh_d d_Mo_set 116 rfl) rfl (lv_at hl 1 rfl) ?_
      refine fh_get (own := "FormulaSetterModel") (ref := "FormulaSetterModel") (C := "FormulaSetterModel") (T := T_Mo) (N := 53) (v := .ref (x + 23)) hx hb hT i_Mo hown hK hP mkM_o rfl 29 (by decide) (hT _ w889) (fun _ h9 => h9) rfl (fh_d d_Mo_set 117 rfl) ?_
      refine lv_iconst (v := 0) hx hb (fh_d d_Mo_set 118 rfl) (by decide) ?_
      refine fn_iald (f := (rf_a3 B N s0) 22) (k := 0) hx hb hK hP 0 mkM_a22 rfl (rfl) (by decide) (by decide) (fh_d d_Mo_set 119 rfl) ?_
      refine fh_put (own := "FormulaSetterModel") (ref := "FormulaSetterModel") (C := "FormulaSetterModel") (T := T_Mo) (N := 53) (v := .int (((rf_a3 B N s0) 22) 0)) (ty := .int) hx hb hT i_Mo t_Mo k_Mo n_Mo hown hK hP hS mkM_o rfl 50 (by decide) (hT _ w910) (fun _ h9 => h9) rfl (by decide +kernel) rfl rfl (Nat.le_of_ble_eq_true rfl) (fh_d d_Mo_set 120 rfl) (fun H locs hP hS => ?_)
      replace hP := fh_P.eq (h' := mkM ct x g (rf_a3 B N s0) 0 (nI L) (nI aV) wV (nI N) (nI uV) (nI oV) pi (((rf_a3 B N s0) 22) 0) he de) hP mkM_ux
      refine lv_aload_n hx hb (fh_d d_Mo_set 121 rfl) rfl (lv_at hl 1 rfl) ?_
      refine lv_aload_n hx hb (fh_d d_Mo_set 122 rfl) rfl (lv_at hl 1 rfl) ?_
      refine fh_get (own := "FormulaSetterModel") (ref := "FormulaSetterModel") (C := "FormulaSetterModel") (T := T_Mo) (N := 53) (v := .ref (x + 24)) hx hb hT i_Mo hown hK hP mkM_o rfl 30 (by decide) (hT _ w890) (fun _ h9 => h9) rfl (fh_d d_Mo_set 123 rfl) ?_
      refine lv_iconst (v := 0) hx hb (fh_d d_Mo_set 124 rfl) (by decide) ?_
      refine fn_iald (f := (rf_a3 B N s0) 23) (k := 0) hx hb hK hP 0 mkM_a23 rfl (rfl) (by decide) (by decide) (fh_d d_Mo_set 125 rfl) ?_
      refine fh_put (own := "FormulaSetterModel") (ref := "FormulaSetterModel") (C := "FormulaSetterModel") (T := T_Mo) (N := 53) (v := .int (((rf_a3 B N s0) 23) 0)) (ty := .int) hx hb hT i_Mo t_Mo k_Mo n_Mo hown hK hP hS mkM_o rfl 51 (by decide) (hT _ w911) (fun _ h9 => h9) rfl (by decide +kernel) rfl rfl (Nat.le_of_ble_eq_true rfl) (fh_d d_Mo_set 126 rfl) (fun H locs hP hS => ?_)
      replace hP := fh_P.eq (h' := mkM ct x g (rf_a3 B N s0) 0 (nI L) (nI aV) wV (nI N) (nI uV) (nI oV) pi (((rf_a3 B N s0) 22) 0) (((rf_a3 B N s0) 23) 0) de) hP mkM_ux
      refine lv_aload_n hx hb (fh_d d_Mo_set 127 rfl) rfl (lv_at hl 1 rfl) ?_
      refine lv_aload_n hx hb (fh_d d_Mo_set 128 rfl) rfl (lv_at hl 1 rfl) ?_
      refine fh_get (own := "FormulaSetterModel") (ref := "FormulaSetterModel") (C := "FormulaSetterModel") (T := T_Mo) (N := 53) (v := .ref (x + 25)) hx hb hT i_Mo hown hK hP mkM_o rfl 31 (by decide) (hT _ w891) (fun _ h9 => h9) rfl (fh_d d_Mo_set 129 rfl) ?_
      refine lv_iconst (v := 0) hx hb (fh_d d_Mo_set 130 rfl) (by decide) ?_
      refine fn_iald (f := (rf_a3 B N s0) 24) (k := 0) hx hb hK hP 0 mkM_a24 rfl (rfl) (by decide) (by decide) (fh_d d_Mo_set 131 rfl) ?_
      refine fh_put (own := "FormulaSetterModel") (ref := "FormulaSetterModel") (C := "FormulaSetterModel") (T := T_Mo) (N := 53) (v := .int (((rf_a3 B N s0) 24) 0)) (ty := .int) hx hb hT i_Mo t_Mo k_Mo n_Mo hown hK hP hS mkM_o rfl 52 (by decide) (hT _ w912) (fun _ h9 => h9) rfl (by decide +kernel) rfl rfl (Nat.le_of_ble_eq_true rfl) (fh_d d_Mo_set 132 rfl) (fun H locs hP hS => ?_)
      replace hP := fh_P.eq (h' := mkM ct x g (rf_a3 B N s0) 0 (nI L) (nI aV) wV (nI N) (nI uV) (nI oV) pi (((rf_a3 B N s0) 22) 0) (((rf_a3 B N s0) 23) 0) (((rf_a3 B N s0) 24) 0)) hP mkM_ux
      refine lv_aload_n hx hb (fh_d d_Mo_set 133 rfl) rfl (lv_at hl 1 rfl) ?_
      refine lv_iconst (v := 0) hx hb (fh_d d_Mo_set 134 rfl) (by decide) ?_
      refine fh_put (own := "FormulaSetterModel") (ref := "FormulaSetterModel") (C := "FormulaSetterModel") (T := T_Mo) (N := 53) (v := .int 0) (ty := .int) hx hb hT i_Mo t_Mo k_Mo n_Mo hown hK hP hS mkM_o rfl 48 (by decide) (hT _ w908) (fun _ h9 => h9) rfl (by decide +kernel) rfl rfl (Nat.le_of_ble_eq_true rfl) (fh_d d_Mo_set 135 rfl) (fun H locs hP hS => ?_)
      replace hP := fh_P.eq (h' := mkM ct x g (rf_a3 B N s0) 0 (nI L) (nI aV) wV (nI N) (nI uV) (nI oV) 0 (((rf_a3 B N s0) 22) 0) (((rf_a3 B N s0) 23) 0) (((rf_a3 B N s0) 24) 0)) hP mkM_ux
      refine lv_aload_n hx hb (fh_d d_Mo_set 136 rfl) rfl (lv_at hl 1 rfl) ?_
      refine lv_iconst (v := 0) hx hb (fh_d d_Mo_set 137 rfl) (by decide) ?_
      refine fh_put (own := "FormulaSetterModel") (ref := "FormulaSetterModel") (C := "FormulaSetterModel") (T := T_Mo) (N := 53) (v := .int 0) (ty := .int) hx hb hT i_Mo t_Mo k_Mo n_Mo hown hK hP hS mkM_o rfl 22 (by decide) (hT _ w882) (fun _ h9 => h9) rfl (by decide +kernel) rfl rfl (Nat.le_of_ble_eq_true rfl) (fh_d d_Mo_set 138 rfl) (fun H locs hP hS => ?_)
      replace hP := fh_P.eq (h' := mkM ct x g (rf_a3 B N s0) 0 (nI L) (nI aV) wV (nI N) (nI uV) 0 0 (((rf_a3 B N s0) 22) 0) (((rf_a3 B N s0) 23) 0) (((rf_a3 B N s0) 24) 0)) hP mkM_ux
      refine lv_aload_n hx hb (fh_d d_Mo_set 139 rfl) rfl (lv_at hl 1 rfl) ?_
      refine lv_iconst (v := 0) hx hb (fh_d d_Mo_set 140 rfl) (by decide) ?_
      replace hP : fh_P D fh_cl b (mkM ct x g (rf_a3 B N s0) 0 (nI L) (nI aV) wV (nI N) (nI uV) (nI 0) (nI 0) (((rf_a3 B N s0) 22) 0) (((rf_a3 B N s0) 23) 0) (((rf_a3 B N s0) 24) 0)) n H := hP
      refine fh_callV (cc' := c_Mo_enter) (nL' := 2) (rest := []) (a := x) (As := [.int 0]) X hR (m_Mo_enter l D ct b RO (r - 1) n x g (rf_a3 B N s0) 0 (nI L) (nI aV) wV (nI N) (nI uV) (nI 0) (((rf_a3 B N s0) 22) 0) (((rf_a3 B N s0) 23) 0) (((rf_a3 B N s0) 24) 0) 0 0 (by omega)) w1201 w1198 w1200 v58 w9 ⟨by decide, by decide, by show _ = some 1; decide +kernel⟩ (by omega) (by decide) (fh_recv hK hP mkM_o rfl) hP hS hl.1 rfl (by exact Nat.le_of_ble_eq_true rfl) (fh_d d_Mo_set 141 rfl) ⟨Nat.le_refl _, Nat.le_refl _⟩ (fun v9 h9 n9 H locs hq hP hS => ?_)
      obtain ⟨rfl, u4, u5⟩ := hq
      rw [u4, u5] at hP
      refine W.eq (g2 := F0 m 234 ls []) rfl ?_
      exact LW K (rf_ent (rf_a3 B N s0) 0 0, 1, 0) hK1 rfl H _ _ hP hS (lv_sub hl [1, 2] rfl)
    | succ t ih =>
      intro q hq H locs ls hP hS hl
      obtain ⟨A9, hA9⟩ : ∃ z, z = xyF (rf_x0 (rf_a2 B N s0)) q := ⟨_, rfl⟩
      rw [← hA9] at hP
      have ho9 : okm (A9 14 (q + 1)) 400 := by rw [hA9, xyF_k (by decide)]; exact how (q + 1) (by omega)
      obtain ⟨o9, ho4, eo⟩ : ∃ z, z < 400 ∧ A9 14 (q + 1) = nI z := ⟨_, ho9.2, ho9.1⟩
      have eo2 : ixI (A9 14 (q + 1)) = o9 := by rw [eo]; exact nI_clamp (by omega)
      have hl : lv_has ls 4 [(2, .int (nI (q + 1))), (0, .ref x), (1, .int (nI s0))] := hl
      refine lv_iload_n hx hb (fh_d d_Mo_set 61 rfl) rfl (lv_at hl 0 rfl) ?_
      refine lv_aload_n hx hb (fh_d d_Mo_set 62 rfl) rfl (lv_at hl 1 rfl) ?_
      refine fh_get (own := "FormulaSetterModel") (ref := "FormulaSetterModel") (C := "FormulaSetterModel") (T := T_Mo) (N := 53) (v := .int (nI N)) hx hb hT i_Mo hown hK hP mkM_o rfl 5 (by decide) (hT _ w865) (fun _ h9 => h9) rfl (fh_d d_Mo_set 63 rfl) ?_
      refine lv_icmp_ge (tgt := 189) hx hb (fh_d d_Mo_set 64 rfl) rfl (fun c6 => absurd c6 (fun y => absurd ((nI_leI (a := N) (b := q + 1) (by omega) (by omega)).mp y) (by omega))) (fun c6 => ?_)
      refine lv_aload_n hx hb (fh_d d_Mo_set 65 rfl) rfl (lv_at hl 1 rfl) ?_
      refine fh_get (own := "FormulaSetterModel") (ref := "FormulaSetterModel") (C := "FormulaSetterModel") (T := T_Mo) (N := 53) (v := .ref (x + 15)) hx hb hT i_Mo hown hK hP mkM_o rfl 20 (by decide) (hT _ w880) (fun _ h9 => h9) rfl (fh_d d_Mo_set 66 rfl) ?_
      refine lv_iload_n hx hb (fh_d d_Mo_set 67 rfl) rfl (lv_at hl 0 rfl) ?_
      refine fn_iald (f := A9 14) (k := q + 1) hx hb hK hP 0 mkM_a14 rfl (rfl) (by omega) (by decide) (fh_d d_Mo_set 68 rfl) ?_
      rw [show ((A9 14) (q + 1)) = nI o9 from eo]
      refine lv_istore_n (lv' := [(3, .int (nI o9)), (2, .int (nI (q + 1))), (0, .ref x), (1, .int (nI s0))]) hx hb (fh_d d_Mo_set 69 rfl) rfl hl (by decide) rfl (fun ls hl => ?_)
      refine lv_aload_n hx hb (fh_d d_Mo_set 70 rfl) rfl (lv_at hl 2 rfl) ?_
      refine fh_get (own := "FormulaSetterModel") (ref := "FormulaSetterModel") (C := "FormulaSetterModel") (T := T_Mo) (N := 53) (v := .ref (x + 32)) hx hb hT i_Mo hown hK hP mkM_o rfl 38 (by decide) (hT _ w898) (fun _ h9 => h9) rfl (fh_d d_Mo_set 71 rfl) ?_
      refine lv_iload_n hx hb (fh_d d_Mo_set 72 rfl) rfl (lv_at hl 1 rfl) ?_
      refine lv_aload_n hx hb (fh_d d_Mo_set 73 rfl) rfl (lv_at hl 2 rfl) ?_
      refine fh_get (own := "FormulaSetterModel") (ref := "FormulaSetterModel") (C := "FormulaSetterModel") (T := T_Mo) (N := 53) (v := .ref (x + 32)) hx hb hT i_Mo hown hK hP mkM_o rfl 38 (by decide) (hT _ w898) (fun _ h9 => h9) rfl (fh_d d_Mo_set 74 rfl) ?_
      refine lv_iload_n hx hb (fh_d d_Mo_set 75 rfl) rfl (lv_at hl 0 rfl) ?_
      refine fn_iald (f := A9 31) (k := o9) hx hb hK hP 0 mkM_a31 rfl (rfl) (by omega) (by decide) (fh_d d_Mo_set 76 rfl) ?_
      refine lv_aload_n hx hb (fh_d d_Mo_set 77 rfl) rfl (lv_at hl 2 rfl) ?_
      refine fh_get (own := "FormulaSetterModel") (ref := "FormulaSetterModel") (C := "FormulaSetterModel") (T := T_Mo) (N := 53) (v := .ref (x + 30)) hx hb hT i_Mo hown hK hP mkM_o rfl 36 (by decide) (hT _ w896) (fun _ h9 => h9) rfl (fh_d d_Mo_set 78 rfl) ?_
      refine lv_iload_n hx hb (fh_d d_Mo_set 79 rfl) rfl (lv_at hl 1 rfl) ?_
      refine fn_iald (f := A9 29) (k := q + 1) hx hb hK hP 0 mkM_a29 rfl (rfl) (by omega) (by decide) (fh_d d_Mo_set 80 rfl) ?_
      refine lv_iadd hx hb (fh_d d_Mo_set 81 rfl) ?_
      refine lv_aload_n hx hb (fh_d d_Mo_set 82 rfl) rfl (lv_at hl 2 rfl) ?_
      refine fh_get (own := "FormulaSetterModel") (ref := "FormulaSetterModel") (C := "FormulaSetterModel") (T := T_Mo) (N := 53) (v := .ref (x + 16)) hx hb hT i_Mo hown hK hP mkM_o rfl 21 (by decide) (hT _ w881) (fun _ h9 => h9) rfl (fh_d d_Mo_set 83 rfl) ?_
      refine lv_iload_n hx hb (fh_d d_Mo_set 84 rfl) rfl (lv_at hl 1 rfl) ?_
      refine fn_zald (f := A9 15) (k := q + 1) hx hb hK hP 3 mkM_a15 rfl (rfl) (by omega) (by decide) (fh_d d_Mo_set 85 rfl) ?_
      refine lv_if_ne (tgt := 152) hx hb (fh_d d_Mo_set 86 rfl) rfl (fun c7 => ?_) (fun c7 => ?_)
      · refine lv_iconst (v := 0) hx hb (fh_d d_Mo_set 92 rfl) (by decide) ?_
        refine lv_goto (tgt := 162) hx hb (fh_d d_Mo_set 93 rfl) rfl ?_
        refine lv_iadd hx hb (fh_d d_Mo_set 98 rfl) ?_
        refine fn_iast (f := A9 31) (k := q + 1) hx hb hK hP hS 0 mkM_a31 rfl (rfl) (by omega) (by decide) (fh_d d_Mo_set 99 rfl) (fun H locs hP hS => ?_)
        replace hP := fh_P.eq (h' := mkM ct x g (up2 A9 31 (upd (A9 31) (q + 1) ((((A9 31) o9) + ((A9 29) (q + 1))) + 0))) 0 (nI L) (nI aV) wV (nI N) (nI uV) (nI oV) pi wi he de) hP mkM_u31
        refine lv_aload_n hx hb (fh_d d_Mo_set 100 rfl) rfl (lv_at hl 2 rfl) ?_
        refine fh_get (own := "FormulaSetterModel") (ref := "FormulaSetterModel") (C := "FormulaSetterModel") (T := T_Mo) (N := 53) (v := .ref (x + 33)) hx hb hT i_Mo hown hK hP mkM_o rfl 39 (by decide) (hT _ w899) (fun _ h9 => h9) rfl (fh_d d_Mo_set 101 rfl) ?_
        refine lv_iload_n hx hb (fh_d d_Mo_set 102 rfl) rfl (lv_at hl 1 rfl) ?_
        refine lv_aload_n hx hb (fh_d d_Mo_set 103 rfl) rfl (lv_at hl 2 rfl) ?_
        refine fh_get (own := "FormulaSetterModel") (ref := "FormulaSetterModel") (C := "FormulaSetterModel") (T := T_Mo) (N := 53) (v := .ref (x + 33)) hx hb hT i_Mo hown hK hP mkM_o rfl 39 (by decide) (hT _ w899) (fun _ h9 => h9) rfl (fh_d d_Mo_set 104 rfl) ?_
        refine lv_iload_n hx hb (fh_d d_Mo_set 105 rfl) rfl (lv_at hl 0 rfl) ?_
        refine fn_iald (f := A9 32) (k := o9) hx hb hK hP 0 mkM_a32 rfl (rfl) (by omega) (by decide) (fh_d d_Mo_set 106 rfl) ?_
        refine lv_aload_n hx hb (fh_d d_Mo_set 107 rfl) rfl (lv_at hl 2 rfl) ?_
        refine fh_get (own := "FormulaSetterModel") (ref := "FormulaSetterModel") (C := "FormulaSetterModel") (T := T_Mo) (N := 53) (v := .ref (x + 31)) hx hb hT i_Mo hown hK hP mkM_o rfl 37 (by decide) (hT _ w897) (fun _ h9 => h9) rfl (fh_d d_Mo_set 108 rfl) ?_
        refine lv_iload_n hx hb (fh_d d_Mo_set 109 rfl) rfl (lv_at hl 1 rfl) ?_
        refine fn_iald (f := A9 30) (k := q + 1) hx hb hK hP 0 mkM_a30 rfl (rfl) (by omega) (by decide) (fh_d d_Mo_set 110 rfl) ?_
        refine lv_iadd hx hb (fh_d d_Mo_set 111 rfl) ?_
        refine fn_iast (f := A9 32) (k := q + 1) hx hb hK hP hS 0 mkM_a32 rfl (rfl) (by omega) (by decide) (fh_d d_Mo_set 112 rfl) (fun H locs hP hS => ?_)
        replace hP := fh_P.eq (h' := mkM ct x g (up2 (up2 A9 31 (upd (A9 31) (q + 1) ((((A9 31) o9) + ((A9 29) (q + 1))) + 0))) 32 (upd (A9 32) (q + 1) (((A9 32) o9) + ((A9 30) (q + 1))))) 0 (nI L) (nI aV) wV (nI N) (nI uV) (nI oV) pi wi he de) hP mkM_u32
        refine lv_iinc (k := 1) (v := (nI (q + 1)) + 1) (lv' := [(2, .int ((nI (q + 1)) + 1)), (3, .int (nI o9)), (0, .ref x), (1, .int (nI s0))]) hx hb (fh_d d_Mo_set 113 rfl) hl rfl (by rfl) (by decide) rfl (fun ls hl => ?_)
        refine lv_goto (tgt := 101) hx hb (fh_d d_Mo_set 114 rfl) rfl ?_
        have exd : xyD A9 (q + 1) o9 = 0 := if_pos (Or.inl c7)
        rw [nI_1] at hl
        refine ih (q + 1) (by omega) H locs _ ?_ hS (lv_sub hl [0, 2, 3] rfl)
        have exy : xyF (rf_x0 (rf_a2 B N s0)) (q + 1) = xyS A9 (q + 1) o9 (0) := by show xyS (xyF (rf_x0 (rf_a2 B N s0)) q) (q + 1) (ixI (xyF (rf_x0 (rf_a2 B N s0)) q 14 (q + 1))) (xyD (xyF (rf_x0 (rf_a2 B N s0)) q) (q + 1) (ixI (xyF (rf_x0 (rf_a2 B N s0)) q 14 (q + 1)))) = _; rw [← hA9, eo2, exd]
        rw [exy]; exact hP
      · refine lv_aload_n hx hb (fh_d d_Mo_set 87 rfl) rfl (lv_at hl 2 rfl) ?_
        refine fh_get (own := "FormulaSetterModel") (ref := "FormulaSetterModel") (C := "FormulaSetterModel") (T := T_Mo) (N := 53) (v := .ref (x + 2)) hx hb hT i_Mo hown hK hP mkM_o rfl 7 (by decide) (hT _ w867) (fun _ h9 => h9) rfl (fh_d d_Mo_set 88 rfl) ?_
        refine lv_iload_n hx hb (fh_d d_Mo_set 89 rfl) rfl (lv_at hl 0 rfl) ?_
        refine fn_iald (f := A9 1) (k := o9) hx hb hK hP 0 mkM_a1 rfl (rfl) (by omega) (by decide) (fh_d d_Mo_set 90 rfl) ?_
        refine lv_if_ne (tgt := 156) hx hb (fh_d d_Mo_set 91 rfl) rfl (fun c8 => ?_) (fun c8 => ?_)
        · refine lv_aload_n hx hb (fh_d d_Mo_set 94 rfl) rfl (lv_at hl 2 rfl) ?_
          refine fh_get (own := "FormulaSetterModel") (ref := "FormulaSetterModel") (C := "FormulaSetterModel") (T := T_Mo) (N := 53) (v := .ref (x + 29)) hx hb hT i_Mo hown hK hP mkM_o rfl 35 (by decide) (hT _ w895) (fun _ h9 => h9) rfl (fh_d d_Mo_set 95 rfl) ?_
          refine lv_iload_n hx hb (fh_d d_Mo_set 96 rfl) rfl (lv_at hl 0 rfl) ?_
          refine fn_iald (f := A9 28) (k := o9) hx hb hK hP 0 mkM_a28 rfl (rfl) (by omega) (by decide) (fh_d d_Mo_set 97 rfl) ?_
          refine lv_iadd hx hb (fh_d d_Mo_set 98 rfl) ?_
          refine fn_iast (f := A9 31) (k := q + 1) hx hb hK hP hS 0 mkM_a31 rfl (rfl) (by omega) (by decide) (fh_d d_Mo_set 99 rfl) (fun H locs hP hS => ?_)
          replace hP := fh_P.eq (h' := mkM ct x g (up2 A9 31 (upd (A9 31) (q + 1) ((((A9 31) o9) + ((A9 29) (q + 1))) + ((A9 28) o9)))) 0 (nI L) (nI aV) wV (nI N) (nI uV) (nI oV) pi wi he de) hP mkM_u31
          refine lv_aload_n hx hb (fh_d d_Mo_set 100 rfl) rfl (lv_at hl 2 rfl) ?_
          refine fh_get (own := "FormulaSetterModel") (ref := "FormulaSetterModel") (C := "FormulaSetterModel") (T := T_Mo) (N := 53) (v := .ref (x + 33)) hx hb hT i_Mo hown hK hP mkM_o rfl 39 (by decide) (hT _ w899) (fun _ h9 => h9) rfl (fh_d d_Mo_set 101 rfl) ?_
          refine lv_iload_n hx hb (fh_d d_Mo_set 102 rfl) rfl (lv_at hl 1 rfl) ?_
          refine lv_aload_n hx hb (fh_d d_Mo_set 103 rfl) rfl (lv_at hl 2 rfl) ?_
          refine fh_get (own := "FormulaSetterModel") (ref := "FormulaSetterModel") (C := "FormulaSetterModel") (T := T_Mo) (N := 53) (v := .ref (x + 33)) hx hb hT i_Mo hown hK hP mkM_o rfl 39 (by decide) (hT _ w899) (fun _ h9 => h9) rfl (fh_d d_Mo_set 104 rfl) ?_
          refine lv_iload_n hx hb (fh_d d_Mo_set 105 rfl) rfl (lv_at hl 0 rfl) ?_
          refine fn_iald (f := A9 32) (k := o9) hx hb hK hP 0 mkM_a32 rfl (rfl) (by omega) (by decide) (fh_d d_Mo_set 106 rfl) ?_
          refine lv_aload_n hx hb (fh_d d_Mo_set 107 rfl) rfl (lv_at hl 2 rfl) ?_
          refine fh_get (own := "FormulaSetterModel") (ref := "FormulaSetterModel") (C := "FormulaSetterModel") (T := T_Mo) (N := 53) (v := .ref (x + 31)) hx hb hT i_Mo hown hK hP mkM_o rfl 37 (by decide) (hT _ w897) (fun _ h9 => h9) rfl (fh_d d_Mo_set 108 rfl) ?_
          refine lv_iload_n hx hb (fh_d d_Mo_set 109 rfl) rfl (lv_at hl 1 rfl) ?_
          refine fn_iald (f := A9 30) (k := q + 1) hx hb hK hP 0 mkM_a30 rfl (rfl) (by omega) (by decide) (fh_d d_Mo_set 110 rfl) ?_
          refine lv_iadd hx hb (fh_d d_Mo_set 111 rfl) ?_
          refine fn_iast (f := A9 32) (k := q + 1) hx hb hK hP hS 0 mkM_a32 rfl (rfl) (by omega) (by decide) (fh_d d_Mo_set 112 rfl) (fun H locs hP hS => ?_)
          replace hP := fh_P.eq (h' := mkM ct x g (up2 (up2 A9 31 (upd (A9 31) (q + 1) ((((A9 31) o9) + ((A9 29) (q + 1))) + ((A9 28) o9)))) 32 (upd (A9 32) (q + 1) (((A9 32) o9) + ((A9 30) (q + 1))))) 0 (nI L) (nI aV) wV (nI N) (nI uV) (nI oV) pi wi he de) hP mkM_u32
          refine lv_iinc (k := 1) (v := (nI (q + 1)) + 1) (lv' := [(2, .int ((nI (q + 1)) + 1)), (3, .int (nI o9)), (0, .ref x), (1, .int (nI s0))]) hx hb (fh_d d_Mo_set 113 rfl) hl rfl (by rfl) (by decide) rfl (fun ls hl => ?_)
          refine lv_goto (tgt := 101) hx hb (fh_d d_Mo_set 114 rfl) rfl ?_
          have exd : xyD A9 (q + 1) o9 = A9 28 o9 := if_neg (fun y => y.elim (fun y => y c7) c8)
          rw [nI_1] at hl
          refine ih (q + 1) (by omega) H locs _ ?_ hS (lv_sub hl [0, 2, 3] rfl)
          have exy : xyF (rf_x0 (rf_a2 B N s0)) (q + 1) = xyS A9 (q + 1) o9 (A9 28 o9) := by show xyS (xyF (rf_x0 (rf_a2 B N s0)) q) (q + 1) (ixI (xyF (rf_x0 (rf_a2 B N s0)) q 14 (q + 1))) (xyD (xyF (rf_x0 (rf_a2 B N s0)) q) (q + 1) (ixI (xyF (rf_x0 (rf_a2 B N s0)) q 14 (q + 1)))) = _; rw [← hA9, eo2, exd]
          rw [exy]; exact hP
        · refine lv_iconst (v := 0) hx hb (fh_d d_Mo_set 92 rfl) (by decide) ?_
          refine lv_goto (tgt := 162) hx hb (fh_d d_Mo_set 93 rfl) rfl ?_
          refine lv_iadd hx hb (fh_d d_Mo_set 98 rfl) ?_
          refine fn_iast (f := A9 31) (k := q + 1) hx hb hK hP hS 0 mkM_a31 rfl (rfl) (by omega) (by decide) (fh_d d_Mo_set 99 rfl) (fun H locs hP hS => ?_)
          replace hP := fh_P.eq (h' := mkM ct x g (up2 A9 31 (upd (A9 31) (q + 1) ((((A9 31) o9) + ((A9 29) (q + 1))) + 0))) 0 (nI L) (nI aV) wV (nI N) (nI uV) (nI oV) pi wi he de) hP mkM_u31
          refine lv_aload_n hx hb (fh_d d_Mo_set 100 rfl) rfl (lv_at hl 2 rfl) ?_
          refine fh_get (own := "FormulaSetterModel") (ref := "FormulaSetterModel") (C := "FormulaSetterModel") (T := T_Mo) (N := 53) (v := .ref (x + 33)) hx hb hT i_Mo hown hK hP mkM_o rfl 39 (by decide) (hT _ w899) (fun _ h9 => h9) rfl (fh_d d_Mo_set 101 rfl) ?_
          refine lv_iload_n hx hb (fh_d d_Mo_set 102 rfl) rfl (lv_at hl 1 rfl) ?_
          refine lv_aload_n hx hb (fh_d d_Mo_set 103 rfl) rfl (lv_at hl 2 rfl) ?_
          refine fh_get (own := "FormulaSetterModel") (ref := "FormulaSetterModel") (C := "FormulaSetterModel") (T := T_Mo) (N := 53) (v := .ref (x + 33)) hx hb hT i_Mo hown hK hP mkM_o rfl 39 (by decide) (hT _ w899) (fun _ h9 => h9) rfl (fh_d d_Mo_set 104 rfl) ?_
          refine lv_iload_n hx hb (fh_d d_Mo_set 105 rfl) rfl (lv_at hl 0 rfl) ?_
          refine fn_iald (f := A9 32) (k := o9) hx hb hK hP 0 mkM_a32 rfl (rfl) (by omega) (by decide) (fh_d d_Mo_set 106 rfl) ?_
          refine lv_aload_n hx hb (fh_d d_Mo_set 107 rfl) rfl (lv_at hl 2 rfl) ?_
          refine fh_get (own := "FormulaSetterModel") (ref := "FormulaSetterModel") (C := "FormulaSetterModel") (T := T_Mo) (N := 53) (v := .ref (x + 31)) hx hb hT i_Mo hown hK hP mkM_o rfl 37 (by decide) (hT _ w897) (fun _ h9 => h9) rfl (fh_d d_Mo_set 108 rfl) ?_
          refine lv_iload_n hx hb (fh_d d_Mo_set 109 rfl) rfl (lv_at hl 1 rfl) ?_
          refine fn_iald (f := A9 30) (k := q + 1) hx hb hK hP 0 mkM_a30 rfl (rfl) (by omega) (by decide) (fh_d d_Mo_set 110 rfl) ?_
          refine lv_iadd hx hb (fh_d d_Mo_set 111 rfl) ?_
          refine fn_iast (f := A9 32) (k := q + 1) hx hb hK hP hS 0 mkM_a32 rfl (rfl) (by omega) (by decide) (fh_d d_Mo_set 112 rfl) (fun H locs hP hS => ?_)
          replace hP := fh_P.eq (h' := mkM ct x g (up2 (up2 A9 31 (upd (A9 31) (q + 1) ((((A9 31) o9) + ((A9 29) (q + 1))) + 0))) 32 (upd (A9 32) (q + 1) (((A9 32) o9) + ((A9 30) (q + 1))))) 0 (nI L) (nI aV) wV (nI N) (nI uV) (nI oV) pi wi he de) hP mkM_u32
          refine lv_iinc (k := 1) (v := (nI (q + 1)) + 1) (lv' := [(2, .int ((nI (q + 1)) + 1)), (3, .int (nI o9)), (0, .ref x), (1, .int (nI s0))]) hx hb (fh_d d_Mo_set 113 rfl) hl rfl (by rfl) (by decide) rfl (fun ls hl => ?_)
          refine lv_goto (tgt := 101) hx hb (fh_d d_Mo_set 114 rfl) rfl ?_
          have exd : xyD A9 (q + 1) o9 = 0 := if_pos (Or.inr c8)
          rw [nI_1] at hl
          refine ih (q + 1) (by omega) H locs _ ?_ hS (lv_sub hl [0, 2, 3] rfl)
          have exy : xyF (rf_x0 (rf_a2 B N s0)) (q + 1) = xyS A9 (q + 1) o9 (0) := by show xyS (xyF (rf_x0 (rf_a2 B N s0)) q) (q + 1) (ixI (xyF (rf_x0 (rf_a2 B N s0)) q 14 (q + 1))) (xyD (xyF (rf_x0 (rf_a2 B N s0)) q) (q + 1) (ixI (xyF (rf_x0 (rf_a2 B N s0)) q 14 (q + 1)))) = _; rw [← hA9, eo2, exd]
          rw [exy]; exact hP
  have LM : ∀ (t : Nat), t ≤ N → ∀ (H : Heap) (locs : List Loc) (ls : Array Slot), fh_P D fh_cl b (mkM ct x g (meF N (hdF (rf_a1 B s0) N) (N - t)) 0 (nI L) (nI aV) wV (nI N) (nI uV) (nI oV) pi wi he de) n H → va_S (fh_A b) s.heap H locs → lv_has ls 4 [(2, .int ((nI t) - 1)), (0, .ref x), (1, .int (nI s0))] → W p l e (fh_rm r 0 0) s m args below meth c H locs 0 0 (MQ below (fh_Post D fh_cl b (fun v h' n' => v = some (.int (nI (wkI K (rf_ent (rf_a3 B N s0) 0 0, 1, 0)).2.2)) ∧ h' = mkM ct x g ((wkI K (rf_ent (rf_a3 B N s0) 0 0, 1, 0)).1) 0 (nI L) (nI aV) wV (nI N) (nI uV) (nI 0) (nI (wkI K (rf_ent (rf_a3 B N s0) 0 0, 1, 0)).2.2) (rf_a3 B N s0 22 0) (rf_a3 B N s0 23 0) (rf_a3 B N s0 24 0) ∧ n' = n)) args s 0 0 (fh_A b)) (F0 m 70 ls []) := by
    intro t
    induction t with
    | zero =>
      intro ht H locs ls hP hS hl
      replace hP : fh_P D fh_cl b (mkM ct x g (rf_a2 B N s0) 0 (nI L) (nI aV) wV (nI N) (nI uV) (nI oV) pi wi he de) n H := hP
      have hl : lv_has ls 4 [(2, .int ((nI 0) - 1)), (0, .ref x), (1, .int (nI s0))] := hl
      refine lv_iload_n hx hb (fh_d d_Mo_set 42 rfl) rfl (lv_at hl 0 rfl) ?_
      refine lv_if_lt (tgt := 85) hx hb (fh_d d_Mo_set 43 rfl) rfl (fun c9 => ?_) (fun c9 => absurd c9 (Classical.not_not.mpr (by decide)))
      refine lv_aload_n hx hb (fh_d d_Mo_set 49 rfl) rfl (lv_at hl 1 rfl) ?_
      refine fh_get (own := "FormulaSetterModel") (ref := "FormulaSetterModel") (C := "FormulaSetterModel") (T := T_Mo) (N := 53) (v := .ref (x + 32)) hx hb hT i_Mo hown hK hP mkM_o rfl 38 (by decide) (hT _ w898) (fun _ h9 => h9) rfl (fh_d d_Mo_set 50 rfl) ?_
      refine lv_iconst (v := 0) hx hb (fh_d d_Mo_set 51 rfl) (by decide) ?_
      refine lv_iconst (v := 0) hx hb (fh_d d_Mo_set 52 rfl) (by decide) ?_
      refine fn_iast (f := (rf_a2 B N s0) 31) (k := 0) hx hb hK hP hS 0 mkM_a31 rfl (rfl) (by decide) (by decide) (fh_d d_Mo_set 53 rfl) (fun H locs hP hS => ?_)
      replace hP := fh_P.eq (h' := mkM ct x g (up2 (rf_a2 B N s0) 31 (upd ((rf_a2 B N s0) 31) 0 0)) 0 (nI L) (nI aV) wV (nI N) (nI uV) (nI oV) pi wi he de) hP mkM_u31
      refine lv_aload_n hx hb (fh_d d_Mo_set 54 rfl) rfl (lv_at hl 1 rfl) ?_
      refine fh_get (own := "FormulaSetterModel") (ref := "FormulaSetterModel") (C := "FormulaSetterModel") (T := T_Mo) (N := 53) (v := .ref (x + 33)) hx hb hT i_Mo hown hK hP mkM_o rfl 39 (by decide) (hT _ w899) (fun _ h9 => h9) rfl (fh_d d_Mo_set 55 rfl) ?_
      refine lv_iconst (v := 0) hx hb (fh_d d_Mo_set 56 rfl) (by decide) ?_
      refine lv_iconst (v := 0) hx hb (fh_d d_Mo_set 57 rfl) (by decide) ?_
      refine fn_iast (f := (rf_a2 B N s0) 32) (k := 0) hx hb hK hP hS 0 mkM_a32 rfl (rfl) (by decide) (by decide) (fh_d d_Mo_set 58 rfl) (fun H locs hP hS => ?_)
      replace hP := fh_P.eq (h' := mkM ct x g (up2 (up2 (rf_a2 B N s0) 31 (upd ((rf_a2 B N s0) 31) 0 0)) 32 (upd ((rf_a2 B N s0) 32) 0 0)) 0 (nI L) (nI aV) wV (nI N) (nI uV) (nI oV) pi wi he de) hP mkM_u32
      refine lv_iconst (v := 1) hx hb (fh_d d_Mo_set 59 rfl) (by decide) ?_
      refine lv_istore_n (lv' := [(2, .int 1), (0, .ref x), (1, .int (nI s0))]) hx hb (fh_d d_Mo_set 60 rfl) rfl hl (by decide) rfl (fun ls hl => ?_)
      exact LX (N - 1) 0 (by omega) H _ _ hP hS (lv_sub hl [0, 1, 2] rfl)
    | succ t ih =>
      intro ht H locs ls hP hS hl
      rw [nI_pred] at hl
      have hm9 : okMN (meF N (hdF (rf_a1 B s0) N) (N - (t + 1))) t := by have := hMm (N - (t + 1)) (by omega); rw [show N - 1 - (N - (t + 1)) = t by omega] at this; exact this
      have em9 : meF N (hdF (rf_a1 B s0) N) (N - t) = rf_meN (meF N (hdF (rf_a1 B s0) N) (N - (t + 1))) t := by rw [show N - t = N - (t + 1) + 1 by omega]; show rf_meN _ (N - 1 - (N - (t + 1))) = _; rw [show N - 1 - (N - (t + 1)) = t by omega]
      have hl : lv_has ls 4 [(2, .int (nI t)), (0, .ref x), (1, .int (nI s0))] := hl
      refine lv_iload_n hx hb (fh_d d_Mo_set 42 rfl) rfl (lv_at hl 0 rfl) ?_
      refine lv_if_lt (tgt := 85) hx hb (fh_d d_Mo_set 43 rfl) rfl (fun c10 => absurd c10 (nI_pos (by omega))) (fun c10 => ?_)
      refine lv_aload_n hx hb (fh_d d_Mo_set 44 rfl) rfl (lv_at hl 1 rfl) ?_
      refine lv_iload_n hx hb (fh_d d_Mo_set 45 rfl) rfl (lv_at hl 0 rfl) ?_
      refine fh_callV (cc' := c_Mo_measure) (nL' := 4) (rest := []) (a := x) (As := [.int (nI t)]) X hR (m_Mo_measure l D ct b RO hR (r - 1) (by omega) n x g (meF N (hdF (rf_a1 B s0) N) (N - (t + 1))) 0 (nI L) (nI aV) wV (nI N) (nI uV) (nI oV) pi wi he de t _ _ _ _ _ _ _ hm9) w1132 w1129 w1131 v49 w9 ⟨by decide, by decide, by show _ = some 1; decide +kernel⟩ (by omega) (by decide) (fh_recv hK hP mkM_o rfl) hP hS hl.1 rfl (by exact Nat.le_of_ble_eq_true rfl) (fh_d d_Mo_set 46 rfl) ⟨Nat.le_refl _, Nat.le_refl _⟩ (fun v9 h9 n9 H locs hq hP hS => ?_)
      obtain ⟨rfl, u11, u12⟩ := hq
      rw [u11, u12] at hP
      refine W.eq (g2 := F0 m 79 ls []) rfl ?_
      refine lv_iinc (k := 0) (v := (nI t) + (-1)) (lv' := [(2, .int ((nI t) + (-1))), (0, .ref x), (1, .int (nI s0))]) hx hb (fh_d d_Mo_set 47 rfl) hl rfl (by rfl) (by decide) rfl (fun ls hl => ?_)
      refine lv_goto (tgt := 70) hx hb (fh_d d_Mo_set 48 rfl) rfl ?_
      rw [← Int32.sub_eq_add_neg] at hl
      exact ih (by omega) H locs _ (by rw [em9]; exact hP) hS (lv_sub hl [0, 1, 2] rfl)
  have LH : ∀ (t q : Nat), t + q = N → ∀ (H : Heap) (locs : List Loc) (ls : Array Slot), fh_P D fh_cl b (mkM ct x g (hdF (rf_a1 B s0) q) 0 (nI L) (nI aV) wV (nI N) (nI uV) (nI oV) pi wi he de) n H → va_S (fh_A b) s.heap H locs → lv_has ls 4 [(2, .int (nI q)), (0, .ref x), (1, .int (nI s0))] → W p l e (fh_rm r 0 0) s m args below meth c H locs 0 0 (MQ below (fh_Post D fh_cl b (fun v h' n' => v = some (.int (nI (wkI K (rf_ent (rf_a3 B N s0) 0 0, 1, 0)).2.2)) ∧ h' = mkM ct x g ((wkI K (rf_ent (rf_a3 B N s0) 0 0, 1, 0)).1) 0 (nI L) (nI aV) wV (nI N) (nI uV) (nI 0) (nI (wkI K (rf_ent (rf_a3 B N s0) 0 0, 1, 0)).2.2) (rf_a3 B N s0 22 0) (rf_a3 B N s0 23 0) (rf_a3 B N s0 24 0) ∧ n' = n)) args s 0 0 (fh_A b)) (F0 m 44 ls []) := by
    intro t
    induction t with
    | zero =>
      intro q hq H locs ls hP hS hl
      obtain rfl : q = N := by omega
      have hl : lv_has ls 4 [(2, .int (nI q)), (0, .ref x), (1, .int (nI s0))] := hl
      refine lv_iload_n hx hb (fh_d d_Mo_set 28 rfl) rfl (lv_at hl 0 rfl) ?_
      refine lv_aload_n hx hb (fh_d d_Mo_set 29 rfl) rfl (lv_at hl 1 rfl) ?_
      refine fh_get (own := "FormulaSetterModel") (ref := "FormulaSetterModel") (C := "FormulaSetterModel") (T := T_Mo) (N := 53) (v := .int (nI q)) hx hb hT i_Mo hown hK hP mkM_o rfl 5 (by decide) (hT _ w865) (fun _ h9 => h9) rfl (fh_d d_Mo_set 30 rfl) ?_
      refine lv_icmp_ge (tgt := 63) hx hb (fh_d d_Mo_set 31 rfl) rfl (fun c13 => ?_) (fun c13 => absurd c13 (Classical.not_not.mpr (Int32.le_refl _)))
      refine lv_aload_n hx hb (fh_d d_Mo_set 37 rfl) rfl (lv_at hl 1 rfl) ?_
      refine fh_get (own := "FormulaSetterModel") (ref := "FormulaSetterModel") (C := "FormulaSetterModel") (T := T_Mo) (N := 53) (v := .int (nI q)) hx hb hT i_Mo hown hK hP mkM_o rfl 5 (by decide) (hT _ w865) (fun _ h9 => h9) rfl (fh_d d_Mo_set 38 rfl) ?_
      refine lv_iconst (v := 1) hx hb (fh_d d_Mo_set 39 rfl) (by decide) ?_
      refine lv_isub hx hb (fh_d d_Mo_set 40 rfl) ?_
      refine lv_istore_n (lv' := [(2, .int ((nI q) - 1)), (0, .ref x), (1, .int (nI s0))]) hx hb (fh_d d_Mo_set 41 rfl) rfl hl (by decide) rfl (fun ls hl => ?_)
      exact LM q (Nat.le_refl _) H _ _ (by rw [Nat.sub_self]; exact hP) hS (lv_sub hl [0, 1, 2] rfl)
    | succ t ih =>
      intro q hq H locs ls hP hS hl
      obtain ⟨ah20, ah21, ah12, ah13, ah10, ah11, ah6, ah7⟩ := hH q (by omega)
      have hl : lv_has ls 4 [(2, .int (nI q)), (0, .ref x), (1, .int (nI s0))] := hl
      refine lv_iload_n hx hb (fh_d d_Mo_set 28 rfl) rfl (lv_at hl 0 rfl) ?_
      refine lv_aload_n hx hb (fh_d d_Mo_set 29 rfl) rfl (lv_at hl 1 rfl) ?_
      refine fh_get (own := "FormulaSetterModel") (ref := "FormulaSetterModel") (C := "FormulaSetterModel") (T := T_Mo) (N := 53) (v := .int (nI N)) hx hb hT i_Mo hown hK hP mkM_o rfl 5 (by decide) (hT _ w865) (fun _ h9 => h9) rfl (fh_d d_Mo_set 30 rfl) ?_
      refine lv_icmp_ge (tgt := 63) hx hb (fh_d d_Mo_set 31 rfl) rfl (fun c14 => absurd c14 (fun y => absurd ((nI_leI (a := N) (b := q) (by omega) (by omega)).mp y) (by omega))) (fun c14 => ?_)
      refine lv_aload_n hx hb (fh_d d_Mo_set 32 rfl) rfl (lv_at hl 1 rfl) ?_
      refine lv_iload_n hx hb (fh_d d_Mo_set 33 rfl) rfl (lv_at hl 0 rfl) ?_
      refine fh_callV (cc' := c_Mo_handDown) (nL' := 6) (rest := []) (a := x) (As := [.int (nI q)]) X hR (m_Mo_handDown l D ct b RO hR (r - 1) (by omega) n x g (hdF (rf_a1 B s0) q) 0 (nI L) (nI aV) wV (nI N) (nI uV) (nI oV) pi wi he de q (by omega) _ ah20.2 ah20.1 ah21 _ _ _ _ ⟨ah12.2, ah12.1⟩ ⟨ah13.2, ah13.1⟩ ⟨ah10.2, ah10.1⟩ ⟨ah11.2, ah11.1⟩ _ ah6 ah7) w1124 w1121 w1123 v47 w9 ⟨by decide, by decide, by show _ = some 1; decide +kernel⟩ (by omega) (by decide) (fh_recv hK hP mkM_o rfl) hP hS hl.1 rfl (by exact Nat.le_of_ble_eq_true rfl) (fh_d d_Mo_set 34 rfl) ⟨Nat.le_refl _, Nat.le_refl _⟩ (fun v9 h9 n9 H locs hq hP hS => ?_)
      obtain ⟨rfl, u15, u16⟩ := hq
      rw [u15, u16] at hP
      refine W.eq (g2 := F0 m 57 ls []) rfl ?_
      refine lv_iinc (k := 0) (v := (nI q) + 1) (lv' := [(2, .int ((nI q) + 1)), (0, .ref x), (1, .int (nI s0))]) hx hb (fh_d d_Mo_set 35 rfl) hl rfl (by rfl) (by decide) rfl (fun ls hl => ?_)
      refine lv_goto (tgt := 44) hx hb (fh_d d_Mo_set 36 rfl) rfl ?_
      rw [nI_1] at hl
      exact ih (q + 1) (by omega) H locs _ hP hS (lv_sub hl [0, 1, 2] rfl)
  refine lv_aload_n hx hb (fh_d d_Mo_set 0 rfl) rfl (lv_at hl 0 rfl) ?_
  refine lv_iconst (v := 0) hx hb (fh_d d_Mo_set 1 rfl) (by decide) ?_
  refine fh_put (own := "FormulaSetterModel") (ref := "FormulaSetterModel") (C := "FormulaSetterModel") (T := T_Mo) (N := 53) (v := .int 0) (ty := .int) hx hb hT i_Mo t_Mo k_Mo n_Mo hown hK hP hS mkM_o rfl 0 (by decide) (hT _ w860) (fun _ h9 => h9) rfl (by decide +kernel) rfl rfl (Nat.le_of_ble_eq_true rfl) (fh_d d_Mo_set 2 rfl) (fun H locs hP hS => ?_)
  replace hP := fh_P.eq (h' := mkM ct x g A 0 (nI L) at_ wr no nu op pi wi he de) hP mkM_ux
  refine lv_iload_n hx hb (fh_d d_Mo_set 3 rfl) rfl (lv_at hl 1 rfl) ?_
  refine lv_if_lt (tgt := 21) hx hb (fh_d d_Mo_set 4 rfl) rfl (fun c17 => absurd c17 (nI_pos (by omega))) (fun c17 => ?_)
  refine lv_iload_n hx hb (fh_d d_Mo_set 5 rfl) rfl (lv_at hl 1 rfl) ?_
  refine lv_iconst (v := 3) hx hb (fh_d d_Mo_set 6 rfl) (by decide) ?_
  refine lv_icmp_gt (tgt := 21) hx hb (fh_d d_Mo_set 7 rfl) rfl (fun c18 => absurd c18 (Int32.not_lt.mpr ((nI_leI (a := s0) (b := 3) (by omega) (by decide)).mpr (by omega)))) (fun c18 => ?_)
  refine lv_aload_n hx hb (fh_d d_Mo_set 8 rfl) rfl (lv_at hl 0 rfl) ?_
  refine fh_callV (cc' := c_Mo_read) (nL' := 3) (rest := []) (a := x) (As := []) X hR (m_Mo_read l D ct b RO hR (r - 1) (by omega) n x g A 0 at_ wr no nu op pi wi he de L hL (rz_J_ok hL) (rz_I_0 A L)) w1044 w1041 w1043 v32 w9 ⟨by decide, by decide, by show _ = some 0; decide +kernel⟩ (by omega) (by decide) (fh_recv hK hP mkM_o rfl) hP hS hl.1 rfl (by exact Nat.le_of_ble_eq_true rfl) (fh_d d_Mo_set 9 rfl) ⟨Nat.le_refl _, Nat.le_refl _⟩ (fun v9 h9 n9 H locs hq hP hS => ?_)
  obtain ⟨rfl, ua, ub⟩ := hq
  rw [ua, ub, hrd] at hP
  refine W.eq (g2 := F0 m 18 ls [.int (if rz_ok (rz_read A L) then 1 else 0)]) rfl ?_
  rw [if_pos hok]
  replace hP : fh_P D fh_cl b (mkM ct x g B 0 (nI L) (nI aV) wV (nI N) (nI uV) (nI oV) pi wi he de) n H := hP
  refine lv_if_ne (tgt := 28) hx hb (fh_d d_Mo_set 10 rfl) rfl (fun c19 => ?_) (fun c19 => absurd c19 (by decide))
  refine lv_aload_n hx hb (fh_d d_Mo_set 16 rfl) rfl (lv_at hl 0 rfl) ?_
  refine fh_get (own := "FormulaSetterModel") (ref := "FormulaSetterModel") (C := "FormulaSetterModel") (T := T_Mo) (N := 53) (v := .ref (x + 21)) hx hb hT i_Mo hown hK hP mkM_o rfl 27 (by decide) (hT _ w887) (fun _ h9 => h9) rfl (fh_d d_Mo_set 17 rfl) ?_
  refine lv_iconst (v := 0) hx hb (fh_d d_Mo_set 18 rfl) (by decide) ?_
  refine lv_iload_n hx hb (fh_d d_Mo_set 19 rfl) rfl (lv_at hl 1 rfl) ?_
  refine fn_iast (f := B 20) (k := 0) hx hb hK hP hS 0 mkM_a20 rfl (rfl) (by decide) (by decide) (fh_d d_Mo_set 20 rfl) (fun H locs hP hS => ?_)
  replace hP := fh_P.eq (h' := mkM ct x g (up2 B 20 (upd (B 20) 0 (nI s0))) 0 (nI L) (nI aV) wV (nI N) (nI uV) (nI oV) pi wi he de) hP mkM_u20
  refine lv_aload_n hx hb (fh_d d_Mo_set 21 rfl) rfl (lv_at hl 0 rfl) ?_
  refine fh_get (own := "FormulaSetterModel") (ref := "FormulaSetterModel") (C := "FormulaSetterModel") (T := T_Mo) (N := 53) (v := .ref (x + 22)) hx hb hT i_Mo hown hK hP mkM_o rfl 28 (by decide) (hT _ w888) (fun _ h9 => h9) rfl (fh_d d_Mo_set 22 rfl) ?_
  refine lv_iconst (v := 0) hx hb (fh_d d_Mo_set 23 rfl) (by decide) ?_
  refine lv_iconst (v := 0) hx hb (fh_d d_Mo_set 24 rfl) (by decide) ?_
  refine fn_zast (f := B 21) (k := 0) hx hb hK hP hS 3 mkM_a21 rfl (rfl) (by decide) (by decide) (by decide) (fh_d d_Mo_set 25 rfl) (fun H locs hP hS => ?_)
  replace hP := fh_P.eq (h' := mkM ct x g (up2 (up2 B 20 (upd (B 20) 0 (nI s0))) 21 (upd (B 21) 0 0)) 0 (nI L) (nI aV) wV (nI N) (nI uV) (nI oV) pi wi he de) hP mkM_u21
  refine lv_iconst (v := 0) hx hb (fh_d d_Mo_set 26 rfl) (by decide) ?_
  refine lv_istore_n (lv' := [(2, .int 0), (0, .ref x), (1, .int (nI s0))]) hx hb (fh_d d_Mo_set 27 rfl) rfl hl (by decide) rfl (fun ls hl => ?_)
  exact LH N 0 (by omega) H _ _ hP hS (lv_sub hl [0, 1, 2] rfl)
