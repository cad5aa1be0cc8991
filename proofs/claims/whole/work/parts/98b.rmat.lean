/-! The reference: setMat. Printed by wip/whole/gen/p98b.py -/
def fil (f : Nat → Int32) (v : Int32) (k : Nat) : Nat → Int32 := fun j => if j < k then v else f j
theorem fil_s {f : Nat → Int32} {v : Int32} {k : Nat} : upd (fil f v k) k v = fil f v (k + 1) := by
  funext j
  unfold upd fil
  by_cases e : j = k
  · rw [if_pos e, if_pos (by omega)]
  · rw [if_neg e]
    by_cases h : j < k
    · rw [if_pos h, if_pos (by omega)]
    · rw [if_neg h, if_neg (by omega)]
theorem fil_0 {f : Nat → Int32} {v : Int32} : fil f v 0 = f := by
  funext j; unfold fil; rw [if_neg (by omega)]
def rmz (A : Nat → Nat → Int32) (z : Int32) (k : Nat) : Nat → Nat → Int32 := up2 (up2 (up2 A 36 (fil (A 36) (-1) k)) 37 (fil (A 37) (5 * z) k)) 38 (fil (A 38) (2 * z) k)
theorem up2_self {A : Nat → Nat → Int32} {k : Nat} : up2 A k (A k) = A := by
  funext j; unfold up2; split
  · next e => rw [e]
  · rfl
theorem rmz_0 {A : Nat → Nat → Int32} {z : Int32} : rmz A z 0 = A := by
  unfold rmz; rw [fil_0, fil_0, fil_0]
  funext j; unfold up2; split
  · next e => rw [e]
  · split
    · next e => rw [e]
    · split
      · next e => rw [e]
      · rfl
theorem rmz_s {A : Nat → Nat → Int32} {z : Int32} {k : Nat} : up2 (up2 (up2 (rmz A z k) 36 (upd (rmz A z k 36) k (-1))) 37 (upd (rmz A z k 37) k (5 * z))) 38 (upd (rmz A z k 38) k (2 * z)) = rmz A z (k + 1) := by
  have e1 : rmz A z k 36 = fil (A 36) (-1) k := rfl
  have e2 : rmz A z k 37 = fil (A 37) (5 * z) k := rfl
  have e3 : rmz A z k 38 = fil (A 38) (2 * z) k := rfl
  rw [e1, e2, e3, fil_s, fil_s, fil_s]
  unfold rmz
  funext j; unfold up2
  by_cases h1 : j = 38
  · rw [if_pos h1, if_pos h1]
  · by_cases h2 : j = 37
    · simp only [if_pos h2, if_neg h1]
    · by_cases h3 : j = 36
      · simp only [if_pos h3, if_neg h1, if_neg h2]
      · simp only [if_neg h3, if_neg h1, if_neg h2]
def mceS (p : (Nat → Nat → Int32) × Nat) (i : Nat) : (Nat → Nat → Int32) × Nat := (up2 (up2 (up2 p.1 36 (upd (p.1 36) (ixI (p.1 9 i)) (ms (p.1 36 (ixI (p.1 9 i))) (p.1 22 i)))) 37 (upd (p.1 37) (ixI (p.1 8 i)) (ms (p.1 37 (ixI (p.1 8 i))) (p.1 23 i)))) 38 (upd (p.1 38) (ixI (p.1 8 i)) (ms (p.1 38 (ixI (p.1 8 i))) (p.1 24 i))), ixI (p.1 8 i) + 1)
def mAl (f g : Nat → Int32) (z : Int32) : Nat → Int32
  | 0 => 0
  | r + 1 => mAl f g z r + ((f r + g r) + (if 0 < r then z else 0))
def mWd (f : Nat → Int32) (z : Int32) : Nat → Int32
  | 0 => 0
  | c + 1 => mWd f z c + (f c + (if 0 < c then 4 * z else 0))
def mLf (f : Nat → Int32) (z : Int32) : Nat → Int32
  | 0 => 0
  | c + 1 => mLf f z c + (f c + 4 * z)
def mBs (f g : Nat → Int32) (z b0 : Int32) : Nat → Int32
  | 0 => b0
  | r + 1 => mBs f g z b0 r - ((f r + g r) + z)
def mwS (A : Nat → Nat → Int32) (n0 : Nat) (z : Int32) (c : Nat) : Nat → Nat → Int32 := up2 A 22 (upd (A 22) n0 (mWd (A 36) z c))
theorem mwS_s {A : Nat → Nat → Int32} {n0 : Nat} {z v : Int32} {c : Nat} (h : v = mWd (A 36) z (c + 1)) : up2 (mwS A n0 z c) 22 (upd (mwS A n0 z c 22) n0 v) = mwS A n0 z (c + 1) := by
  have e : mwS A n0 z c 22 = upd (A 22) n0 (mWd (A 36) z c) := rfl
  rw [e, h]
  unfold mwS
  funext j; unfold up2
  by_cases h1 : j = 22
  · rw [if_pos h1, if_pos h1]
    funext k; unfold upd
    by_cases h2 : k = n0
    · rw [if_pos h2, if_pos h2]
    · rw [if_neg h2, if_neg h2, if_neg h2]
  · rw [if_neg h1, if_neg h1, if_neg h1]
def mpl (n0 : Nat) (z : Int32) (A : Nat → Nat → Int32) (i : Nat) : Nat → Nat → Int32 := up2 (up2 A 29 (upd (A 29) i (mLf (A 36) z (ixI (A 9 i)) + (A 36 (ixI (A 9 i)) - A 22 i) / 2))) 30 (upd (A 30) i (mBs (A 37) (A 38) z (A 23 n0) (ixI (A 8 i)) - A 37 (ixI (A 8 i))))
def mP (A : Nat → Nat → Int32) (s0 : Nat) (cs : List Nat) : (Nat → Nat → Int32) × Nat := cs.foldl mceS (rmz A (yS s0) 8, 0)
def mA3 (n0 s0 : Nat) (p : (Nat → Nat → Int32) × Nat) : Nat → Nat → Int32 := up2 (up2 p.1 23 (upd (p.1 23) n0 (yX s0 + mAl (p.1 37) (p.1 38) (yS s0) p.2 / 2))) 24 (upd (p.1 24) n0 (ms 0 (mAl (p.1 37) (p.1 38) (yS s0) p.2 - (yX s0 + mAl (p.1 37) (p.1 38) (yS s0) p.2 / 2))))
def rf_mt (A : Nat → Nat → Int32) (n0 s0 cw : Nat) (cs : List Nat) : Nat → Nat → Int32 := cs.foldl (mpl n0 (yS s0)) (mwS (mA3 n0 s0 (mP A s0 cs)) n0 (yS s0) cw)
set_option maxHeartbeats 4000000 in
set_option maxRecDepth 100000 in
theorem m_Mo_setMat (l : Launch) (D : va_G) (ct : Nat → ClassId) (b : Nat) (RO : State → Prop) (hR : fh_R b RO) (r : Nat) (hr : 2 ≤ r) (n x : Nat) (g : fh_H) (A : Nat → Nat → Int32) (th co at_ wr no nu op pi wi he de : Int32) (n0 : Nat) (hn0 : n0 < 400) (s0 : Nat) (hs0 : s0 < 4) (h20 : A 20 n0 = nI s0) (cs : List Nat) (h6 : A 6 n0 = nI (hdz cs)) (hnx : nxA (A 7) cs) (hrc : ∀ i ∈ cs, okw (A 9 i) ∧ okw (A 8 i)) (cw : Nat) (hco : cw ≤ 8) (hc1 : ∀ c, c < cw → ¬ (mP A s0 cs).1 36 c < 0) (hc2 : cw = 8 ∨ (mP A s0 cs).1 36 cw < 0) : fh_C l D fh_cl (fh_tys ct) b RO y_Mo_setMat (Cond.code y_Mo_setMat c_Mo_setMat 9 (Option.none : Option FieldType) :: fh_T) (fh_rm r 0 0) [.ref x, .int (nI n0)] (mkM ct x g A th co at_ wr no nu op pi wi he de) n (fun v h' n' => v = none ∧ h' = mkM ct x g (rf_mt A n0 s0 cw cs) th co at_ wr no nu op pi wi he de ∧ n' = n) 0 0 := by
  refine fh_enter (by decide) (Nat.le_of_ble_eq_true rfl) [(0, .ref x), (1, .int (nI n0))] rfl ?_
  intro p e s m args below meth c H ls X hP hS hl
  have hx := X.1
  have hb := X.2.1
  have hml := X.2.2.1
  have hown : s.vm.findClass "FormulaSetterModel" = some m.cls := X.2.2.2.1
  have hT := X.2.2.2.2.1
  have hK := X.2.2.2.2.2.1
  have hRO := X.2.2.2.2.2.2.1
  have hnm : meth.name = "setMat" := X.2.2.2.2.2.2.2.2.2.2
  have L4 : ∀ (t : List Nat) (A1 : Nat → Nat → Int32), nxA (A 7) t → (∀ i ∈ t, okw (A 9 i) ∧ okw (A 8 i)) → A1 7 = A 7 → A1 8 = A 8 → A1 9 = A 9 → t.foldl (mpl n0 (yS s0)) A1 = rf_mt A n0 s0 cw cs → ∀ (H : Heap) (locs : List Loc) (ls : Array Slot), fh_P D fh_cl b (mkM ct x g A1 th co at_ wr no nu op pi wi he de) n H → va_S (fh_A b) s.heap H locs → lv_has ls 9 [(5, .int (nI (hdz t))), (2, .int (yS s0)), (0, .ref x), (1, .int (nI n0))] → W p l e (fh_rm r 0 0) s m args below meth c H locs 0 0 (MQ below (fh_Post D fh_cl b (fun v h' n' => v = none ∧ h' = mkM ct x g (rf_mt A n0 s0 cw cs) th co at_ wr no nu op pi wi he de ∧ n' = n)) args s 0 0 (fh_A b)) (F0 m 346 ls []) := by
    intro t
    induction t with
    | nil =>
      intro A1 hnt hrt hz7 hz8 hz9 hfo H locs ls hP hS hl
      have hl : lv_has ls 9 [(5, .int (nI 0)), (2, .int (yS s0)), (0, .ref x), (1, .int (nI n0))] := hl
      refine lv_iload hx hb (fh_d d_Mo_setMat 204 rfl) (lv_at hl 0 rfl) ?_
      refine lv_if_le (tgt := 508) hx hb (fh_d d_Mo_setMat 205 rfl) rfl (fun c1 => ?_) (fun c1 => absurd c1 (fun z => z (by decide)))
      exact fh_vret X hP hS (fh_d d_Mo_setMat 297 rfl) ⟨rfl, by rw [← hfo]; rfl, rfl⟩
    | cons i t ih =>
      intro A1 hnt hrt hz7 hz8 hz9 hfo H locs ls hP hS hl
      obtain ⟨ow9, ow8⟩ := hrt i List.mem_cons_self
      obtain ⟨c9, hc9, e9⟩ : ∃ z, z < 8 ∧ A1 9 i = nI z := ⟨_, ow9.2, by rw [hz9]; exact ow9.1⟩
      obtain ⟨r9, hr9, e8⟩ : ∃ z, z < 8 ∧ A1 8 i = nI z := ⟨_, ow8.2, by rw [hz8]; exact ow8.1⟩
      have ec : ixI (A1 9 i) = c9 := by rw [e9]; exact nI_clamp (by omega)
      have er : ixI (A1 8 i) = r9 := by rw [e8]; exact nI_clamp (by omega)
      have L6 : ∀ (t q : Nat), t + q = r9 → ∀ (H : Heap) (locs : List Loc) (ls : Array Slot), fh_P D fh_cl b (mkM ct x g A1 th co at_ wr no nu op pi wi he de) n H → va_S (fh_A b) s.heap H locs → lv_has ls 9 [(5, .int (nI i)), (6, .int (mLf (A1 36) (yS s0) c9)), (7, .int (mBs (A1 37) (A1 38) (yS s0) (A1 23 n0) q)), (8, .int (nI q)), (2, .int (yS s0)), (0, .ref x), (1, .int (nI n0))] → W p l e (fh_rm r 0 0) s m args below meth c H locs 0 0 (MQ below (fh_Post D fh_cl b (fun v h' n' => v = none ∧ h' = mkM ct x g (rf_mt A n0 s0 cw cs) th co at_ wr no nu op pi wi he de ∧ n' = n)) args s 0 0 (fh_A b)) (F0 m 402 ls []) := by
        intro t6
        induction t6 with
        | zero =>
          intro q hq H locs ls hP hS hl
          obtain rfl : q = r9 := by omega
          have hl : lv_has ls 9 [(5, .int (nI i)), (6, .int (mLf (A1 36) (yS s0) c9)), (7, .int (mBs (A1 37) (A1 38) (yS s0) (A1 23 n0) q)), (8, .int (nI q)), (2, .int (yS s0)), (0, .ref x), (1, .int (nI n0))] := hl
          refine lv_iload hx hb (fh_d d_Mo_setMat 236 rfl) (lv_at hl 3 rfl) ?_
          refine lv_aload_n hx hb (fh_d d_Mo_setMat 237 rfl) rfl (lv_at hl 5 rfl) ?_
          refine fh_get (own := "FormulaSetterModel") (ref := "FormulaSetterModel") (C := "FormulaSetterModel") (T := T_Mo) (N := 53) (v := .ref (x + 9)) hx hb hT i_Mo hown hK hP mkM_o rfl 14 (by decide) (hT _ w874) (fun _ h9 => h9) rfl (fh_d d_Mo_setMat 238 rfl) ?_
          refine lv_iload hx hb (fh_d d_Mo_setMat 239 rfl) (lv_at hl 0 rfl) ?_
          refine fn_iald (f := A1 8) (k := i) hx hb hK hP 0 mkM_a8 rfl (rfl) (hnt.1.2) (by decide) (fh_d d_Mo_setMat 240 rfl) ?_
          rw [show ((A1 8) i) = nI q from e8]
          refine lv_icmp_ge (tgt := 442) hx hb (fh_d d_Mo_setMat 241 rfl) rfl (fun c2 => ?_) (fun c2 => absurd c2 (Classical.not_not.mpr (Int32.le_refl _)))
          refine lv_aload_n hx hb (fh_d d_Mo_setMat 258 rfl) rfl (lv_at hl 5 rfl) ?_
          refine fh_get (own := "FormulaSetterModel") (ref := "FormulaSetterModel") (C := "FormulaSetterModel") (T := T_Mo) (N := 53) (v := .ref (x + 30)) hx hb hT i_Mo hown hK hP mkM_o rfl 36 (by decide) (hT _ w896) (fun _ h9 => h9) rfl (fh_d d_Mo_setMat 259 rfl) ?_
          refine lv_iload hx hb (fh_d d_Mo_setMat 260 rfl) (lv_at hl 0 rfl) ?_
          refine lv_iload hx hb (fh_d d_Mo_setMat 261 rfl) (lv_at hl 1 rfl) ?_
          refine lv_aload_n hx hb (fh_d d_Mo_setMat 262 rfl) rfl (lv_at hl 5 rfl) ?_
          refine fh_get (own := "FormulaSetterModel") (ref := "FormulaSetterModel") (C := "FormulaSetterModel") (T := T_Mo) (N := 53) (v := .ref (x + 37)) hx hb hT i_Mo hown hK hP mkM_o rfl 43 (by decide) (hT _ w903) (fun _ h9 => h9) rfl (fh_d d_Mo_setMat 263 rfl) ?_
          refine lv_aload_n hx hb (fh_d d_Mo_setMat 264 rfl) rfl (lv_at hl 5 rfl) ?_
          refine fh_get (own := "FormulaSetterModel") (ref := "FormulaSetterModel") (C := "FormulaSetterModel") (T := T_Mo) (N := 53) (v := .ref (x + 10)) hx hb hT i_Mo hown hK hP mkM_o rfl 15 (by decide) (hT _ w875) (fun _ h9 => h9) rfl (fh_d d_Mo_setMat 265 rfl) ?_
          refine lv_iload hx hb (fh_d d_Mo_setMat 266 rfl) (lv_at hl 0 rfl) ?_
          refine fn_iald (f := A1 9) (k := i) hx hb hK hP 0 mkM_a9 rfl (rfl) (hnt.1.2) (by decide) (fh_d d_Mo_setMat 267 rfl) ?_
          rw [show ((A1 9) i) = nI c9 from e9]
          refine fn_iald (f := A1 36) (k := c9) hx hb hK hP 0 mkM_a36 rfl (rfl) (by omega) (by decide) (fh_d d_Mo_setMat 268 rfl) ?_
          refine lv_aload_n hx hb (fh_d d_Mo_setMat 269 rfl) rfl (lv_at hl 5 rfl) ?_
          refine fh_get (own := "FormulaSetterModel") (ref := "FormulaSetterModel") (C := "FormulaSetterModel") (T := T_Mo) (N := 53) (v := .ref (x + 23)) hx hb hT i_Mo hown hK hP mkM_o rfl 29 (by decide) (hT _ w889) (fun _ h9 => h9) rfl (fh_d d_Mo_setMat 270 rfl) ?_
          refine lv_iload hx hb (fh_d d_Mo_setMat 271 rfl) (lv_at hl 0 rfl) ?_
          refine fn_iald (f := A1 22) (k := i) hx hb hK hP 0 mkM_a22 rfl (rfl) (hnt.1.2) (by decide) (fh_d d_Mo_setMat 272 rfl) ?_
          refine lv_isub hx hb (fh_d d_Mo_setMat 273 rfl) ?_
          refine lv_iconst (v := 2) hx hb (fh_d d_Mo_setMat 274 rfl) (by decide) ?_
          refine lv_idiv hx hb (fh_d d_Mo_setMat 275 rfl) (by decide) ?_
          refine lv_iadd hx hb (fh_d d_Mo_setMat 276 rfl) ?_
          refine fn_iast (f := A1 29) (k := i) hx hb hK hP hS 0 mkM_a29 rfl (rfl) (hnt.1.2) (by decide) (fh_d d_Mo_setMat 277 rfl) (fun H locs hP hS => ?_)
          replace hP := fh_P.eq (h' := mkM ct x g (up2 A1 29 (upd (A1 29) i ((mLf (A1 36) (yS s0) c9) + ((((A1 36) c9) - ((A1 22) i)) / 2)))) th co at_ wr no nu op pi wi he de) hP mkM_u29
          refine lv_aload_n hx hb (fh_d d_Mo_setMat 278 rfl) rfl (lv_at hl 5 rfl) ?_
          refine fh_get (own := "FormulaSetterModel") (ref := "FormulaSetterModel") (C := "FormulaSetterModel") (T := T_Mo) (N := 53) (v := .ref (x + 31)) hx hb hT i_Mo hown hK hP mkM_o rfl 37 (by decide) (hT _ w897) (fun _ h9 => h9) rfl (fh_d d_Mo_setMat 279 rfl) ?_
          refine lv_iload hx hb (fh_d d_Mo_setMat 280 rfl) (lv_at hl 0 rfl) ?_
          refine lv_iload hx hb (fh_d d_Mo_setMat 281 rfl) (lv_at hl 2 rfl) ?_
          refine lv_aload_n hx hb (fh_d d_Mo_setMat 282 rfl) rfl (lv_at hl 5 rfl) ?_
          refine fh_get (own := "FormulaSetterModel") (ref := "FormulaSetterModel") (C := "FormulaSetterModel") (T := T_Mo) (N := 53) (v := .ref (x + 38)) hx hb hT i_Mo hown hK hP mkM_o rfl 44 (by decide) (hT _ w904) (fun _ h9 => h9) rfl (fh_d d_Mo_setMat 283 rfl) ?_
          refine lv_aload_n hx hb (fh_d d_Mo_setMat 284 rfl) rfl (lv_at hl 5 rfl) ?_
          refine fh_get (own := "FormulaSetterModel") (ref := "FormulaSetterModel") (C := "FormulaSetterModel") (T := T_Mo) (N := 53) (v := .ref (x + 9)) hx hb hT i_Mo hown hK hP mkM_o rfl 14 (by decide) (hT _ w874) (fun _ h9 => h9) rfl (fh_d d_Mo_setMat 285 rfl) ?_
          refine lv_iload hx hb (fh_d d_Mo_setMat 286 rfl) (lv_at hl 0 rfl) ?_
          refine fn_iald (f := A1 8) (k := i) hx hb hK hP 0 mkM_a8 rfl (rfl) (hnt.1.2) (by decide) (fh_d d_Mo_setMat 287 rfl) ?_
          rw [show ((A1 8) i) = nI q from e8]
          refine fn_iald (f := A1 37) (k := q) hx hb hK hP 0 mkM_a37 rfl (rfl) (by omega) (by decide) (fh_d d_Mo_setMat 288 rfl) ?_
          refine lv_isub hx hb (fh_d d_Mo_setMat 289 rfl) ?_
          refine fn_iast (f := A1 30) (k := i) hx hb hK hP hS 0 mkM_a30 rfl (rfl) (hnt.1.2) (by decide) (fh_d d_Mo_setMat 290 rfl) (fun H locs hP hS => ?_)
          replace hP := fh_P.eq (h' := mkM ct x g (up2 (up2 A1 29 (upd (A1 29) i ((mLf (A1 36) (yS s0) c9) + ((((A1 36) c9) - ((A1 22) i)) / 2)))) 30 (upd (A1 30) i ((mBs (A1 37) (A1 38) (yS s0) (A1 23 n0) q) - ((A1 37) q)))) th co at_ wr no nu op pi wi he de) hP mkM_u30
          refine lv_aload_n hx hb (fh_d d_Mo_setMat 291 rfl) rfl (lv_at hl 5 rfl) ?_
          refine fh_get (own := "FormulaSetterModel") (ref := "FormulaSetterModel") (C := "FormulaSetterModel") (T := T_Mo) (N := 53) (v := .ref (x + 8)) hx hb hT i_Mo hown hK hP mkM_o rfl 13 (by decide) (hT _ w873) (fun _ h9 => h9) rfl (fh_d d_Mo_setMat 292 rfl) ?_
          refine lv_iload hx hb (fh_d d_Mo_setMat 293 rfl) (lv_at hl 0 rfl) ?_
          refine fn_iald (f := A1 7) (k := i) hx hb hK hP 0 mkM_a7 rfl (rfl) (hnt.1.2) (by decide) (fh_d d_Mo_setMat 294 rfl) ?_
          rw [show ((A1 7) i) = nI (hdz t) from (congrFun hz7 i).trans hnt.2.1]
          refine lv_istore (lv' := [(5, .int (nI (hdz t))), (6, .int (mLf (A1 36) (yS s0) c9)), (7, .int (mBs (A1 37) (A1 38) (yS s0) (A1 23 n0) q)), (8, .int (nI q)), (2, .int (yS s0)), (0, .ref x), (1, .int (nI n0))]) hx hb (fh_d d_Mo_setMat 295 rfl) hl (by decide) rfl (fun ls hl => ?_)
          refine lv_goto (tgt := 346) hx hb (fh_d d_Mo_setMat 296 rfl) rfl ?_
          refine ih (mpl n0 (yS s0) A1 i) hnt.2.2 (fun z hz => hrt z (List.mem_cons_of_mem _ hz)) hz7 hz8 hz9 hfo H locs _ ?_ hS (lv_sub hl [0, 4, 5, 6] rfl)
          unfold mpl; rw [ec, er]; exact hP
        | succ t6 ih6 =>
          intro q hq H locs ls hP hS hl
          have hl : lv_has ls 9 [(5, .int (nI i)), (6, .int (mLf (A1 36) (yS s0) c9)), (7, .int (mBs (A1 37) (A1 38) (yS s0) (A1 23 n0) q)), (8, .int (nI q)), (2, .int (yS s0)), (0, .ref x), (1, .int (nI n0))] := hl
          refine lv_iload hx hb (fh_d d_Mo_setMat 236 rfl) (lv_at hl 3 rfl) ?_
          refine lv_aload_n hx hb (fh_d d_Mo_setMat 237 rfl) rfl (lv_at hl 5 rfl) ?_
          refine fh_get (own := "FormulaSetterModel") (ref := "FormulaSetterModel") (C := "FormulaSetterModel") (T := T_Mo) (N := 53) (v := .ref (x + 9)) hx hb hT i_Mo hown hK hP mkM_o rfl 14 (by decide) (hT _ w874) (fun _ h9 => h9) rfl (fh_d d_Mo_setMat 238 rfl) ?_
          refine lv_iload hx hb (fh_d d_Mo_setMat 239 rfl) (lv_at hl 0 rfl) ?_
          refine fn_iald (f := A1 8) (k := i) hx hb hK hP 0 mkM_a8 rfl (rfl) (hnt.1.2) (by decide) (fh_d d_Mo_setMat 240 rfl) ?_
          rw [show ((A1 8) i) = nI r9 from e8]
          refine lv_icmp_ge (tgt := 442) hx hb (fh_d d_Mo_setMat 241 rfl) rfl (fun c3 => absurd c3 (fun z => absurd ((nI_leI (a := r9) (b := q) (by omega) (by omega)).mp z) (by omega))) (fun c3 => ?_)
          refine lv_iload hx hb (fh_d d_Mo_setMat 242 rfl) (lv_at hl 2 rfl) ?_
          refine lv_aload_n hx hb (fh_d d_Mo_setMat 243 rfl) rfl (lv_at hl 5 rfl) ?_
          refine fh_get (own := "FormulaSetterModel") (ref := "FormulaSetterModel") (C := "FormulaSetterModel") (T := T_Mo) (N := 53) (v := .ref (x + 38)) hx hb hT i_Mo hown hK hP mkM_o rfl 44 (by decide) (hT _ w904) (fun _ h9 => h9) rfl (fh_d d_Mo_setMat 244 rfl) ?_
          refine lv_iload hx hb (fh_d d_Mo_setMat 245 rfl) (lv_at hl 3 rfl) ?_
          refine fn_iald (f := A1 37) (k := q) hx hb hK hP 0 mkM_a37 rfl (rfl) (by omega) (by decide) (fh_d d_Mo_setMat 246 rfl) ?_
          refine lv_aload_n hx hb (fh_d d_Mo_setMat 247 rfl) rfl (lv_at hl 5 rfl) ?_
          refine fh_get (own := "FormulaSetterModel") (ref := "FormulaSetterModel") (C := "FormulaSetterModel") (T := T_Mo) (N := 53) (v := .ref (x + 39)) hx hb hT i_Mo hown hK hP mkM_o rfl 45 (by decide) (hT _ w905) (fun _ h9 => h9) rfl (fh_d d_Mo_setMat 248 rfl) ?_
          refine lv_iload hx hb (fh_d d_Mo_setMat 249 rfl) (lv_at hl 3 rfl) ?_
          refine fn_iald (f := A1 38) (k := q) hx hb hK hP 0 mkM_a38 rfl (rfl) (by omega) (by decide) (fh_d d_Mo_setMat 250 rfl) ?_
          refine lv_iadd hx hb (fh_d d_Mo_setMat 251 rfl) ?_
          refine lv_iload_n hx hb (fh_d d_Mo_setMat 252 rfl) rfl (lv_at hl 4 rfl) ?_
          refine lv_iadd hx hb (fh_d d_Mo_setMat 253 rfl) ?_
          refine lv_isub hx hb (fh_d d_Mo_setMat 254 rfl) ?_
          refine lv_istore (lv' := [(7, .int ((mBs (A1 37) (A1 38) (yS s0) (A1 23 n0) q) - ((((A1 37) q) + ((A1 38) q)) + (yS s0)))), (5, .int (nI i)), (6, .int (mLf (A1 36) (yS s0) c9)), (8, .int (nI q)), (2, .int (yS s0)), (0, .ref x), (1, .int (nI n0))]) hx hb (fh_d d_Mo_setMat 255 rfl) hl (by decide) rfl (fun ls hl => ?_)
          refine lv_iinc (k := 3) (v := (nI q) + 1) (lv' := [(8, .int ((nI q) + 1)), (7, .int ((mBs (A1 37) (A1 38) (yS s0) (A1 23 n0) q) - ((((A1 37) q) + ((A1 38) q)) + (yS s0)))), (5, .int (nI i)), (6, .int (mLf (A1 36) (yS s0) c9)), (2, .int (yS s0)), (0, .ref x), (1, .int (nI n0))]) hx hb (fh_d d_Mo_setMat 256 rfl) hl rfl (by rfl) (by decide) rfl (fun ls hl => ?_)
          refine lv_goto (tgt := 402) hx hb (fh_d d_Mo_setMat 257 rfl) rfl ?_
          rw [nI_1] at hl
          exact ih6 (q + 1) (by omega) H locs _ hP hS (lv_sub hl [2, 3, 1, 0, 4, 5, 6] rfl)
      have L5 : ∀ (t q : Nat), t + q = c9 → ∀ (H : Heap) (locs : List Loc) (ls : Array Slot), fh_P D fh_cl b (mkM ct x g A1 th co at_ wr no nu op pi wi he de) n H → va_S (fh_A b) s.heap H locs → lv_has ls 9 [(5, .int (nI i)), (6, .int (mLf (A1 36) (yS s0) q)), (7, .int (nI q)), (2, .int (yS s0)), (0, .ref x), (1, .int (nI n0))] → W p l e (fh_rm r 0 0) s m args below meth c H locs 0 0 (MQ below (fh_Post D fh_cl b (fun v h' n' => v = none ∧ h' = mkM ct x g (rf_mt A n0 s0 cw cs) th co at_ wr no nu op pi wi he de ∧ n' = n)) args s 0 0 (fh_A b)) (F0 m 357 ls []) := by
        intro t5
        induction t5 with
        | zero =>
          intro q hq H locs ls hP hS hl
          obtain rfl : q = c9 := by omega
          have hl : lv_has ls 9 [(5, .int (nI i)), (6, .int (mLf (A1 36) (yS s0) q)), (7, .int (nI q)), (2, .int (yS s0)), (0, .ref x), (1, .int (nI n0))] := hl
          refine lv_iload hx hb (fh_d d_Mo_setMat 210 rfl) (lv_at hl 2 rfl) ?_
          refine lv_aload_n hx hb (fh_d d_Mo_setMat 211 rfl) rfl (lv_at hl 4 rfl) ?_
          refine fh_get (own := "FormulaSetterModel") (ref := "FormulaSetterModel") (C := "FormulaSetterModel") (T := T_Mo) (N := 53) (v := .ref (x + 10)) hx hb hT i_Mo hown hK hP mkM_o rfl 15 (by decide) (hT _ w875) (fun _ h9 => h9) rfl (fh_d d_Mo_setMat 212 rfl) ?_
          refine lv_iload hx hb (fh_d d_Mo_setMat 213 rfl) (lv_at hl 0 rfl) ?_
          refine fn_iald (f := A1 9) (k := i) hx hb hK hP 0 mkM_a9 rfl (rfl) (hnt.1.2) (by decide) (fh_d d_Mo_setMat 214 rfl) ?_
          rw [show ((A1 9) i) = nI q from e9]
          refine lv_icmp_ge (tgt := 391) hx hb (fh_d d_Mo_setMat 215 rfl) rfl (fun c4 => ?_) (fun c4 => absurd c4 (Classical.not_not.mpr (Int32.le_refl _)))
          refine lv_aload_n hx hb (fh_d d_Mo_setMat 229 rfl) rfl (lv_at hl 4 rfl) ?_
          refine fh_get (own := "FormulaSetterModel") (ref := "FormulaSetterModel") (C := "FormulaSetterModel") (T := T_Mo) (N := 53) (v := .ref (x + 24)) hx hb hT i_Mo hown hK hP mkM_o rfl 30 (by decide) (hT _ w890) (fun _ h9 => h9) rfl (fh_d d_Mo_setMat 230 rfl) ?_
          refine lv_iload_n hx hb (fh_d d_Mo_setMat 231 rfl) rfl (lv_at hl 5 rfl) ?_
          refine fn_iald (f := A1 23) (k := n0) hx hb hK hP 0 mkM_a23 rfl (rfl) (by omega) (by decide) (fh_d d_Mo_setMat 232 rfl) ?_
          refine lv_istore (lv' := [(7, .int ((A1 23) n0)), (5, .int (nI i)), (6, .int (mLf (A1 36) (yS s0) q)), (2, .int (yS s0)), (0, .ref x), (1, .int (nI n0))]) hx hb (fh_d d_Mo_setMat 233 rfl) hl (by decide) rfl (fun ls hl => ?_)
          refine lv_iconst (v := 0) hx hb (fh_d d_Mo_setMat 234 rfl) (by decide) ?_
          refine lv_istore (lv' := [(8, .int 0), (7, .int ((A1 23) n0)), (5, .int (nI i)), (6, .int (mLf (A1 36) (yS s0) q)), (2, .int (yS s0)), (0, .ref x), (1, .int (nI n0))]) hx hb (fh_d d_Mo_setMat 235 rfl) hl (by decide) rfl (fun ls hl => ?_)
          exact L6 r9 0 (by omega) H _ _ hP hS (lv_sub hl [2, 3, 1, 0, 4, 5, 6] rfl)
        | succ t5 ih5 =>
          intro q hq H locs ls hP hS hl
          have hl : lv_has ls 9 [(5, .int (nI i)), (6, .int (mLf (A1 36) (yS s0) q)), (7, .int (nI q)), (2, .int (yS s0)), (0, .ref x), (1, .int (nI n0))] := hl
          refine lv_iload hx hb (fh_d d_Mo_setMat 210 rfl) (lv_at hl 2 rfl) ?_
          refine lv_aload_n hx hb (fh_d d_Mo_setMat 211 rfl) rfl (lv_at hl 4 rfl) ?_
          refine fh_get (own := "FormulaSetterModel") (ref := "FormulaSetterModel") (C := "FormulaSetterModel") (T := T_Mo) (N := 53) (v := .ref (x + 10)) hx hb hT i_Mo hown hK hP mkM_o rfl 15 (by decide) (hT _ w875) (fun _ h9 => h9) rfl (fh_d d_Mo_setMat 212 rfl) ?_
          refine lv_iload hx hb (fh_d d_Mo_setMat 213 rfl) (lv_at hl 0 rfl) ?_
          refine fn_iald (f := A1 9) (k := i) hx hb hK hP 0 mkM_a9 rfl (rfl) (hnt.1.2) (by decide) (fh_d d_Mo_setMat 214 rfl) ?_
          rw [show ((A1 9) i) = nI c9 from e9]
          refine lv_icmp_ge (tgt := 391) hx hb (fh_d d_Mo_setMat 215 rfl) rfl (fun c5 => absurd c5 (fun z => absurd ((nI_leI (a := c9) (b := q) (by omega) (by omega)).mp z) (by omega))) (fun c5 => ?_)
          refine lv_iload hx hb (fh_d d_Mo_setMat 216 rfl) (lv_at hl 1 rfl) ?_
          refine lv_aload_n hx hb (fh_d d_Mo_setMat 217 rfl) rfl (lv_at hl 4 rfl) ?_
          refine fh_get (own := "FormulaSetterModel") (ref := "FormulaSetterModel") (C := "FormulaSetterModel") (T := T_Mo) (N := 53) (v := .ref (x + 37)) hx hb hT i_Mo hown hK hP mkM_o rfl 43 (by decide) (hT _ w903) (fun _ h9 => h9) rfl (fh_d d_Mo_setMat 218 rfl) ?_
          refine lv_iload hx hb (fh_d d_Mo_setMat 219 rfl) (lv_at hl 2 rfl) ?_
          refine fn_iald (f := A1 36) (k := q) hx hb hK hP 0 mkM_a36 rfl (rfl) (by omega) (by decide) (fh_d d_Mo_setMat 220 rfl) ?_
          refine lv_iconst (v := 4) hx hb (fh_d d_Mo_setMat 221 rfl) (by decide) ?_
          refine lv_iload_n hx hb (fh_d d_Mo_setMat 222 rfl) rfl (lv_at hl 3 rfl) ?_
          refine lv_imul hx hb (fh_d d_Mo_setMat 223 rfl) ?_
          refine lv_iadd hx hb (fh_d d_Mo_setMat 224 rfl) ?_
          refine lv_iadd hx hb (fh_d d_Mo_setMat 225 rfl) ?_
          refine lv_istore (lv' := [(6, .int ((mLf (A1 36) (yS s0) q) + (((A1 36) q) + (4 * (yS s0))))), (5, .int (nI i)), (7, .int (nI q)), (2, .int (yS s0)), (0, .ref x), (1, .int (nI n0))]) hx hb (fh_d d_Mo_setMat 226 rfl) hl (by decide) rfl (fun ls hl => ?_)
          refine lv_iinc (k := 2) (v := (nI q) + 1) (lv' := [(7, .int ((nI q) + 1)), (6, .int ((mLf (A1 36) (yS s0) q) + (((A1 36) q) + (4 * (yS s0))))), (5, .int (nI i)), (2, .int (yS s0)), (0, .ref x), (1, .int (nI n0))]) hx hb (fh_d d_Mo_setMat 227 rfl) hl rfl (by rfl) (by decide) rfl (fun ls hl => ?_)
          refine lv_goto (tgt := 357) hx hb (fh_d d_Mo_setMat 228 rfl) rfl ?_
          rw [nI_1] at hl
          exact ih5 (q + 1) (by omega) H locs _ hP hS (lv_sub hl [2, 1, 0, 3, 4, 5] rfl)
      have hl : lv_has ls 9 [(5, .int (nI i)), (2, .int (yS s0)), (0, .ref x), (1, .int (nI n0))] := hl
      refine lv_iload hx hb (fh_d d_Mo_setMat 204 rfl) (lv_at hl 0 rfl) ?_
      refine lv_if_le (tgt := 508) hx hb (fh_d d_Mo_setMat 205 rfl) rfl (fun c6 => absurd c6 (nI_np hnt.1)) (fun c6 => ?_)
      refine lv_iconst (v := 0) hx hb (fh_d d_Mo_setMat 206 rfl) (by decide) ?_
      refine lv_istore (lv' := [(6, .int 0), (5, .int (nI i)), (2, .int (yS s0)), (0, .ref x), (1, .int (nI n0))]) hx hb (fh_d d_Mo_setMat 207 rfl) hl (by decide) rfl (fun ls hl => ?_)
      refine lv_iconst (v := 0) hx hb (fh_d d_Mo_setMat 208 rfl) (by decide) ?_
      refine lv_istore (lv' := [(7, .int 0), (6, .int 0), (5, .int (nI i)), (2, .int (yS s0)), (0, .ref x), (1, .int (nI n0))]) hx hb (fh_d d_Mo_setMat 209 rfl) hl (by decide) rfl (fun ls hl => ?_)
      exact L5 c9 0 (by omega) H _ _ hP hS (lv_sub hl [2, 1, 0, 3, 4, 5] rfl)
  have hk3 : ∀ k, k < 22 → (mA3 n0 s0 (mP A s0 cs)) k = A k := by
    intro k hk
    have e1 : (mA3 n0 s0 (mP A s0 cs)) k = (mP A s0 cs).1 k := by unfold mA3 up2; rw [if_neg (by omega), if_neg (by omega)]
    rw [e1]
    have : ∀ (cs : List Nat) (p : (Nat → Nat → Int32) × Nat), (cs.foldl mceS p).1 k = p.1 k := by
      intro cs
      induction cs with
      | nil => intro p; rfl
      | cons c cs ih => intro p; refine (ih _).trans ?_; show up2 _ _ _ k = _; unfold up2; rw [if_neg (by omega), if_neg (by omega), if_neg (by omega)]
    refine (this cs _).trans ?_
    show rmz A (yS s0) 8 k = _
    unfold rmz up2; rw [if_neg (by omega), if_neg (by omega), if_neg (by omega)]
  obtain ⟨A3, hA3⟩ : ∃ z, z = mA3 n0 s0 (mP A s0 cs) := ⟨_, rfl⟩
  rw [← hA3] at hk3
  have h36 : A3 36 = (mP A s0 cs).1 36 := by rw [hA3]; rfl
  rw [← h36] at hc1 hc2
  have L3 : ∀ (t q : Nat), t + q = cw → ∀ (H : Heap) (locs : List Loc) (ls : Array Slot), fh_P D fh_cl b (mkM ct x g (mwS A3 n0 (yS s0) q) th co at_ wr no nu op pi wi he de) n H → va_S (fh_A b) s.heap H locs → lv_has ls 9 [(5, .int (nI q)), (2, .int (yS s0)), (0, .ref x), (1, .int (nI n0))] → W p l e (fh_rm r 0 0) s m args below meth c H locs 0 0 (MQ below (fh_Post D fh_cl b (fun v h' n' => v = none ∧ h' = mkM ct x g (rf_mt A n0 s0 cw cs) th co at_ wr no nu op pi wi he de ∧ n' = n)) args s 0 0 (fh_A b)) (F0 m 286 ls []) := by
    intro t3
    induction t3 with
    | zero =>
      intro q hq H locs ls hP hS hl
      obtain rfl : q = cw := by omega
      rcases hc2 with hc2 | hc2
      · skip
        have hl : lv_has ls 9 [(5, .int (nI q)), (2, .int (yS s0)), (0, .ref x), (1, .int (nI n0))] := hl
        refine lv_iload hx hb (fh_d d_Mo_setMat 170 rfl) (lv_at hl 0 rfl) ?_
        refine lv_bipush (v := 8) hx hb (fh_d d_Mo_setMat 171 rfl) (by decide) ?_
        refine lv_icmp_ge (tgt := 338) hx hb (fh_d d_Mo_setMat 172 rfl) rfl (fun c7 => ?_) (fun c7 => absurd c7 (Classical.not_not.mpr (by rw [hc2]; decide)))
        refine lv_aload_n hx hb (fh_d d_Mo_setMat 199 rfl) rfl (lv_at hl 2 rfl) ?_
        refine fh_get (own := "FormulaSetterModel") (ref := "FormulaSetterModel") (C := "FormulaSetterModel") (T := T_Mo) (N := 53) (v := .ref (x + 7)) hx hb hT i_Mo hown hK hP mkM_o rfl 12 (by decide) (hT _ w872) (fun _ h9 => h9) rfl (fh_d d_Mo_setMat 200 rfl) ?_
        refine lv_iload_n hx hb (fh_d d_Mo_setMat 201 rfl) rfl (lv_at hl 3 rfl) ?_
        refine fn_iald (f := (mwS A3 n0 (yS s0) q) 6) (k := n0) hx hb hK hP 0 mkM_a6 rfl (rfl) (by omega) (by decide) (fh_d d_Mo_setMat 202 rfl) ?_
        rw [show (((mwS A3 n0 (yS s0) q) 6) n0) = nI (hdz cs) from (congrFun (hk3 6 (by decide)) n0).trans h6]
        refine lv_istore (lv' := [(5, .int (nI (hdz cs))), (2, .int (yS s0)), (0, .ref x), (1, .int (nI n0))]) hx hb (fh_d d_Mo_setMat 203 rfl) hl (by decide) rfl (fun ls hl => ?_)
        exact L4 cs (mwS A3 n0 (yS s0) q) hnx hrc (hk3 7 (by decide)) (hk3 8 (by decide)) (hk3 9 (by decide)) (by unfold rf_mt; rw [← hA3]) H _ _ hP hS (lv_sub hl [0, 1, 2, 3] rfl)
      · skip
        by_cases h8q : q = 8
        · skip
          have hl : lv_has ls 9 [(5, .int (nI q)), (2, .int (yS s0)), (0, .ref x), (1, .int (nI n0))] := hl
          refine lv_iload hx hb (fh_d d_Mo_setMat 170 rfl) (lv_at hl 0 rfl) ?_
          refine lv_bipush (v := 8) hx hb (fh_d d_Mo_setMat 171 rfl) (by decide) ?_
          refine lv_icmp_ge (tgt := 338) hx hb (fh_d d_Mo_setMat 172 rfl) rfl (fun c8 => ?_) (fun c8 => absurd c8 (Classical.not_not.mpr (by rw [h8q]; decide)))
          refine lv_aload_n hx hb (fh_d d_Mo_setMat 199 rfl) rfl (lv_at hl 2 rfl) ?_
          refine fh_get (own := "FormulaSetterModel") (ref := "FormulaSetterModel") (C := "FormulaSetterModel") (T := T_Mo) (N := 53) (v := .ref (x + 7)) hx hb hT i_Mo hown hK hP mkM_o rfl 12 (by decide) (hT _ w872) (fun _ h9 => h9) rfl (fh_d d_Mo_setMat 200 rfl) ?_
          refine lv_iload_n hx hb (fh_d d_Mo_setMat 201 rfl) rfl (lv_at hl 3 rfl) ?_
          refine fn_iald (f := (mwS A3 n0 (yS s0) q) 6) (k := n0) hx hb hK hP 0 mkM_a6 rfl (rfl) (by omega) (by decide) (fh_d d_Mo_setMat 202 rfl) ?_
          rw [show (((mwS A3 n0 (yS s0) q) 6) n0) = nI (hdz cs) from (congrFun (hk3 6 (by decide)) n0).trans h6]
          refine lv_istore (lv' := [(5, .int (nI (hdz cs))), (2, .int (yS s0)), (0, .ref x), (1, .int (nI n0))]) hx hb (fh_d d_Mo_setMat 203 rfl) hl (by decide) rfl (fun ls hl => ?_)
          exact L4 cs (mwS A3 n0 (yS s0) q) hnx hrc (hk3 7 (by decide)) (hk3 8 (by decide)) (hk3 9 (by decide)) (by unfold rf_mt; rw [← hA3]) H _ _ hP hS (lv_sub hl [0, 1, 2, 3] rfl)
        · skip
          have hl : lv_has ls 9 [(5, .int (nI q)), (2, .int (yS s0)), (0, .ref x), (1, .int (nI n0))] := hl
          refine lv_iload hx hb (fh_d d_Mo_setMat 170 rfl) (lv_at hl 0 rfl) ?_
          refine lv_bipush (v := 8) hx hb (fh_d d_Mo_setMat 171 rfl) (by decide) ?_
          refine lv_icmp_ge (tgt := 338) hx hb (fh_d d_Mo_setMat 172 rfl) rfl (fun c9 => absurd c9 (fun z => absurd ((nI_leI (a := 8) (b := q) (by decide) (by omega)).mp z) (by omega))) (fun c9 => ?_)
          refine lv_aload_n hx hb (fh_d d_Mo_setMat 173 rfl) rfl (lv_at hl 2 rfl) ?_
          refine fh_get (own := "FormulaSetterModel") (ref := "FormulaSetterModel") (C := "FormulaSetterModel") (T := T_Mo) (N := 53) (v := .ref (x + 37)) hx hb hT i_Mo hown hK hP mkM_o rfl 43 (by decide) (hT _ w903) (fun _ h9 => h9) rfl (fh_d d_Mo_setMat 174 rfl) ?_
          refine lv_iload hx hb (fh_d d_Mo_setMat 175 rfl) (lv_at hl 0 rfl) ?_
          refine fn_iald (f := (mwS A3 n0 (yS s0) q) 36) (k := q) hx hb hK hP 0 mkM_a36 rfl (rfl) (by omega) (by decide) (fh_d d_Mo_setMat 176 rfl) ?_
          refine lv_if_lt (tgt := 338) hx hb (fh_d d_Mo_setMat 177 rfl) rfl (fun c10 => ?_) (fun c10 => absurd c10 (Classical.not_not.mpr hc2))
          refine lv_aload_n hx hb (fh_d d_Mo_setMat 199 rfl) rfl (lv_at hl 2 rfl) ?_
          refine fh_get (own := "FormulaSetterModel") (ref := "FormulaSetterModel") (C := "FormulaSetterModel") (T := T_Mo) (N := 53) (v := .ref (x + 7)) hx hb hT i_Mo hown hK hP mkM_o rfl 12 (by decide) (hT _ w872) (fun _ h9 => h9) rfl (fh_d d_Mo_setMat 200 rfl) ?_
          refine lv_iload_n hx hb (fh_d d_Mo_setMat 201 rfl) rfl (lv_at hl 3 rfl) ?_
          refine fn_iald (f := (mwS A3 n0 (yS s0) q) 6) (k := n0) hx hb hK hP 0 mkM_a6 rfl (rfl) (by omega) (by decide) (fh_d d_Mo_setMat 202 rfl) ?_
          rw [show (((mwS A3 n0 (yS s0) q) 6) n0) = nI (hdz cs) from (congrFun (hk3 6 (by decide)) n0).trans h6]
          refine lv_istore (lv' := [(5, .int (nI (hdz cs))), (2, .int (yS s0)), (0, .ref x), (1, .int (nI n0))]) hx hb (fh_d d_Mo_setMat 203 rfl) hl (by decide) rfl (fun ls hl => ?_)
          exact L4 cs (mwS A3 n0 (yS s0) q) hnx hrc (hk3 7 (by decide)) (hk3 8 (by decide)) (hk3 9 (by decide)) (by unfold rf_mt; rw [← hA3]) H _ _ hP hS (lv_sub hl [0, 1, 2, 3] rfl)
    | succ t3 ih3 =>
      intro q hq H locs ls hP hS hl
      have hl : lv_has ls 9 [(5, .int (nI q)), (2, .int (yS s0)), (0, .ref x), (1, .int (nI n0))] := hl
      refine lv_iload hx hb (fh_d d_Mo_setMat 170 rfl) (lv_at hl 0 rfl) ?_
      refine lv_bipush (v := 8) hx hb (fh_d d_Mo_setMat 171 rfl) (by decide) ?_
      refine lv_icmp_ge (tgt := 338) hx hb (fh_d d_Mo_setMat 172 rfl) rfl (fun c11 => absurd c11 (fun z => absurd ((nI_leI (a := 8) (b := q) (by decide) (by omega)).mp z) (by omega))) (fun c11 => ?_)
      refine lv_aload_n hx hb (fh_d d_Mo_setMat 173 rfl) rfl (lv_at hl 2 rfl) ?_
      refine fh_get (own := "FormulaSetterModel") (ref := "FormulaSetterModel") (C := "FormulaSetterModel") (T := T_Mo) (N := 53) (v := .ref (x + 37)) hx hb hT i_Mo hown hK hP mkM_o rfl 43 (by decide) (hT _ w903) (fun _ h9 => h9) rfl (fh_d d_Mo_setMat 174 rfl) ?_
      refine lv_iload hx hb (fh_d d_Mo_setMat 175 rfl) (lv_at hl 0 rfl) ?_
      refine fn_iald (f := (mwS A3 n0 (yS s0) q) 36) (k := q) hx hb hK hP 0 mkM_a36 rfl (rfl) (by omega) (by decide) (fh_d d_Mo_setMat 176 rfl) ?_
      refine lv_if_lt (tgt := 338) hx hb (fh_d d_Mo_setMat 177 rfl) rfl (fun c12 => absurd c12 (hc1 q (by omega))) (fun c12 => ?_)
      refine lv_aload_n hx hb (fh_d d_Mo_setMat 178 rfl) rfl (lv_at hl 2 rfl) ?_
      refine fh_get (own := "FormulaSetterModel") (ref := "FormulaSetterModel") (C := "FormulaSetterModel") (T := T_Mo) (N := 53) (v := .ref (x + 23)) hx hb hT i_Mo hown hK hP mkM_o rfl 29 (by decide) (hT _ w889) (fun _ h9 => h9) rfl (fh_d d_Mo_setMat 179 rfl) ?_
      refine lv_iload_n hx hb (fh_d d_Mo_setMat 180 rfl) rfl (lv_at hl 3 rfl) ?_
      refine lv_dup2_11 hx hb (fh_d d_Mo_setMat 181 rfl) rfl rfl ?_
      refine fn_iald (f := (mwS A3 n0 (yS s0) q) 22) (k := n0) hx hb hK hP 0 mkM_a22 rfl (rfl) (by omega) (by decide) (fh_d d_Mo_setMat 182 rfl) ?_
      rw [show (((mwS A3 n0 (yS s0) q) 22) n0) = mWd (A3 36) (yS s0) q from upd_s]
      refine lv_aload_n hx hb (fh_d d_Mo_setMat 183 rfl) rfl (lv_at hl 2 rfl) ?_
      refine fh_get (own := "FormulaSetterModel") (ref := "FormulaSetterModel") (C := "FormulaSetterModel") (T := T_Mo) (N := 53) (v := .ref (x + 37)) hx hb hT i_Mo hown hK hP mkM_o rfl 43 (by decide) (hT _ w903) (fun _ h9 => h9) rfl (fh_d d_Mo_setMat 184 rfl) ?_
      refine lv_iload hx hb (fh_d d_Mo_setMat 185 rfl) (lv_at hl 0 rfl) ?_
      refine fn_iald (f := (mwS A3 n0 (yS s0) q) 36) (k := q) hx hb hK hP 0 mkM_a36 rfl (rfl) (by omega) (by decide) (fh_d d_Mo_setMat 186 rfl) ?_
      refine lv_iload hx hb (fh_d d_Mo_setMat 187 rfl) (lv_at hl 0 rfl) ?_
      refine lv_if_le (tgt := 328) hx hb (fh_d d_Mo_setMat 188 rfl) rfl (fun c13 => ?_) (fun c13 => ?_)
      · refine lv_iconst (v := 0) hx hb (fh_d d_Mo_setMat 193 rfl) (by decide) ?_
        refine lv_iadd hx hb (fh_d d_Mo_setMat 194 rfl) ?_
        refine lv_iadd hx hb (fh_d d_Mo_setMat 195 rfl) ?_
        refine fn_iast (f := (mwS A3 n0 (yS s0) q) 22) (k := n0) hx hb hK hP hS 0 mkM_a22 rfl (rfl) (by omega) (by decide) (fh_d d_Mo_setMat 196 rfl) (fun H locs hP hS => ?_)
        replace hP := fh_P.eq (h' := mkM ct x g (up2 (mwS A3 n0 (yS s0) q) 22 (upd ((mwS A3 n0 (yS s0) q) 22) n0 ((mWd (A3 36) (yS s0) q) + ((((mwS A3 n0 (yS s0) q) 36) q) + 0)))) th co at_ wr no nu op pi wi he de) hP mkM_u22
        refine lv_iinc (k := 0) (v := (nI q) + 1) (lv' := [(5, .int ((nI q) + 1)), (2, .int (yS s0)), (0, .ref x), (1, .int (nI n0))]) hx hb (fh_d d_Mo_setMat 197 rfl) hl rfl (by rfl) (by decide) rfl (fun ls hl => ?_)
        refine lv_goto (tgt := 286) hx hb (fh_d d_Mo_setMat 198 rfl) rfl ?_
        rw [nI_1] at hl
        have ew : (if 0 < q then 4 * yS s0 else (0 : Int32)) = 0 := if_neg (fun z => absurd ((nI_leI (a := q) (b := 0) (by omega) (by decide)).mp c13) (by omega))
        refine ih3 (q + 1) (by omega) H locs _ ?_ hS (lv_sub hl [0, 1, 2, 3] rfl)
        rw [← mwS_s (v := mWd (A3 36) (yS s0) q + (A3 36 q + 0)) (by show _ = mWd (A3 36) (yS s0) q + (A3 36 q + (if 0 < q then 4 * yS s0 else 0)); rw [ew])]; exact hP
      · refine lv_iconst (v := 4) hx hb (fh_d d_Mo_setMat 189 rfl) (by decide) ?_
        refine lv_iload_n hx hb (fh_d d_Mo_setMat 190 rfl) rfl (lv_at hl 1 rfl) ?_
        refine lv_imul hx hb (fh_d d_Mo_setMat 191 rfl) ?_
        refine lv_goto (tgt := 329) hx hb (fh_d d_Mo_setMat 192 rfl) rfl ?_
        refine lv_iadd hx hb (fh_d d_Mo_setMat 194 rfl) ?_
        refine lv_iadd hx hb (fh_d d_Mo_setMat 195 rfl) ?_
        refine fn_iast (f := (mwS A3 n0 (yS s0) q) 22) (k := n0) hx hb hK hP hS 0 mkM_a22 rfl (rfl) (by omega) (by decide) (fh_d d_Mo_setMat 196 rfl) (fun H locs hP hS => ?_)
        replace hP := fh_P.eq (h' := mkM ct x g (up2 (mwS A3 n0 (yS s0) q) 22 (upd ((mwS A3 n0 (yS s0) q) 22) n0 ((mWd (A3 36) (yS s0) q) + ((((mwS A3 n0 (yS s0) q) 36) q) + (4 * (yS s0)))))) th co at_ wr no nu op pi wi he de) hP mkM_u22
        refine lv_iinc (k := 0) (v := (nI q) + 1) (lv' := [(5, .int ((nI q) + 1)), (2, .int (yS s0)), (0, .ref x), (1, .int (nI n0))]) hx hb (fh_d d_Mo_setMat 197 rfl) hl rfl (by rfl) (by decide) rfl (fun ls hl => ?_)
        refine lv_goto (tgt := 286) hx hb (fh_d d_Mo_setMat 198 rfl) rfl ?_
        rw [nI_1] at hl
        have ew : (if 0 < q then 4 * yS s0 else (0 : Int32)) = 4 * yS s0 := if_pos (Nat.pos_of_ne_zero fun z => c13 (by rw [z]; decide))
        refine ih3 (q + 1) (by omega) H locs _ ?_ hS (lv_sub hl [0, 1, 2, 3] rfl)
        rw [← mwS_s (v := mWd (A3 36) (yS s0) q + (A3 36 q + 4 * yS s0)) (by show _ = mWd (A3 36) (yS s0) q + (A3 36 q + (if 0 < q then 4 * yS s0 else 0)); rw [ew])]; exact hP
  obtain ⟨P, hP9⟩ : ∃ z, z = mP A s0 cs := ⟨_, rfl⟩
  have hkP : P.1 20 = A 20 := by rw [← hk3 20 (by decide), hA3, ← hP9]; rfl
  have L2 : ∀ (t q : Nat), t + q = P.2 → P.2 ≤ 8 → ∀ (H : Heap) (locs : List Loc) (ls : Array Slot), fh_P D fh_cl b (mkM ct x g P.1 th co at_ wr no nu op pi wi he de) n H → va_S (fh_A b) s.heap H locs → lv_has ls 9 [(3, .int (nI P.2)), (4, .int (mAl (P.1 37) (P.1 38) (yS s0) q)), (5, .int (nI q)), (2, .int (yS s0)), (0, .ref x), (1, .int (nI n0))] → W p l e (fh_rm r 0 0) s m args below meth c H locs 0 0 (MQ below (fh_Post D fh_cl b (fun v h' n' => v = none ∧ h' = mkM ct x g (rf_mt A n0 s0 cw cs) th co at_ wr no nu op pi wi he de ∧ n' = n)) args s 0 0 (fh_A b)) (F0 m 194 ls []) := by
    intro t2
    induction t2 with
    | zero =>
      intro q hq hro H locs ls hP hS hl
      obtain rfl : q = P.2 := by omega
      have hl : lv_has ls 9 [(3, .int (nI P.2)), (4, .int (mAl (P.1 37) (P.1 38) (yS s0) P.2)), (5, .int (nI P.2)), (2, .int (yS s0)), (0, .ref x), (1, .int (nI n0))] := hl
      refine lv_iload hx hb (fh_d d_Mo_setMat 115 rfl) (lv_at hl 2 rfl) ?_
      refine lv_iload_n hx hb (fh_d d_Mo_setMat 116 rfl) rfl (lv_at hl 0 rfl) ?_
      refine lv_icmp_ge (tgt := 237) hx hb (fh_d d_Mo_setMat 117 rfl) rfl (fun c14 => ?_) (fun c14 => absurd c14 (Classical.not_not.mpr (Int32.le_refl _)))
      refine lv_aload_n hx hb (fh_d d_Mo_setMat 138 rfl) rfl (lv_at hl 4 rfl) ?_
      refine fh_get (own := "FormulaSetterModel") (ref := "FormulaSetterModel") (C := "FormulaSetterModel") (T := T_Mo) (N := 53) (v := .ref (x + 24)) hx hb hT i_Mo hown hK hP mkM_o rfl 30 (by decide) (hT _ w890) (fun _ h9 => h9) rfl (fh_d d_Mo_setMat 139 rfl) ?_
      refine lv_iload_n hx hb (fh_d d_Mo_setMat 140 rfl) rfl (lv_at hl 5 rfl) ?_
      refine lv_aload_n hx hb (fh_d d_Mo_setMat 141 rfl) rfl (lv_at hl 4 rfl) ?_
      refine fh_get (own := "FormulaSetterModel") (ref := "FormulaSetterModel") (C := "FormulaSetterModel") (T := T_Mo) (N := 53) (v := .ref (x + 21)) hx hb hT i_Mo hown hK hP mkM_o rfl 27 (by decide) (hT _ w887) (fun _ h9 => h9) rfl (fh_d d_Mo_setMat 142 rfl) ?_
      refine lv_iload_n hx hb (fh_d d_Mo_setMat 143 rfl) rfl (lv_at hl 5 rfl) ?_
      refine fn_iald (f := P.1 20) (k := n0) hx hb hK hP 0 mkM_a20 rfl (rfl) (by omega) (by decide) (fh_d d_Mo_setMat 144 rfl) ?_
      rw [show ((P.1 20) n0) = nI s0 from (congrFun hkP n0).trans h20]
      refine fh_callS (cc' := c_Mo_axisOf) (nL' := 1) (rest := [.int (nI n0), .ref (x + 24)]) (av := [.int (nI s0)]) X hR (m_Mo_xO l D ct b RO hR (r - 1) (by omega) n s0 hs0 (mkM ct x g P.1 th co at_ wr no nu op pi wi he de)) w1167 w1165 w1166 w9 ⟨by decide, by decide, by show _ = some 1; decide +kernel⟩ (by omega) (by decide) hP hS hl.1 rfl (by exact Nat.le_of_ble_eq_true rfl) (fh_d d_Mo_setMat 145 rfl) ⟨Nat.le_refl _, Nat.le_refl _⟩ (fun v9 h9 n9 H locs hq hP hS => ?_)
      obtain ⟨rfl, q15a, q15b⟩ := hq
      rw [q15a, q15b] at hP
      refine W.eq (g2 := F0 m 251 ls [.int (yX s0), .int (nI n0), .ref (x + 24)]) rfl ?_
      refine lv_iload hx hb (fh_d d_Mo_setMat 146 rfl) (lv_at hl 1 rfl) ?_
      refine lv_iconst (v := 2) hx hb (fh_d d_Mo_setMat 147 rfl) (by decide) ?_
      refine lv_idiv hx hb (fh_d d_Mo_setMat 148 rfl) (by decide) ?_
      refine lv_iadd hx hb (fh_d d_Mo_setMat 149 rfl) ?_
      refine fn_iast (f := P.1 23) (k := n0) hx hb hK hP hS 0 mkM_a23 rfl (rfl) (by omega) (by decide) (fh_d d_Mo_setMat 150 rfl) (fun H locs hP hS => ?_)
      replace hP := fh_P.eq (h' := mkM ct x g (up2 P.1 23 (upd (P.1 23) n0 ((yX s0) + ((mAl (P.1 37) (P.1 38) (yS s0) P.2) / 2)))) th co at_ wr no nu op pi wi he de) hP mkM_u23
      refine lv_aload_n hx hb (fh_d d_Mo_setMat 151 rfl) rfl (lv_at hl 4 rfl) ?_
      refine fh_get (own := "FormulaSetterModel") (ref := "FormulaSetterModel") (C := "FormulaSetterModel") (T := T_Mo) (N := 53) (v := .ref (x + 25)) hx hb hT i_Mo hown hK hP mkM_o rfl 31 (by decide) (hT _ w891) (fun _ h9 => h9) rfl (fh_d d_Mo_setMat 152 rfl) ?_
      refine lv_iload_n hx hb (fh_d d_Mo_setMat 153 rfl) rfl (lv_at hl 5 rfl) ?_
      refine lv_iconst (v := 0) hx hb (fh_d d_Mo_setMat 154 rfl) (by decide) ?_
      refine lv_iload hx hb (fh_d d_Mo_setMat 155 rfl) (lv_at hl 1 rfl) ?_
      refine lv_aload_n hx hb (fh_d d_Mo_setMat 156 rfl) rfl (lv_at hl 4 rfl) ?_
      refine fh_get (own := "FormulaSetterModel") (ref := "FormulaSetterModel") (C := "FormulaSetterModel") (T := T_Mo) (N := 53) (v := .ref (x + 24)) hx hb hT i_Mo hown hK hP mkM_o rfl 30 (by decide) (hT _ w890) (fun _ h9 => h9) rfl (fh_d d_Mo_setMat 157 rfl) ?_
      refine lv_iload_n hx hb (fh_d d_Mo_setMat 158 rfl) rfl (lv_at hl 5 rfl) ?_
      refine fn_iald (f := upd (P.1 23) n0 ((yX s0) + ((mAl (P.1 37) (P.1 38) (yS s0) P.2) / 2))) (k := n0) hx hb hK hP 0 mkM_a23 rfl (rfl) (by omega) (by decide) (fh_d d_Mo_setMat 159 rfl) ?_
      rw [show ((upd (P.1 23) n0 ((yX s0) + ((mAl (P.1 37) (P.1 38) (yS s0) P.2) / 2))) n0) = ((yX s0) + ((mAl (P.1 37) (P.1 38) (yS s0) P.2) / 2)) from upd_s]
      refine lv_isub hx hb (fh_d d_Mo_setMat 160 rfl) ?_
      refine fh_callS (cc' := c_Mo_most) (nL' := 2) (rest := [.int (nI n0), .ref (x + 25)]) (av := [.int 0, .int ((mAl (P.1 37) (P.1 38) (yS s0) P.2) - ((yX s0) + ((mAl (P.1 37) (P.1 38) (yS s0) P.2) / 2)))]) X hR (m_Mo_most l D ct b RO (r - 1) n 0 ((mAl (P.1 37) (P.1 38) (yS s0) P.2) - ((yX s0) + ((mAl (P.1 37) (P.1 38) (yS s0) P.2) / 2))) (mkM ct x g (up2 P.1 23 (upd (P.1 23) n0 ((yX s0) + ((mAl (P.1 37) (P.1 38) (yS s0) P.2) / 2)))) th co at_ wr no nu op pi wi he de)) w1151 w1149 w1150 w9 ⟨by decide, by decide, by show _ = some 2; decide +kernel⟩ (by omega) (by decide) hP hS hl.1 rfl (by exact Nat.le_of_ble_eq_true rfl) (fh_d d_Mo_setMat 161 rfl) ⟨Nat.le_refl _, Nat.le_refl _⟩ (fun v9 h9 n9 H locs hq hP hS => ?_)
      obtain ⟨rfl, q16a, q16b⟩ := hq
      rw [q16a, q16b] at hP
      refine W.eq (g2 := F0 m 275 ls [.int (ms 0 ((mAl (P.1 37) (P.1 38) (yS s0) P.2) - ((yX s0) + ((mAl (P.1 37) (P.1 38) (yS s0) P.2) / 2)))), .int (nI n0), .ref (x + 25)]) rfl ?_
      refine fn_iast (f := P.1 24) (k := n0) hx hb hK hP hS 0 mkM_a24 rfl (rfl) (by omega) (by decide) (fh_d d_Mo_setMat 162 rfl) (fun H locs hP hS => ?_)
      replace hP := fh_P.eq (h' := mkM ct x g (up2 (up2 P.1 23 (upd (P.1 23) n0 ((yX s0) + ((mAl (P.1 37) (P.1 38) (yS s0) P.2) / 2)))) 24 (upd (P.1 24) n0 (ms 0 ((mAl (P.1 37) (P.1 38) (yS s0) P.2) - ((yX s0) + ((mAl (P.1 37) (P.1 38) (yS s0) P.2) / 2)))))) th co at_ wr no nu op pi wi he de) hP mkM_u24
      refine lv_aload_n hx hb (fh_d d_Mo_setMat 163 rfl) rfl (lv_at hl 4 rfl) ?_
      refine fh_get (own := "FormulaSetterModel") (ref := "FormulaSetterModel") (C := "FormulaSetterModel") (T := T_Mo) (N := 53) (v := .ref (x + 23)) hx hb hT i_Mo hown hK hP mkM_o rfl 29 (by decide) (hT _ w889) (fun _ h9 => h9) rfl (fh_d d_Mo_setMat 164 rfl) ?_
      refine lv_iload_n hx hb (fh_d d_Mo_setMat 165 rfl) rfl (lv_at hl 5 rfl) ?_
      refine lv_iconst (v := 0) hx hb (fh_d d_Mo_setMat 166 rfl) (by decide) ?_
      refine fn_iast (f := P.1 22) (k := n0) hx hb hK hP hS 0 mkM_a22 rfl (rfl) (by omega) (by decide) (fh_d d_Mo_setMat 167 rfl) (fun H locs hP hS => ?_)
      replace hP := fh_P.eq (h' := mkM ct x g (up2 (up2 (up2 P.1 23 (upd (P.1 23) n0 ((yX s0) + ((mAl (P.1 37) (P.1 38) (yS s0) P.2) / 2)))) 24 (upd (P.1 24) n0 (ms 0 ((mAl (P.1 37) (P.1 38) (yS s0) P.2) - ((yX s0) + ((mAl (P.1 37) (P.1 38) (yS s0) P.2) / 2)))))) 22 (upd (P.1 22) n0 0)) th co at_ wr no nu op pi wi he de) hP mkM_u22
      refine lv_iconst (v := 0) hx hb (fh_d d_Mo_setMat 168 rfl) (by decide) ?_
      refine lv_istore (lv' := [(5, .int 0), (3, .int (nI P.2)), (4, .int (mAl (P.1 37) (P.1 38) (yS s0) P.2)), (2, .int (yS s0)), (0, .ref x), (1, .int (nI n0))]) hx hb (fh_d d_Mo_setMat 169 rfl) hl (by decide) rfl (fun ls hl => ?_)
      exact L3 cw 0 (by omega) H _ _ (by rw [hA3, ← hP9]; exact hP) hS (lv_sub hl [0, 3, 4, 5] rfl)
    | succ t2 ih2 =>
      intro q hq hro H locs ls hP hS hl
      have hl : lv_has ls 9 [(3, .int (nI P.2)), (4, .int (mAl (P.1 37) (P.1 38) (yS s0) q)), (5, .int (nI q)), (2, .int (yS s0)), (0, .ref x), (1, .int (nI n0))] := hl
      refine lv_iload hx hb (fh_d d_Mo_setMat 115 rfl) (lv_at hl 2 rfl) ?_
      refine lv_iload_n hx hb (fh_d d_Mo_setMat 116 rfl) rfl (lv_at hl 0 rfl) ?_
      refine lv_icmp_ge (tgt := 237) hx hb (fh_d d_Mo_setMat 117 rfl) rfl (fun c17 => absurd c17 (fun z => absurd ((nI_leI (a := P.2) (b := q) (by omega) (by omega)).mp z) (by omega))) (fun c17 => ?_)
      refine lv_iload hx hb (fh_d d_Mo_setMat 118 rfl) (lv_at hl 1 rfl) ?_
      refine lv_aload_n hx hb (fh_d d_Mo_setMat 119 rfl) rfl (lv_at hl 4 rfl) ?_
      refine fh_get (own := "FormulaSetterModel") (ref := "FormulaSetterModel") (C := "FormulaSetterModel") (T := T_Mo) (N := 53) (v := .ref (x + 38)) hx hb hT i_Mo hown hK hP mkM_o rfl 44 (by decide) (hT _ w904) (fun _ h9 => h9) rfl (fh_d d_Mo_setMat 120 rfl) ?_
      refine lv_iload hx hb (fh_d d_Mo_setMat 121 rfl) (lv_at hl 2 rfl) ?_
      refine fn_iald (f := P.1 37) (k := q) hx hb hK hP 0 mkM_a37 rfl (rfl) (by omega) (by decide) (fh_d d_Mo_setMat 122 rfl) ?_
      refine lv_aload_n hx hb (fh_d d_Mo_setMat 123 rfl) rfl (lv_at hl 4 rfl) ?_
      refine fh_get (own := "FormulaSetterModel") (ref := "FormulaSetterModel") (C := "FormulaSetterModel") (T := T_Mo) (N := 53) (v := .ref (x + 39)) hx hb hT i_Mo hown hK hP mkM_o rfl 45 (by decide) (hT _ w905) (fun _ h9 => h9) rfl (fh_d d_Mo_setMat 124 rfl) ?_
      refine lv_iload hx hb (fh_d d_Mo_setMat 125 rfl) (lv_at hl 2 rfl) ?_
      refine fn_iald (f := P.1 38) (k := q) hx hb hK hP 0 mkM_a38 rfl (rfl) (by omega) (by decide) (fh_d d_Mo_setMat 126 rfl) ?_
      refine lv_iadd hx hb (fh_d d_Mo_setMat 127 rfl) ?_
      refine lv_iload hx hb (fh_d d_Mo_setMat 128 rfl) (lv_at hl 2 rfl) ?_
      refine lv_if_le (tgt := 226) hx hb (fh_d d_Mo_setMat 129 rfl) rfl (fun c18 => ?_) (fun c18 => ?_)
      · refine lv_iconst (v := 0) hx hb (fh_d d_Mo_setMat 132 rfl) (by decide) ?_
        refine lv_iadd hx hb (fh_d d_Mo_setMat 133 rfl) ?_
        refine lv_iadd hx hb (fh_d d_Mo_setMat 134 rfl) ?_
        refine lv_istore (lv' := [(4, .int ((mAl (P.1 37) (P.1 38) (yS s0) q) + ((((P.1 37) q) + ((P.1 38) q)) + 0))), (3, .int (nI P.2)), (5, .int (nI q)), (2, .int (yS s0)), (0, .ref x), (1, .int (nI n0))]) hx hb (fh_d d_Mo_setMat 135 rfl) hl (by decide) rfl (fun ls hl => ?_)
        refine lv_iinc (k := 2) (v := (nI q) + 1) (lv' := [(5, .int ((nI q) + 1)), (4, .int ((mAl (P.1 37) (P.1 38) (yS s0) q) + ((((P.1 37) q) + ((P.1 38) q)) + 0))), (3, .int (nI P.2)), (2, .int (yS s0)), (0, .ref x), (1, .int (nI n0))]) hx hb (fh_d d_Mo_setMat 136 rfl) hl rfl (by rfl) (by decide) rfl (fun ls hl => ?_)
        refine lv_goto (tgt := 194) hx hb (fh_d d_Mo_setMat 137 rfl) rfl ?_
        rw [nI_1] at hl
        have ew : (if 0 < q then yS s0 else (0 : Int32)) = 0 := if_neg (fun z => absurd ((nI_leI (a := q) (b := 0) (by omega) (by decide)).mp c18) (by omega))
        have ea : mAl (P.1 37) (P.1 38) (yS s0) (q + 1) = (mAl (P.1 37) (P.1 38) (yS s0) q) + ((((P.1 37) q) + ((P.1 38) q)) + 0) := by show mAl (P.1 37) (P.1 38) (yS s0) q + ((P.1 37 q + P.1 38 q) + (if 0 < q then yS s0 else 0)) = _; rw [ew]
        exact ih2 (q + 1) (by omega) hro H locs _ hP hS (by rw [ea]; exact lv_sub hl [2, 1, 0, 3, 4, 5] rfl)
      · refine lv_iload_n hx hb (fh_d d_Mo_setMat 130 rfl) rfl (lv_at hl 3 rfl) ?_
        refine lv_goto (tgt := 227) hx hb (fh_d d_Mo_setMat 131 rfl) rfl ?_
        refine lv_iadd hx hb (fh_d d_Mo_setMat 133 rfl) ?_
        refine lv_iadd hx hb (fh_d d_Mo_setMat 134 rfl) ?_
        refine lv_istore (lv' := [(4, .int ((mAl (P.1 37) (P.1 38) (yS s0) q) + ((((P.1 37) q) + ((P.1 38) q)) + (yS s0)))), (3, .int (nI P.2)), (5, .int (nI q)), (2, .int (yS s0)), (0, .ref x), (1, .int (nI n0))]) hx hb (fh_d d_Mo_setMat 135 rfl) hl (by decide) rfl (fun ls hl => ?_)
        refine lv_iinc (k := 2) (v := (nI q) + 1) (lv' := [(5, .int ((nI q) + 1)), (4, .int ((mAl (P.1 37) (P.1 38) (yS s0) q) + ((((P.1 37) q) + ((P.1 38) q)) + (yS s0)))), (3, .int (nI P.2)), (2, .int (yS s0)), (0, .ref x), (1, .int (nI n0))]) hx hb (fh_d d_Mo_setMat 136 rfl) hl rfl (by rfl) (by decide) rfl (fun ls hl => ?_)
        refine lv_goto (tgt := 194) hx hb (fh_d d_Mo_setMat 137 rfl) rfl ?_
        rw [nI_1] at hl
        have ew : (if 0 < q then yS s0 else (0 : Int32)) = yS s0 := if_pos (Nat.pos_of_ne_zero fun z => c18 (by rw [z]; decide))
        have ea : mAl (P.1 37) (P.1 38) (yS s0) (q + 1) = (mAl (P.1 37) (P.1 38) (yS s0) q) + ((((P.1 37) q) + ((P.1 38) q)) + (yS s0)) := by show mAl (P.1 37) (P.1 38) (yS s0) q + ((P.1 37 q + P.1 38 q) + (if 0 < q then yS s0 else 0)) = _; rw [ew]
        exact ih2 (q + 1) (by omega) hro H locs _ hP hS (by rw [ea]; exact lv_sub hl [2, 1, 0, 3, 4, 5] rfl)
  have L1 : ∀ (t : List Nat) (A1 : Nat → Nat → Int32) (ro : Nat), nxA (A 7) t → (∀ i ∈ t, okw (A 9 i) ∧ okw (A 8 i)) → A1 7 = A 7 → A1 8 = A 8 → A1 9 = A 9 → ro ≤ 8 → t.foldl mceS (A1, ro) = P → ∀ (H : Heap) (locs : List Loc) (ls : Array Slot), fh_P D fh_cl b (mkM ct x g A1 th co at_ wr no nu op pi wi he de) n H → va_S (fh_A b) s.heap H locs → lv_has ls 9 [(3, .int (nI ro)), (4, .int (nI (hdz t))), (2, .int (yS s0)), (0, .ref x), (1, .int (nI n0))] → W p l e (fh_rm r 0 0) s m args below meth c H locs 0 0 (MQ below (fh_Post D fh_cl b (fun v h' n' => v = none ∧ h' = mkM ct x g (rf_mt A n0 s0 cw cs) th co at_ wr no nu op pi wi he de ∧ n' = n)) args s 0 0 (fh_A b)) (F0 m 59 ls []) := by
    intro t
    induction t with
    | nil =>
      intro A1 ro hnt hrt hz7 hz8 hz9 hro hfo H locs ls hP hS hl
      have hfo : (A1, ro) = P := hfo
      obtain rfl : A1 = P.1 := by rw [← hfo]
      obtain rfl : ro = P.2 := by rw [← hfo]
      have hl : lv_has ls 9 [(3, .int (nI P.2)), (4, .int (nI 0)), (2, .int (yS s0)), (0, .ref x), (1, .int (nI n0))] := hl
      refine lv_iload hx hb (fh_d d_Mo_setMat 39 rfl) (lv_at hl 1 rfl) ?_
      refine lv_if_le (tgt := 188) hx hb (fh_d d_Mo_setMat 40 rfl) rfl (fun c19 => ?_) (fun c19 => absurd c19 (fun z => z (by decide)))
      refine lv_iconst (v := 0) hx hb (fh_d d_Mo_setMat 111 rfl) (by decide) ?_
      refine lv_istore (lv' := [(4, .int 0), (3, .int (nI P.2)), (2, .int (yS s0)), (0, .ref x), (1, .int (nI n0))]) hx hb (fh_d d_Mo_setMat 112 rfl) hl (by decide) rfl (fun ls hl => ?_)
      refine lv_iconst (v := 0) hx hb (fh_d d_Mo_setMat 113 rfl) (by decide) ?_
      refine lv_istore (lv' := [(5, .int 0), (4, .int 0), (3, .int (nI P.2)), (2, .int (yS s0)), (0, .ref x), (1, .int (nI n0))]) hx hb (fh_d d_Mo_setMat 114 rfl) hl (by decide) rfl (fun ls hl => ?_)
      exact L2 P.2 0 (by omega) hro H _ _ hP hS (lv_sub hl [2, 1, 0, 3, 4, 5] rfl)
    | cons i t ih =>
      intro A1 ro hnt hrt hz7 hz8 hz9 hro hfo H locs ls hP hS hl
      obtain ⟨ow9, ow8⟩ := hrt i List.mem_cons_self
      obtain ⟨c9, hc9, e9⟩ : ∃ z, z < 8 ∧ A1 9 i = nI z := ⟨_, ow9.2, by rw [hz9]; exact ow9.1⟩
      obtain ⟨r9, hr9, e8⟩ : ∃ z, z < 8 ∧ A1 8 i = nI z := ⟨_, ow8.2, by rw [hz8]; exact ow8.1⟩
      have ec : ixI (A1 9 i) = c9 := by rw [e9]; exact nI_clamp (by omega)
      have er : ixI (A1 8 i) = r9 := by rw [e8]; exact nI_clamp (by omega)
      have hl : lv_has ls 9 [(3, .int (nI ro)), (4, .int (nI i)), (2, .int (yS s0)), (0, .ref x), (1, .int (nI n0))] := hl
      refine lv_iload hx hb (fh_d d_Mo_setMat 39 rfl) (lv_at hl 1 rfl) ?_
      refine lv_if_le (tgt := 188) hx hb (fh_d d_Mo_setMat 40 rfl) rfl (fun c20 => absurd c20 (nI_np hnt.1)) (fun c20 => ?_)
      refine lv_aload_n hx hb (fh_d d_Mo_setMat 41 rfl) rfl (lv_at hl 3 rfl) ?_
      refine fh_get (own := "FormulaSetterModel") (ref := "FormulaSetterModel") (C := "FormulaSetterModel") (T := T_Mo) (N := 53) (v := .ref (x + 37)) hx hb hT i_Mo hown hK hP mkM_o rfl 43 (by decide) (hT _ w903) (fun _ h9 => h9) rfl (fh_d d_Mo_setMat 42 rfl) ?_
      refine lv_aload_n hx hb (fh_d d_Mo_setMat 43 rfl) rfl (lv_at hl 3 rfl) ?_
      refine fh_get (own := "FormulaSetterModel") (ref := "FormulaSetterModel") (C := "FormulaSetterModel") (T := T_Mo) (N := 53) (v := .ref (x + 10)) hx hb hT i_Mo hown hK hP mkM_o rfl 15 (by decide) (hT _ w875) (fun _ h9 => h9) rfl (fh_d d_Mo_setMat 44 rfl) ?_
      refine lv_iload hx hb (fh_d d_Mo_setMat 45 rfl) (lv_at hl 1 rfl) ?_
      refine fn_iald (f := A1 9) (k := i) hx hb hK hP 0 mkM_a9 rfl (rfl) (hnt.1.2) (by decide) (fh_d d_Mo_setMat 46 rfl) ?_
      rw [show ((A1 9) i) = nI c9 from e9]
      refine lv_aload_n hx hb (fh_d d_Mo_setMat 47 rfl) rfl (lv_at hl 3 rfl) ?_
      refine fh_get (own := "FormulaSetterModel") (ref := "FormulaSetterModel") (C := "FormulaSetterModel") (T := T_Mo) (N := 53) (v := .ref (x + 37)) hx hb hT i_Mo hown hK hP mkM_o rfl 43 (by decide) (hT _ w903) (fun _ h9 => h9) rfl (fh_d d_Mo_setMat 48 rfl) ?_
      refine lv_aload_n hx hb (fh_d d_Mo_setMat 49 rfl) rfl (lv_at hl 3 rfl) ?_
      refine fh_get (own := "FormulaSetterModel") (ref := "FormulaSetterModel") (C := "FormulaSetterModel") (T := T_Mo) (N := 53) (v := .ref (x + 10)) hx hb hT i_Mo hown hK hP mkM_o rfl 15 (by decide) (hT _ w875) (fun _ h9 => h9) rfl (fh_d d_Mo_setMat 50 rfl) ?_
      refine lv_iload hx hb (fh_d d_Mo_setMat 51 rfl) (lv_at hl 1 rfl) ?_
      refine fn_iald (f := A1 9) (k := i) hx hb hK hP 0 mkM_a9 rfl (rfl) (hnt.1.2) (by decide) (fh_d d_Mo_setMat 52 rfl) ?_
      rw [show ((A1 9) i) = nI c9 from e9]
      refine fn_iald (f := A1 36) (k := c9) hx hb hK hP 0 mkM_a36 rfl (rfl) (by omega) (by decide) (fh_d d_Mo_setMat 53 rfl) ?_
      refine lv_aload_n hx hb (fh_d d_Mo_setMat 54 rfl) rfl (lv_at hl 3 rfl) ?_
      refine fh_get (own := "FormulaSetterModel") (ref := "FormulaSetterModel") (C := "FormulaSetterModel") (T := T_Mo) (N := 53) (v := .ref (x + 23)) hx hb hT i_Mo hown hK hP mkM_o rfl 29 (by decide) (hT _ w889) (fun _ h9 => h9) rfl (fh_d d_Mo_setMat 55 rfl) ?_
      refine lv_iload hx hb (fh_d d_Mo_setMat 56 rfl) (lv_at hl 1 rfl) ?_
      refine fn_iald (f := A1 22) (k := i) hx hb hK hP 0 mkM_a22 rfl (rfl) (hnt.1.2) (by decide) (fh_d d_Mo_setMat 57 rfl) ?_
      refine fh_callS (cc' := c_Mo_most) (nL' := 2) (rest := [.int (nI c9), .ref (x + 37)]) (av := [.int ((A1 36) c9), .int ((A1 22) i)]) X hR (m_Mo_most l D ct b RO (r - 1) n ((A1 36) c9) ((A1 22) i) (mkM ct x g A1 th co at_ wr no nu op pi wi he de)) w1151 w1149 w1150 w9 ⟨by decide, by decide, by show _ = some 2; decide +kernel⟩ (by omega) (by decide) hP hS hl.1 rfl (by exact Nat.le_of_ble_eq_true rfl) (fh_d d_Mo_setMat 58 rfl) ⟨Nat.le_refl _, Nat.le_refl _⟩ (fun v9 h9 n9 H locs hq hP hS => ?_)
      obtain ⟨rfl, q21a, q21b⟩ := hq
      rw [q21a, q21b] at hP
      refine W.eq (g2 := F0 m 97 ls [.int (ms ((A1 36) c9) ((A1 22) i)), .int (nI c9), .ref (x + 37)]) rfl ?_
      refine fn_iast (f := A1 36) (k := c9) hx hb hK hP hS 0 mkM_a36 rfl (rfl) (by omega) (by decide) (fh_d d_Mo_setMat 59 rfl) (fun H locs hP hS => ?_)
      replace hP := fh_P.eq (h' := mkM ct x g (up2 A1 36 (upd (A1 36) c9 (ms ((A1 36) c9) ((A1 22) i)))) th co at_ wr no nu op pi wi he de) hP mkM_u36
      refine lv_aload_n hx hb (fh_d d_Mo_setMat 60 rfl) rfl (lv_at hl 3 rfl) ?_
      refine fh_get (own := "FormulaSetterModel") (ref := "FormulaSetterModel") (C := "FormulaSetterModel") (T := T_Mo) (N := 53) (v := .ref (x + 38)) hx hb hT i_Mo hown hK hP mkM_o rfl 44 (by decide) (hT _ w904) (fun _ h9 => h9) rfl (fh_d d_Mo_setMat 61 rfl) ?_
      refine lv_aload_n hx hb (fh_d d_Mo_setMat 62 rfl) rfl (lv_at hl 3 rfl) ?_
      refine fh_get (own := "FormulaSetterModel") (ref := "FormulaSetterModel") (C := "FormulaSetterModel") (T := T_Mo) (N := 53) (v := .ref (x + 9)) hx hb hT i_Mo hown hK hP mkM_o rfl 14 (by decide) (hT _ w874) (fun _ h9 => h9) rfl (fh_d d_Mo_setMat 63 rfl) ?_
      refine lv_iload hx hb (fh_d d_Mo_setMat 64 rfl) (lv_at hl 1 rfl) ?_
      refine fn_iald (f := A1 8) (k := i) hx hb hK hP 0 mkM_a8 rfl (rfl) (hnt.1.2) (by decide) (fh_d d_Mo_setMat 65 rfl) ?_
      rw [show ((A1 8) i) = nI r9 from e8]
      refine lv_aload_n hx hb (fh_d d_Mo_setMat 66 rfl) rfl (lv_at hl 3 rfl) ?_
      refine fh_get (own := "FormulaSetterModel") (ref := "FormulaSetterModel") (C := "FormulaSetterModel") (T := T_Mo) (N := 53) (v := .ref (x + 38)) hx hb hT i_Mo hown hK hP mkM_o rfl 44 (by decide) (hT _ w904) (fun _ h9 => h9) rfl (fh_d d_Mo_setMat 67 rfl) ?_
      refine lv_aload_n hx hb (fh_d d_Mo_setMat 68 rfl) rfl (lv_at hl 3 rfl) ?_
      refine fh_get (own := "FormulaSetterModel") (ref := "FormulaSetterModel") (C := "FormulaSetterModel") (T := T_Mo) (N := 53) (v := .ref (x + 9)) hx hb hT i_Mo hown hK hP mkM_o rfl 14 (by decide) (hT _ w874) (fun _ h9 => h9) rfl (fh_d d_Mo_setMat 69 rfl) ?_
      refine lv_iload hx hb (fh_d d_Mo_setMat 70 rfl) (lv_at hl 1 rfl) ?_
      refine fn_iald (f := A1 8) (k := i) hx hb hK hP 0 mkM_a8 rfl (rfl) (hnt.1.2) (by decide) (fh_d d_Mo_setMat 71 rfl) ?_
      rw [show ((A1 8) i) = nI r9 from e8]
      refine fn_iald (f := A1 37) (k := r9) hx hb hK hP 0 mkM_a37 rfl (rfl) (by omega) (by decide) (fh_d d_Mo_setMat 72 rfl) ?_
      refine lv_aload_n hx hb (fh_d d_Mo_setMat 73 rfl) rfl (lv_at hl 3 rfl) ?_
      refine fh_get (own := "FormulaSetterModel") (ref := "FormulaSetterModel") (C := "FormulaSetterModel") (T := T_Mo) (N := 53) (v := .ref (x + 24)) hx hb hT i_Mo hown hK hP mkM_o rfl 30 (by decide) (hT _ w890) (fun _ h9 => h9) rfl (fh_d d_Mo_setMat 74 rfl) ?_
      refine lv_iload hx hb (fh_d d_Mo_setMat 75 rfl) (lv_at hl 1 rfl) ?_
      refine fn_iald (f := A1 23) (k := i) hx hb hK hP 0 mkM_a23 rfl (rfl) (hnt.1.2) (by decide) (fh_d d_Mo_setMat 76 rfl) ?_
      refine fh_callS (cc' := c_Mo_most) (nL' := 2) (rest := [.int (nI r9), .ref (x + 38)]) (av := [.int ((A1 37) r9), .int ((A1 23) i)]) X hR (m_Mo_most l D ct b RO (r - 1) n ((A1 37) r9) ((A1 23) i) (mkM ct x g (up2 A1 36 (upd (A1 36) c9 (ms ((A1 36) c9) ((A1 22) i)))) th co at_ wr no nu op pi wi he de)) w1151 w1149 w1150 w9 ⟨by decide, by decide, by show _ = some 2; decide +kernel⟩ (by omega) (by decide) hP hS hl.1 rfl (by exact Nat.le_of_ble_eq_true rfl) (fh_d d_Mo_setMat 77 rfl) ⟨Nat.le_refl _, Nat.le_refl _⟩ (fun v9 h9 n9 H locs hq hP hS => ?_)
      obtain ⟨rfl, q22a, q22b⟩ := hq
      rw [q22a, q22b] at hP
      refine W.eq (g2 := F0 m 131 ls [.int (ms ((A1 37) r9) ((A1 23) i)), .int (nI r9), .ref (x + 38)]) rfl ?_
      refine fn_iast (f := A1 37) (k := r9) hx hb hK hP hS 0 mkM_a37 rfl (rfl) (by omega) (by decide) (fh_d d_Mo_setMat 78 rfl) (fun H locs hP hS => ?_)
      replace hP := fh_P.eq (h' := mkM ct x g (up2 (up2 A1 36 (upd (A1 36) c9 (ms ((A1 36) c9) ((A1 22) i)))) 37 (upd (A1 37) r9 (ms ((A1 37) r9) ((A1 23) i)))) th co at_ wr no nu op pi wi he de) hP mkM_u37
      refine lv_aload_n hx hb (fh_d d_Mo_setMat 79 rfl) rfl (lv_at hl 3 rfl) ?_
      refine fh_get (own := "FormulaSetterModel") (ref := "FormulaSetterModel") (C := "FormulaSetterModel") (T := T_Mo) (N := 53) (v := .ref (x + 39)) hx hb hT i_Mo hown hK hP mkM_o rfl 45 (by decide) (hT _ w905) (fun _ h9 => h9) rfl (fh_d d_Mo_setMat 80 rfl) ?_
      refine lv_aload_n hx hb (fh_d d_Mo_setMat 81 rfl) rfl (lv_at hl 3 rfl) ?_
      refine fh_get (own := "FormulaSetterModel") (ref := "FormulaSetterModel") (C := "FormulaSetterModel") (T := T_Mo) (N := 53) (v := .ref (x + 9)) hx hb hT i_Mo hown hK hP mkM_o rfl 14 (by decide) (hT _ w874) (fun _ h9 => h9) rfl (fh_d d_Mo_setMat 82 rfl) ?_
      refine lv_iload hx hb (fh_d d_Mo_setMat 83 rfl) (lv_at hl 1 rfl) ?_
      refine fn_iald (f := A1 8) (k := i) hx hb hK hP 0 mkM_a8 rfl (rfl) (hnt.1.2) (by decide) (fh_d d_Mo_setMat 84 rfl) ?_
      rw [show ((A1 8) i) = nI r9 from e8]
      refine lv_aload_n hx hb (fh_d d_Mo_setMat 85 rfl) rfl (lv_at hl 3 rfl) ?_
      refine fh_get (own := "FormulaSetterModel") (ref := "FormulaSetterModel") (C := "FormulaSetterModel") (T := T_Mo) (N := 53) (v := .ref (x + 39)) hx hb hT i_Mo hown hK hP mkM_o rfl 45 (by decide) (hT _ w905) (fun _ h9 => h9) rfl (fh_d d_Mo_setMat 86 rfl) ?_
      refine lv_aload_n hx hb (fh_d d_Mo_setMat 87 rfl) rfl (lv_at hl 3 rfl) ?_
      refine fh_get (own := "FormulaSetterModel") (ref := "FormulaSetterModel") (C := "FormulaSetterModel") (T := T_Mo) (N := 53) (v := .ref (x + 9)) hx hb hT i_Mo hown hK hP mkM_o rfl 14 (by decide) (hT _ w874) (fun _ h9 => h9) rfl (fh_d d_Mo_setMat 88 rfl) ?_
      refine lv_iload hx hb (fh_d d_Mo_setMat 89 rfl) (lv_at hl 1 rfl) ?_
      refine fn_iald (f := A1 8) (k := i) hx hb hK hP 0 mkM_a8 rfl (rfl) (hnt.1.2) (by decide) (fh_d d_Mo_setMat 90 rfl) ?_
      rw [show ((A1 8) i) = nI r9 from e8]
      refine fn_iald (f := A1 38) (k := r9) hx hb hK hP 0 mkM_a38 rfl (rfl) (by omega) (by decide) (fh_d d_Mo_setMat 91 rfl) ?_
      refine lv_aload_n hx hb (fh_d d_Mo_setMat 92 rfl) rfl (lv_at hl 3 rfl) ?_
      refine fh_get (own := "FormulaSetterModel") (ref := "FormulaSetterModel") (C := "FormulaSetterModel") (T := T_Mo) (N := 53) (v := .ref (x + 25)) hx hb hT i_Mo hown hK hP mkM_o rfl 31 (by decide) (hT _ w891) (fun _ h9 => h9) rfl (fh_d d_Mo_setMat 93 rfl) ?_
      refine lv_iload hx hb (fh_d d_Mo_setMat 94 rfl) (lv_at hl 1 rfl) ?_
      refine fn_iald (f := A1 24) (k := i) hx hb hK hP 0 mkM_a24 rfl (rfl) (hnt.1.2) (by decide) (fh_d d_Mo_setMat 95 rfl) ?_
      refine fh_callS (cc' := c_Mo_most) (nL' := 2) (rest := [.int (nI r9), .ref (x + 39)]) (av := [.int ((A1 38) r9), .int ((A1 24) i)]) X hR (m_Mo_most l D ct b RO (r - 1) n ((A1 38) r9) ((A1 24) i) (mkM ct x g (up2 (up2 A1 36 (upd (A1 36) c9 (ms ((A1 36) c9) ((A1 22) i)))) 37 (upd (A1 37) r9 (ms ((A1 37) r9) ((A1 23) i)))) th co at_ wr no nu op pi wi he de)) w1151 w1149 w1150 w9 ⟨by decide, by decide, by show _ = some 2; decide +kernel⟩ (by omega) (by decide) hP hS hl.1 rfl (by exact Nat.le_of_ble_eq_true rfl) (fh_d d_Mo_setMat 96 rfl) ⟨Nat.le_refl _, Nat.le_refl _⟩ (fun v9 h9 n9 H locs hq hP hS => ?_)
      obtain ⟨rfl, q23a, q23b⟩ := hq
      rw [q23a, q23b] at hP
      refine W.eq (g2 := F0 m 165 ls [.int (ms ((A1 38) r9) ((A1 24) i)), .int (nI r9), .ref (x + 39)]) rfl ?_
      refine fn_iast (f := A1 38) (k := r9) hx hb hK hP hS 0 mkM_a38 rfl (rfl) (by omega) (by decide) (fh_d d_Mo_setMat 97 rfl) (fun H locs hP hS => ?_)
      replace hP := fh_P.eq (h' := mkM ct x g (up2 (up2 (up2 A1 36 (upd (A1 36) c9 (ms ((A1 36) c9) ((A1 22) i)))) 37 (upd (A1 37) r9 (ms ((A1 37) r9) ((A1 23) i)))) 38 (upd (A1 38) r9 (ms ((A1 38) r9) ((A1 24) i)))) th co at_ wr no nu op pi wi he de) hP mkM_u38
      refine lv_aload_n hx hb (fh_d d_Mo_setMat 98 rfl) rfl (lv_at hl 3 rfl) ?_
      refine fh_get (own := "FormulaSetterModel") (ref := "FormulaSetterModel") (C := "FormulaSetterModel") (T := T_Mo) (N := 53) (v := .ref (x + 9)) hx hb hT i_Mo hown hK hP mkM_o rfl 14 (by decide) (hT _ w874) (fun _ h9 => h9) rfl (fh_d d_Mo_setMat 99 rfl) ?_
      refine lv_iload hx hb (fh_d d_Mo_setMat 100 rfl) (lv_at hl 1 rfl) ?_
      refine fn_iald (f := A1 8) (k := i) hx hb hK hP 0 mkM_a8 rfl (rfl) (hnt.1.2) (by decide) (fh_d d_Mo_setMat 101 rfl) ?_
      rw [show ((A1 8) i) = nI r9 from e8]
      refine lv_iconst (v := 1) hx hb (fh_d d_Mo_setMat 102 rfl) (by decide) ?_
      refine lv_iadd hx hb (fh_d d_Mo_setMat 103 rfl) ?_
      refine lv_istore_n (lv' := [(3, .int ((nI r9) + 1)), (4, .int (nI i)), (2, .int (yS s0)), (0, .ref x), (1, .int (nI n0))]) hx hb (fh_d d_Mo_setMat 104 rfl) rfl hl (by decide) rfl (fun ls hl => ?_)
      refine lv_aload_n hx hb (fh_d d_Mo_setMat 105 rfl) rfl (lv_at hl 3 rfl) ?_
      refine fh_get (own := "FormulaSetterModel") (ref := "FormulaSetterModel") (C := "FormulaSetterModel") (T := T_Mo) (N := 53) (v := .ref (x + 8)) hx hb hT i_Mo hown hK hP mkM_o rfl 13 (by decide) (hT _ w873) (fun _ h9 => h9) rfl (fh_d d_Mo_setMat 106 rfl) ?_
      refine lv_iload hx hb (fh_d d_Mo_setMat 107 rfl) (lv_at hl 1 rfl) ?_
      refine fn_iald (f := A1 7) (k := i) hx hb hK hP 0 mkM_a7 rfl (rfl) (hnt.1.2) (by decide) (fh_d d_Mo_setMat 108 rfl) ?_
      rw [show ((A1 7) i) = nI (hdz t) from (congrFun hz7 i).trans hnt.2.1]
      refine lv_istore (lv' := [(4, .int (nI (hdz t))), (3, .int ((nI r9) + 1)), (2, .int (yS s0)), (0, .ref x), (1, .int (nI n0))]) hx hb (fh_d d_Mo_setMat 109 rfl) hl (by decide) rfl (fun ls hl => ?_)
      refine lv_goto (tgt := 59) hx hb (fh_d d_Mo_setMat 110 rfl) rfl ?_
      rw [nI_1] at hl
      refine ih (mceS (A1, ro) i).1 (r9 + 1) hnt.2.2 (fun z hz => hrt z (List.mem_cons_of_mem _ hz)) hz7 hz8 hz9 (by omega) ?_ H locs _ ?_ hS (lv_sub hl [1, 0, 2, 3, 4] rfl)
      · rw [← hfo, ← er]; rfl
      · unfold mceS; dsimp only; rw [ec, er]; exact hP
  have L0 : ∀ (t q : Nat), t + q = 8 → ∀ (H : Heap) (locs : List Loc) (ls : Array Slot), fh_P D fh_cl b (mkM ct x g (rmz A (yS s0) q) th co at_ wr no nu op pi wi he de) n H → va_S (fh_A b) s.heap H locs → lv_has ls 9 [(3, .int (nI q)), (2, .int (yS s0)), (0, .ref x), (1, .int (nI n0))] → W p l e (fh_rm r 0 0) s m args below meth c H locs 0 0 (MQ below (fh_Post D fh_cl b (fun v h' n' => v = none ∧ h' = mkM ct x g (rf_mt A n0 s0 cw cs) th co at_ wr no nu op pi wi he de ∧ n' = n)) args s 0 0 (fh_A b)) (F0 m 12 ls []) := by
    intro t0
    induction t0 with
    | zero =>
      intro q hq H locs ls hP hS hl
      obtain rfl : q = 8 := by omega
      have hl : lv_has ls 9 [(3, .int (nI 8)), (2, .int (yS s0)), (0, .ref x), (1, .int (nI n0))] := hl
      refine lv_iload_n hx hb (fh_d d_Mo_setMat 8 rfl) rfl (lv_at hl 0 rfl) ?_
      refine lv_bipush (v := 8) hx hb (fh_d d_Mo_setMat 9 rfl) (by decide) ?_
      refine lv_icmp_ge (tgt := 49) hx hb (fh_d d_Mo_setMat 10 rfl) rfl (fun c24 => ?_) (fun c24 => absurd c24 (Classical.not_not.mpr (by decide)))
      refine lv_iconst (v := 0) hx hb (fh_d d_Mo_setMat 32 rfl) (by decide) ?_
      refine lv_istore_n (lv' := [(3, .int 0), (2, .int (yS s0)), (0, .ref x), (1, .int (nI n0))]) hx hb (fh_d d_Mo_setMat 33 rfl) rfl hl (by decide) rfl (fun ls hl => ?_)
      refine lv_aload_n hx hb (fh_d d_Mo_setMat 34 rfl) rfl (lv_at hl 2 rfl) ?_
      refine fh_get (own := "FormulaSetterModel") (ref := "FormulaSetterModel") (C := "FormulaSetterModel") (T := T_Mo) (N := 53) (v := .ref (x + 7)) hx hb hT i_Mo hown hK hP mkM_o rfl 12 (by decide) (hT _ w872) (fun _ h9 => h9) rfl (fh_d d_Mo_setMat 35 rfl) ?_
      refine lv_iload_n hx hb (fh_d d_Mo_setMat 36 rfl) rfl (lv_at hl 3 rfl) ?_
      refine fn_iald (f := (rmz A (yS s0) 8) 6) (k := n0) hx hb hK hP 0 mkM_a6 rfl (rfl) (by omega) (by decide) (fh_d d_Mo_setMat 37 rfl) ?_
      rw [show (((rmz A (yS s0) 8) 6) n0) = nI (hdz cs) from h6]
      refine lv_istore (lv' := [(4, .int (nI (hdz cs))), (3, .int 0), (2, .int (yS s0)), (0, .ref x), (1, .int (nI n0))]) hx hb (fh_d d_Mo_setMat 38 rfl) hl (by decide) rfl (fun ls hl => ?_)
      exact L1 cs (rmz A (yS s0) 8) 0 hnx hrc rfl rfl rfl (by omega) hP9.symm H _ _ hP hS (lv_sub hl [1, 0, 2, 3, 4] rfl)
    | succ t0 ih0 =>
      intro q hq H locs ls hP hS hl
      have hl : lv_has ls 9 [(3, .int (nI q)), (2, .int (yS s0)), (0, .ref x), (1, .int (nI n0))] := hl
      refine lv_iload_n hx hb (fh_d d_Mo_setMat 8 rfl) rfl (lv_at hl 0 rfl) ?_
      refine lv_bipush (v := 8) hx hb (fh_d d_Mo_setMat 9 rfl) (by decide) ?_
      refine lv_icmp_ge (tgt := 49) hx hb (fh_d d_Mo_setMat 10 rfl) rfl (fun c25 => absurd c25 (fun z => absurd ((nI_leI (a := 8) (b := q) (by decide) (by omega)).mp z) (by omega))) (fun c25 => ?_)
      refine lv_aload_n hx hb (fh_d d_Mo_setMat 11 rfl) rfl (lv_at hl 2 rfl) ?_
      refine fh_get (own := "FormulaSetterModel") (ref := "FormulaSetterModel") (C := "FormulaSetterModel") (T := T_Mo) (N := 53) (v := .ref (x + 37)) hx hb hT i_Mo hown hK hP mkM_o rfl 43 (by decide) (hT _ w903) (fun _ h9 => h9) rfl (fh_d d_Mo_setMat 12 rfl) ?_
      refine lv_iload_n hx hb (fh_d d_Mo_setMat 13 rfl) rfl (lv_at hl 0 rfl) ?_
      refine lv_iconst (v := (-1)) hx hb (fh_d d_Mo_setMat 14 rfl) (by decide) ?_
      refine fn_iast (f := (rmz A (yS s0) q) 36) (k := q) hx hb hK hP hS 0 mkM_a36 rfl (rfl) (by omega) (by decide) (fh_d d_Mo_setMat 15 rfl) (fun H locs hP hS => ?_)
      replace hP := fh_P.eq (h' := mkM ct x g (up2 (rmz A (yS s0) q) 36 (upd ((rmz A (yS s0) q) 36) q (-1))) th co at_ wr no nu op pi wi he de) hP mkM_u36
      refine lv_aload_n hx hb (fh_d d_Mo_setMat 16 rfl) rfl (lv_at hl 2 rfl) ?_
      refine fh_get (own := "FormulaSetterModel") (ref := "FormulaSetterModel") (C := "FormulaSetterModel") (T := T_Mo) (N := 53) (v := .ref (x + 38)) hx hb hT i_Mo hown hK hP mkM_o rfl 44 (by decide) (hT _ w904) (fun _ h9 => h9) rfl (fh_d d_Mo_setMat 17 rfl) ?_
      refine lv_iload_n hx hb (fh_d d_Mo_setMat 18 rfl) rfl (lv_at hl 0 rfl) ?_
      refine lv_iconst (v := 5) hx hb (fh_d d_Mo_setMat 19 rfl) (by decide) ?_
      refine lv_iload_n hx hb (fh_d d_Mo_setMat 20 rfl) rfl (lv_at hl 1 rfl) ?_
      refine lv_imul hx hb (fh_d d_Mo_setMat 21 rfl) ?_
      refine fn_iast (f := (rmz A (yS s0) q) 37) (k := q) hx hb hK hP hS 0 mkM_a37 rfl (rfl) (by omega) (by decide) (fh_d d_Mo_setMat 22 rfl) (fun H locs hP hS => ?_)
      replace hP := fh_P.eq (h' := mkM ct x g (up2 (up2 (rmz A (yS s0) q) 36 (upd ((rmz A (yS s0) q) 36) q (-1))) 37 (upd ((rmz A (yS s0) q) 37) q (5 * (yS s0)))) th co at_ wr no nu op pi wi he de) hP mkM_u37
      refine lv_aload_n hx hb (fh_d d_Mo_setMat 23 rfl) rfl (lv_at hl 2 rfl) ?_
      refine fh_get (own := "FormulaSetterModel") (ref := "FormulaSetterModel") (C := "FormulaSetterModel") (T := T_Mo) (N := 53) (v := .ref (x + 39)) hx hb hT i_Mo hown hK hP mkM_o rfl 45 (by decide) (hT _ w905) (fun _ h9 => h9) rfl (fh_d d_Mo_setMat 24 rfl) ?_
      refine lv_iload_n hx hb (fh_d d_Mo_setMat 25 rfl) rfl (lv_at hl 0 rfl) ?_
      refine lv_iconst (v := 2) hx hb (fh_d d_Mo_setMat 26 rfl) (by decide) ?_
      refine lv_iload_n hx hb (fh_d d_Mo_setMat 27 rfl) rfl (lv_at hl 1 rfl) ?_
      refine lv_imul hx hb (fh_d d_Mo_setMat 28 rfl) ?_
      refine fn_iast (f := (rmz A (yS s0) q) 38) (k := q) hx hb hK hP hS 0 mkM_a38 rfl (rfl) (by omega) (by decide) (fh_d d_Mo_setMat 29 rfl) (fun H locs hP hS => ?_)
      replace hP := fh_P.eq (h' := mkM ct x g (up2 (up2 (up2 (rmz A (yS s0) q) 36 (upd ((rmz A (yS s0) q) 36) q (-1))) 37 (upd ((rmz A (yS s0) q) 37) q (5 * (yS s0)))) 38 (upd ((rmz A (yS s0) q) 38) q (2 * (yS s0)))) th co at_ wr no nu op pi wi he de) hP mkM_u38
      refine lv_iinc (k := 0) (v := (nI q) + 1) (lv' := [(3, .int ((nI q) + 1)), (2, .int (yS s0)), (0, .ref x), (1, .int (nI n0))]) hx hb (fh_d d_Mo_setMat 30 rfl) hl rfl (by rfl) (by decide) rfl (fun ls hl => ?_)
      refine lv_goto (tgt := 12) hx hb (fh_d d_Mo_setMat 31 rfl) rfl ?_
      rw [nI_1] at hl
      exact ih0 (q + 1) (by omega) H locs _ (by rw [← rmz_s]; exact hP) hS (lv_sub hl [0, 1, 2, 3] rfl)
  refine lv_aload_n hx hb (fh_d d_Mo_setMat 0 rfl) rfl (lv_at hl 0 rfl) ?_
  refine fh_get (own := "FormulaSetterModel") (ref := "FormulaSetterModel") (C := "FormulaSetterModel") (T := T_Mo) (N := 53) (v := .ref (x + 21)) hx hb hT i_Mo hown hK hP mkM_o rfl 27 (by decide) (hT _ w887) (fun _ h9 => h9) rfl (fh_d d_Mo_setMat 1 rfl) ?_
  refine lv_iload_n hx hb (fh_d d_Mo_setMat 2 rfl) rfl (lv_at hl 1 rfl) ?_
  refine fn_iald (f := A 20) (k := n0) hx hb hK hP 0 mkM_a20 rfl (rfl) (by omega) (by decide) (fh_d d_Mo_setMat 3 rfl) ?_
  rw [show ((A 20) n0) = nI s0 from h20]
  refine fh_callS (cc' := c_Mo_zOf) (nL' := 1) (rest := []) (av := [.int (nI s0)]) X hR (m_Mo_zO l D ct b RO hR (r - 1) (by omega) n s0 hs0 (mkM ct x g A th co at_ wr no nu op pi wi he de)) w1139 w1137 w1138 w9 ⟨by decide, by decide, by show _ = some 1; decide +kernel⟩ (by omega) (by decide) hP hS hl.1 rfl (by exact Nat.le_of_ble_eq_true rfl) (fh_d d_Mo_setMat 4 rfl) ⟨Nat.le_refl _, Nat.le_refl _⟩ (fun v9 h9 n9 H locs hq hP hS => ?_)
  obtain ⟨rfl, q26a, q26b⟩ := hq
  rw [q26a, q26b] at hP
  refine W.eq (g2 := F0 m 9 ls [.int (yS s0)]) rfl ?_
  refine lv_istore_n (lv' := [(2, .int (yS s0)), (0, .ref x), (1, .int (nI n0))]) hx hb (fh_d d_Mo_setMat 5 rfl) rfl hl (by decide) rfl (fun ls hl => ?_)
  refine lv_iconst (v := 0) hx hb (fh_d d_Mo_setMat 6 rfl) (by decide) ?_
  refine lv_istore_n (lv' := [(3, .int 0), (2, .int (yS s0)), (0, .ref x), (1, .int (nI n0))]) hx hb (fh_d d_Mo_setMat 7 rfl) rfl hl (by decide) rfl (fun ls hl => ?_)
  exact L0 8 0 (by omega) H _ _ (by rw [rmz_0]; exact hP) hS (lv_sub hl [0, 1, 2, 3] rfl)
