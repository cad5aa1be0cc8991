/-! The law's walk over any invariant. Printed by wip/whole/gen/p77.py -/
def law_h0 (ct : Nat → ClassId) (B : Nat) : fh_H := fh_up (mo_1 ct (B + 233) (fh_up (fs_1 ct B (fh_up (fun _ => none) B (.inr (0, [.null, .null, .null, .int 0, .int 0, .int 0, .int 0])))) (B + 233) (.inr (7, (.int 0 :: .int 0 :: .null :: .int 0 :: .int 0 :: .int 0 :: .int 0 :: .null :: .null :: .null :: .null :: .null :: .null :: .null :: .null :: .null :: .null :: .null :: .null :: .null :: .null :: .null :: .int 0 :: .null :: .null :: .null :: .null :: .null :: .null :: .null :: .null :: .null :: .null :: .null :: .null :: .null :: .null :: .null :: .null :: .null :: .null :: .null :: .null :: .null :: .null :: .null :: .null :: .null :: .int 0 :: .null :: .int 0 :: .int 0 :: .int 0 :: []))))) (B + 276) (.inl (ct 2, 1, .inr (.inl (fun _ => (0 : Int64)))))
set_option maxHeartbeats 16000000 in
set_option maxRecDepth 100000 in
theorem law_run {p : Program} {e : Env} {s : State} {m : MethodId} {below : List Frame} {meth : Method} {c : Code} (l : Launch) {b L : Nat} {xs : Nat → Int32} (hL : L ≤ 2048) (C0 : lw_At p s m meth c b L xs) (D : va_G) (ct : Nat → ClassId) (B : Nat) (hB : s.heap.size = B) (hK : va_K D fh_cl (fh_tys ct) s) (RO : State → Prop) (hR : fh_R B RO) (hN : ∀ U, RO U → fh_N U) (hRO : RO s) (Inv : Nat → fh_H → Nat → Prop) (hI0 : Inv 0 (law_h0 ct B) (B + 277)) (hst : law_step l D ct B RO L xs Inv) :
    W p l e room_1 s m #[Value.ref b] below meth c s.heap [] 0 0 (lw_Z below #[Value.ref b] s) (entryFrame m ([Value.ref b] : List Value).toArray 7) := by
  obtain ⟨hx, hb, hret, hml, hown, hts, hX, hbl, hlk, hgv⟩ := C0
  have hT : ∀ w ∈ fh_T, w.before #[Value.ref b] s = true := fun w hw => hts w (fh_Tsub hw)
  have X : fh_X p l s m #[Value.ref b] meth c D (fh_tys ct) B RO ⟨"FormulaSetterLaw", meth.name, ""⟩ code 7 ret := ⟨hx, hb, hml, hown, hT, hK, hRO, by omega, hret, hlk, rfl⟩
  have hbA : ¬ fh_A B b := by show ¬ B ≤ b; omega
  refine fh_less (R' := fh_rm 1400 600002 7302232) (by decide) (by decide) (by decide) (by decide) ?_
  have hP : fh_P D fh_cl B (fun _ => none) B s.heap := ⟨hB, Nat.le_refl _, fun a e h9 => (by cases h9), fun a cell h1 h2 => absurd (Array.getElem?_eq_some_iff.mp h2).1 (by omega)⟩
  have hl := lv_entry [Value.ref b] (n := 7) (Nat.le_of_ble_eq_true rfl)
  rw [lg_entry_eq]
  suffices hgo : ∀ (ls : Array Slot) (H : Heap), fh_P D fh_cl B (fun _ => none) B H → va_S (fh_A B) s.heap H [] → lv_has ls 7 [(0, .ref b)] → W p l e (fh_rm 1400 600002 7302232) s m #[Value.ref b] below meth c H [] 0 0 (lw_Z below #[Value.ref b] s) (F0 m 0 ls []) from hgo _ s.heap hP va_S.rf hl
  clear hP hl
  intro ls H hP hS hl
  have loop : ∀ (t i : Nat), L - i ≤ t → i ≤ L → ∀ (h : fh_H) (n : Nat), Inv i h n → ∀ (H : Heap) (locs : List Loc) (ls : Array Slot), fh_P D fh_cl B h n H → va_S (fh_A B) s.heap H locs → lv_has ls 7 [(4, .int (nI i)), (3, .ref (B + 276)), (2, .ref (B + 233)), (1, .ref B), (0, .ref b)] → W p l e (fh_rm 1400 600002 7302232) s m #[Value.ref b] below meth c H locs (300 + i) (20000 + 6 * i) (lw_Z below #[Value.ref b] s) (F0 m 23 ls []) := by
    intro t
    induction t with
    | zero =>
      intro i hti hiL h n hI H locs ls hP hS hl
      refine lv_iload hx hb (fh_d d_La_law 13 rfl) (lv_at hl 0 rfl) ?_
      refine lv_aload_n hx hb (fh_d d_La_law 14 rfl) rfl (lv_at hl 4 rfl) ?_
      refine va_slen hx hb hX hbl hbA hS (fh_d d_La_law 15 rfl) ?_
      refine W.eq (g2 := F0 m 27 ls [.int (nI L), .int (nI i)]) rfl ?_
      refine lv_iconst (v := 4) hx hb (fh_d d_La_law 16 rfl) (by decide) ?_
      refine lv_isub hx hb (fh_d d_La_law 17 rfl) ?_
      refine lv_icmp_gt (tgt := 365) hx hb (fh_d d_La_law 18 rfl) rfl (fun c1 => ?_) (fun c1 => absurd c1 (fun z => z ((law_gt (by omega) (by omega)).mpr (by omega))))
      refine lv_iconst (v := 1) hx hb (fh_d d_La_law 200 rfl) (by decide) ?_
      exact va_forget (fun q hq => by have := hS.2.2 q hq; exact Nat.le_trans (Nat.le_of_eq hB) this) (W.widen (by omega) (by omega) (law_ret hx hb hret hlk (fh_d d_La_law 201 rfl)))
    | succ t ih =>
      intro i hti hiL h n hI H locs ls hP hS hl
      have next : ∀ (h9 : fh_H) (n9 : Nat), i + 4 ≤ L → Inv (i + 4) h9 n9 → ∀ (H : Heap) (locs : List Loc) (ls : Array Slot) (k1 k2 : Nat), k1 ≤ 300 + i + 1 → k2 ≤ 20000 + 6 * i + 6 → fh_P D fh_cl B h9 n9 H → va_S (fh_A B) s.heap H locs → lv_has ls 7 [(4, .int (nI i)), (3, .ref (B + 276)), (2, .ref (B + 233)), (1, .ref B), (0, .ref b)] → W p l e (fh_rm 1400 600002 7302232) s m #[Value.ref b] below meth c H locs k1 k2 (lw_Z below #[Value.ref b] s) (F0 m 359 ls []) := by
        intro h9 n9 hi4 hI9 H locs ls k1 k2 hk1 hk2 hP hS hl
        refine W.widen (k := 300 + (i + 4)) (n := 20000 + 6 * (i + 4)) (by omega) (by omega) ?_
        refine lv_iinc (k := 0) (v := (nI i) + 4) (lv' := [(4, .int ((nI i) + 4)), (3, .ref (B + 276)), (2, .ref (B + 233)), (1, .ref B), (0, .ref b)]) hx hb (fh_d d_La_law 198 rfl) hl rfl (by rfl) (by decide) rfl (fun ls hl => ?_)
        refine lv_goto (tgt := 23) hx hb (fh_d d_La_law 199 rfl) rfl ?_
        rw [show (nI i) + 4 = nI (i + 4) from nI_add i 4] at hl
        exact ih (i + 4) (by omega) hi4 h9 n9 hI9 H locs ls hP hS hl
      refine lv_iload hx hb (fh_d d_La_law 13 rfl) (lv_at hl 0 rfl) ?_
      refine lv_aload_n hx hb (fh_d d_La_law 14 rfl) rfl (lv_at hl 4 rfl) ?_
      refine va_slen hx hb hX hbl hbA hS (fh_d d_La_law 15 rfl) ?_
      refine W.eq (g2 := F0 m 27 ls [.int (nI L), .int (nI i)]) rfl ?_
      refine lv_iconst (v := 4) hx hb (fh_d d_La_law 16 rfl) (by decide) ?_
      refine lv_isub hx hb (fh_d d_La_law 17 rfl) ?_
      refine lv_icmp_gt (tgt := 365) hx hb (fh_d d_La_law 18 rfl) rfl (fun c2 => ?_) (fun c2 => ?_)
      · refine lv_iconst (v := 1) hx hb (fh_d d_La_law 200 rfl) (by decide) ?_
        exact va_forget (fun q hq => by have := hS.2.2 q hq; exact Nat.le_trans (Nat.le_of_eq hB) this) (W.widen (by omega) (by omega) (law_ret hx hb hret hlk (fh_d d_La_law 201 rfl)))
      · have hi4 : i + 4 ≤ L := Nat.not_lt.mp fun z => c2 ((law_gt (by omega) (by omega)).mpr z)
        obtain ⟨⟨fs9, ho⟩, hI4, s0, s1, s2, s3, s4, s5, s6, s7, s8⟩ := hst i h n hi4 hI
        refine lv_aload_n hx hb (fh_d d_La_law 19 rfl) rfl (lv_at hl 4 rfl) ?_
        refine lv_iload hx hb (fh_d d_La_law 20 rfl) (lv_at hl 0 rfl) ?_
        refine law_sld hx hb hX hbl hbA hS (k := i) (rfl) (by omega) (by omega) (fh_d d_La_law 21 rfl) ?_
        refine lv_bipush (v := 15) hx hb (fh_d d_La_law 22 rfl) (by decide) ?_
        refine lv_iand hx hb (fh_d d_La_law 23 rfl) ?_
        by_cases hv : ¬ (xs i &&& 15) < 0 ∧ (xs i &&& 15) ≤ 8
        · obtain ⟨j, hj, ej⟩ := nI_of2 (n := 8) (by decide) hv.1 hv.2
          rw [ej]
          rcases (by omega : j = 0 ∨ j = 1 ∨ j = 2 ∨ j = 3 ∨ j = 4 ∨ j = 5 ∨ j = 6 ∨ j = 7 ∨ j = 8) with rfl | rfl | rfl | rfl | rfl | rfl | rfl | rfl | rfl
          · refine lv_tableIn (tgt := 88) hx hb (fh_d d_La_law 24 rfl) (by decide) (by decide) rfl rfl ?_
            obtain ⟨P1, hC1, hC2⟩ := s0
            refine lv_aload_n hx hb (fh_d d_La_law 25 rfl) rfl (lv_at hl 3 rfl) ?_
            refine lv_aload_n hx hb (fh_d d_La_law 26 rfl) rfl (lv_at hl 4 rfl) ?_
            refine lv_iload hx hb (fh_d d_La_law 27 rfl) (lv_at hl 0 rfl) ?_
            refine lv_iconst (v := 1) hx hb (fh_d d_La_law 28 rfl) (by decide) ?_
            refine lv_iadd hx hb (fh_d d_La_law 29 rfl) ?_
            refine law_sld hx hb hX hbl hbA hS (k := i + 1) (nI_1 i) (by omega) (by omega) (fh_d d_La_law 30 rfl) ?_
            refine lv_i2l hx hb (fh_d d_La_law 31 rfl) rfl ?_
            refine lv_bipush (v := 32) hx hb (fh_d d_La_law 32 rfl) (by decide) ?_
            refine lv_lshl hx hb (fh_d d_La_law 33 rfl) rfl ?_
            refine lv_aload_n hx hb (fh_d d_La_law 34 rfl) rfl (lv_at hl 4 rfl) ?_
            refine lv_iload hx hb (fh_d d_La_law 35 rfl) (lv_at hl 0 rfl) ?_
            refine lv_iconst (v := 2) hx hb (fh_d d_La_law 36 rfl) (by decide) ?_
            refine lv_iadd hx hb (fh_d d_La_law 37 rfl) ?_
            refine law_sld hx hb hX hbl hbA hS (k := i + 2) (nI_add i 2) (by omega) (by omega) (fh_d d_La_law 38 rfl) ?_
            refine lv_i2l hx hb (fh_d d_La_law 39 rfl) rfl ?_
            refine lv_ldc2 (v := 4294967295) hx hb hown (hT _ w1238) (fh_d d_La_law 40 rfl) ?_
            refine lv_land hx hb (fh_d d_La_law 41 rfl) ?_
            refine lv_lor hx hb (fh_d d_La_law 42 rfl) ?_
            refine lv_aload_n hx hb (fh_d d_La_law 43 rfl) rfl (lv_at hl 4 rfl) ?_
            refine lv_iload hx hb (fh_d d_La_law 44 rfl) (lv_at hl 0 rfl) ?_
            refine lv_iconst (v := 3) hx hb (fh_d d_La_law 45 rfl) (by decide) ?_
            refine lv_iadd hx hb (fh_d d_La_law 46 rfl) ?_
            refine law_sld hx hb hX hbl hbA hS (k := i + 3) (nI_add i 3) (by omega) (by omega) (fh_d d_La_law 47 rfl) ?_
            refine fh_callV (cc' := c_FS_type) (nL' := 6) (rest := []) (a := B) (As := [.long ((((xs (i + 1)).toInt64) <<< ((32 : Int32).toInt64 &&& 63)) ||| (((xs (i + 2)).toInt64) &&& 4294967295)), .int (xs (i + 3))]) X hR (hC1) w280 w277 w278 w279 w1 ⟨by decide, by decide, by show _ = some 2; decide +kernel⟩ (by omega) (by decide) (fh_recv hK hP ho rfl) hP hS hl.1 rfl (by exact Nat.le_of_ble_eq_true rfl) (fh_d d_La_law 48 rfl) ⟨by omega, by omega⟩ (fun v9 h9 n9 H locs hq hP hS => ?_)
            obtain ⟨wv, rfl, hq⟩ := hq
            obtain ⟨⟨fm9, hm9⟩, hC3⟩ := hC2 wv h9 n9 hq
            refine W.eq (g2 := F0 m 120 ls [.int wv]) rfl ?_
            refine lv_aload_n hx hb (fh_d d_La_law 49 rfl) rfl (lv_at hl 2 rfl) ?_
            refine lv_aload_n hx hb (fh_d d_La_law 50 rfl) rfl (lv_at hl 4 rfl) ?_
            refine lv_iload hx hb (fh_d d_La_law 51 rfl) (lv_at hl 0 rfl) ?_
            refine lv_iconst (v := 1) hx hb (fh_d d_La_law 52 rfl) (by decide) ?_
            refine lv_iadd hx hb (fh_d d_La_law 53 rfl) ?_
            refine law_sld hx hb hX hbl hbA hS (k := i + 1) (nI_1 i) (by omega) (by omega) (fh_d d_La_law 54 rfl) ?_
            refine lv_i2l hx hb (fh_d d_La_law 55 rfl) rfl ?_
            refine lv_bipush (v := 32) hx hb (fh_d d_La_law 56 rfl) (by decide) ?_
            refine lv_lshl hx hb (fh_d d_La_law 57 rfl) rfl ?_
            refine lv_aload_n hx hb (fh_d d_La_law 58 rfl) rfl (lv_at hl 4 rfl) ?_
            refine lv_iload hx hb (fh_d d_La_law 59 rfl) (lv_at hl 0 rfl) ?_
            refine lv_iconst (v := 2) hx hb (fh_d d_La_law 60 rfl) (by decide) ?_
            refine lv_iadd hx hb (fh_d d_La_law 61 rfl) ?_
            refine law_sld hx hb hX hbl hbA hS (k := i + 2) (nI_add i 2) (by omega) (by omega) (fh_d d_La_law 62 rfl) ?_
            refine lv_i2l hx hb (fh_d d_La_law 63 rfl) rfl ?_
            refine lv_ldc2 (v := 4294967295) hx hb hown (hT _ w1238) (fh_d d_La_law 64 rfl) ?_
            refine lv_land hx hb (fh_d d_La_law 65 rfl) ?_
            refine lv_lor hx hb (fh_d d_La_law 66 rfl) ?_
            refine lv_aload_n hx hb (fh_d d_La_law 67 rfl) rfl (lv_at hl 4 rfl) ?_
            refine lv_iload hx hb (fh_d d_La_law 68 rfl) (lv_at hl 0 rfl) ?_
            refine lv_iconst (v := 3) hx hb (fh_d d_La_law 69 rfl) (by decide) ?_
            refine lv_iadd hx hb (fh_d d_La_law 70 rfl) ?_
            refine law_sld hx hb hX hbl hbA hS (k := i + 3) (nI_add i 3) (by omega) (by omega) (fh_d d_La_law 71 rfl) ?_
            refine fh_callV (cc' := c_Mo_type) (nL' := 7) (rest := [.int wv]) (a := B + 233) (As := [.long ((((xs (i + 1)).toInt64) <<< ((32 : Int32).toInt64 &&& 63)) ||| (((xs (i + 2)).toInt64) &&& 4294967295)), .int (xs (i + 3))]) X hR (hC3) w1028 w1025 w1026 w1027 w9 ⟨by decide, by decide, by show _ = some 2; decide +kernel⟩ (by omega) (by decide) (fh_recv hK hP hm9 rfl) hP hS hl.1 rfl (by exact Nat.le_of_ble_eq_true rfl) (fh_d d_La_law 72 rfl) ⟨by omega, by omega⟩ (fun v9 h9 n9 H locs hq hP hS => ?_)
            obtain ⟨rfl, hq⟩ := hq
            refine W.eq (g2 := F0 m 152 ls [.int wv, .int wv]) rfl ?_
            refine lv_icmp_eq (tgt := 359) hx hb (fh_d d_La_law 73 rfl) rfl (fun c3 => ?_) (fun c3 => absurd c3 (fun z => z rfl))
            exact next _ _ hi4 hq H _ _ _ _ (by omega) (by omega) hP hS (lv_sub hl [0, 1, 2, 3, 4] rfl)
          · refine lv_tableIn (tgt := 157) hx hb (fh_d d_La_law 24 rfl) (by decide) (by decide) rfl rfl ?_
            obtain ⟨P1, hC1, hC2⟩ := s1
            refine lv_aload_n hx hb (fh_d d_La_law 76 rfl) rfl (lv_at hl 3 rfl) ?_
            refine fh_callV (cc' := c_FS_wipe) (nL' := 2) (rest := []) (a := B) (As := []) X hR (hC1) w288 w285 w286 w287 w1 ⟨by decide, by decide, by show _ = some 0; decide +kernel⟩ (by omega) (by decide) (fh_recv hK hP ho rfl) hP hS hl.1 rfl (by exact Nat.le_of_ble_eq_true rfl) (fh_d d_La_law 77 rfl) ⟨by omega, by omega⟩ (fun v9 h9 n9 H locs hq hP hS => ?_)
            obtain ⟨wv, rfl, hq⟩ := hq
            obtain ⟨⟨fm9, hm9⟩, hC3⟩ := hC2 wv h9 n9 hq
            refine W.eq (g2 := F0 m 161 ls [.int wv]) rfl ?_
            refine lv_aload_n hx hb (fh_d d_La_law 78 rfl) rfl (lv_at hl 2 rfl) ?_
            refine fh_callV (cc' := c_Mo_wipe) (nL' := 2) (rest := [.int wv]) (a := B + 233) (As := []) X hR (hC3) w1036 w1033 w1034 w1035 w9 ⟨by decide, by decide, by show _ = some 0; decide +kernel⟩ (by omega) (by decide) (fh_recv hK hP hm9 rfl) hP hS hl.1 rfl (by exact Nat.le_of_ble_eq_true rfl) (fh_d d_La_law 79 rfl) ⟨by omega, by omega⟩ (fun v9 h9 n9 H locs hq hP hS => ?_)
            obtain ⟨rfl, hq⟩ := hq
            refine W.eq (g2 := F0 m 165 ls [.int wv, .int wv]) rfl ?_
            refine lv_icmp_eq (tgt := 359) hx hb (fh_d d_La_law 80 rfl) rfl (fun c4 => ?_) (fun c4 => absurd c4 (fun z => z rfl))
            exact next _ _ hi4 hq H _ _ _ _ (by omega) (by omega) hP hS (lv_sub hl [0, 1, 2, 3, 4] rfl)
          · refine lv_tableIn (tgt := 170) hx hb (fh_d d_La_law 24 rfl) (by decide) (by decide) rfl rfl ?_
            obtain ⟨P1, hC1, hC2⟩ := s2
            have behind : ∀ (kz : Int32) (h9 : fh_H) (n9 : Nat), P1 kz h9 n9 → ∀ (H : Heap) (locs : List Loc) (ls : Array Slot) (k1 k2 : Nat), k1 ≤ 300 + i + 1 → k2 ≤ 20000 + 6 * i + 6 → fh_P D fh_cl B h9 n9 H → va_S (fh_A B) s.heap H locs → lv_has ls 7 [(4, .int (nI i)), (3, .ref (B + 276)), (2, .ref (B + 233)), (1, .ref B), (0, .ref b)] → W p l e (fh_rm 1400 600002 7302232) s m #[Value.ref b] below meth c H locs k1 k2 (lw_Z below #[Value.ref b] s) (F0 m 181 ls [.int kz]) := by
              intro kz h9 n9 hq H locs ls k1 k2 hk1 hk2 hP hS hl
              obtain ⟨⟨fm9, hm9⟩, P2, hC3, hC4⟩ := hC2 kz h9 n9 hq
              refine lv_istore (lv' := [(5, .int kz), (4, .int (nI i)), (3, .ref (B + 276)), (2, .ref (B + 233)), (1, .ref B), (0, .ref b)]) hx hb (fh_d d_La_law 91 rfl) hl (by decide) rfl (fun ls hl => ?_)
              refine lv_aload_n hx hb (fh_d d_La_law 92 rfl) rfl (lv_at hl 3 rfl) ?_
              refine lv_aload_n hx hb (fh_d d_La_law 93 rfl) rfl (lv_at hl 5 rfl) ?_
              refine lv_iload hx hb (fh_d d_La_law 94 rfl) (lv_at hl 1 rfl) ?_
              refine lv_iconst (v := 1) hx hb (fh_d d_La_law 95 rfl) (by decide) ?_
              refine lv_iadd hx hb (fh_d d_La_law 96 rfl) ?_
              refine law_sld hx hb hX hbl hbA hS (k := i + 1) (nI_1 i) (by omega) (by omega) (fh_d d_La_law 97 rfl) ?_
              refine fh_callV (cc' := c_Mo_set) (nL' := 4) (rest := []) (a := B + 233) (As := [.int (xs (i + 1))]) X hR (hC3) w1120 w1117 w1118 w1119 w9 ⟨by decide, by decide, by show _ = some 1; decide +kernel⟩ (by omega) (by decide) (fh_recv hK hP hm9 rfl) hP hS hl.1 rfl (by exact Nat.le_of_ble_eq_true rfl) (fh_d d_La_law 98 rfl) ⟨by omega, by omega⟩ (fun v9 h9 n9 H locs hq hP hS => ?_)
              obtain ⟨wz, rfl, hq2⟩ := hq
              obtain ⟨⟨fm8, hm8⟩, hC5⟩ := hC4 wz h9 n9 hq2
              refine W.eq (g2 := F0 m 193 ls [.int wz]) rfl ?_
              refine lv_istore (lv' := [(6, .int wz), (5, .int kz), (4, .int (nI i)), (3, .ref (B + 276)), (2, .ref (B + 233)), (1, .ref B), (0, .ref b)]) hx hb (fh_d d_La_law 99 rfl) hl (by decide) rfl (fun ls hl => ?_)
              refine lv_aload_n hx hb (fh_d d_La_law 100 rfl) rfl (lv_at hl 4 rfl) ?_
              refine fh_callV (cc' := c_Mo_thrown) (nL' := 1) (rest := []) (a := B + 233) (As := []) X hR (hC5) w1024 w1021 w1022 w1023 w9 ⟨by decide, by decide, by show _ = some 0; decide +kernel⟩ (by omega) (by decide) (fh_recv hK hP hm8 rfl) hP hS hl.1 rfl (by exact Nat.le_of_ble_eq_true rfl) (fh_d d_La_law 101 rfl) ⟨by omega, by omega⟩ (fun v9 h9 n9 H locs hq hP hS => ?_)
              obtain ⟨rfl, hq3, hq4⟩ := hq
              refine W.eq (g2 := F0 m 199 ls [.int kz]) rfl ?_
              refine lv_iload hx hb (fh_d d_La_law 102 rfl) (lv_at hl 1 rfl) ?_
              refine lv_icmp_eq (tgt := 206) hx hb (fh_d d_La_law 103 rfl) rfl (fun c5 => ?_) (fun c5 => absurd c5 (fun z => z rfl))
              refine lv_iload hx hb (fh_d d_La_law 106 rfl) (lv_at hl 1 rfl) ?_
              refine lv_if_ne (tgt := 223) hx hb (fh_d d_La_law 107 rfl) rfl (fun c6 => ?_) (fun c6 => ?_)
              · refine lv_goto (tgt := 359) hx hb (fh_d d_La_law 117 rfl) rfl ?_
                exact next _ _ hi4 hq3 H _ _ _ _ (by omega) (by omega) hP hS (lv_sub hl [2, 3, 4, 5, 6] rfl)
              · obtain ⟨fo, ho9, hfo⟩ := hq4 c6
                refine lv_aload_n hx hb (fh_d d_La_law 108 rfl) rfl (lv_at hl 3 rfl) ?_
                refine lv_iconst (v := 0) hx hb (fh_d d_La_law 109 rfl) (by decide) ?_
                refine fh_lald hx hb hK hP 2 ho9 rfl (show ¬ ((0 : Int32) < 0 ∨ 1 ≤ Int32.toNatClampNeg 0) by decide) (fh_d d_La_law 110 rfl) ?_
                refine lv_iload hx hb (fh_d d_La_law 111 rfl) (lv_at hl 0 rfl) ?_
                refine lv_i2l hx hb (fh_d d_La_law 112 rfl) rfl ?_
                refine W.lcmp hx hb (fh_d d_La_law 113 rfl) ?_
                refine lv_if_eq (tgt := 223) hx hb (fh_d d_La_law 114 rfl) rfl (fun c7 => ?_) (fun c7 => absurd c7 (fun z => z (law_cmp hfo)))
                refine lv_goto (tgt := 359) hx hb (fh_d d_La_law 117 rfl) rfl ?_
                exact next _ _ hi4 hq3 H _ _ _ _ (by omega) (by omega) hP hS (lv_sub hl [2, 3, 4, 5, 6] rfl)
            refine lv_aload_n hx hb (fh_d d_La_law 83 rfl) rfl (lv_at hl 3 rfl) ?_
            refine lv_aload_n hx hb (fh_d d_La_law 84 rfl) rfl (lv_at hl 4 rfl) ?_
            refine lv_iload hx hb (fh_d d_La_law 85 rfl) (lv_at hl 0 rfl) ?_
            refine lv_iconst (v := 1) hx hb (fh_d d_La_law 86 rfl) (by decide) ?_
            refine lv_iadd hx hb (fh_d d_La_law 87 rfl) ?_
            refine law_sld hx hb hX hbl hbA hS (k := i + 1) (nI_1 i) (by omega) (by omega) (fh_d d_La_law 88 rfl) ?_
            refine lv_aload_n hx hb (fh_d d_La_law 89 rfl) rfl (lv_at hl 1 rfl) ?_
            rcases hC1 with hC1 | hC1
            · refine fh_callSW (cc' := c_La_set) (nL' := 4) (rest := []) (av := [.ref B, .int (xs (i + 1)), .ref (B + 276)]) (hs9 := [(0, 9, 12, 13)]) X hR hC1 w563 w561 w562 w0 ⟨by decide, by decide, by show _ = some 3; decide +kernel⟩ (by omega) (by decide) hP hS hl.1 rfl (by exact Nat.le_of_ble_eq_true rfl) (fh_d d_La_law 90 rfl) ⟨by omega, by omega⟩ (fun v9 h9 n9 H locs hq hP hS => ?_)
              obtain ⟨kz, rfl, hq⟩ := hq
              exact behind kz h9 n9 hq H locs ls _ _ (by omega) (by omega) hP hS hl
            · refine fh_callSW (cc' := c_La_set) (nL' := 4) (rest := []) (av := [.ref B, .int (xs (i + 1)), .ref (B + 276)]) (hs9 := [(0, 9, 12, 13)]) X hR hC1 w563 w561 w562 w0 ⟨by decide, by decide, by show _ = some 3; decide +kernel⟩ (by omega) (by decide) hP hS hl.1 rfl (by exact Nat.le_of_ble_eq_true rfl) (fh_d d_La_law 90 rfl) ⟨by omega, by omega⟩ (fun v9 h9 n9 H locs hq hP hS => ?_)
              obtain ⟨kz, rfl, hq⟩ := hq
              exact behind kz h9 n9 hq H locs ls _ _ (by omega) (by omega) hP hS hl
          · refine lv_tableIn (tgt := 226) hx hb (fh_d d_La_law 24 rfl) (by decide) (by decide) rfl rfl ?_
            obtain ⟨P1, hC1, hC2⟩ := s3
            refine lv_aload_n hx hb (fh_d d_La_law 118 rfl) rfl (lv_at hl 3 rfl) ?_
            refine fh_callV (cc' := c_FS_isFormula) (nL' := 1) (rest := []) (a := B) (As := []) X hR (hC1) w292 w289 w290 w291 w1 ⟨by decide, by decide, by show _ = some 0; decide +kernel⟩ (by omega) (by decide) (fh_recv hK hP ho rfl) hP hS hl.1 rfl (by exact Nat.le_of_ble_eq_true rfl) (fh_d d_La_law 119 rfl) ⟨by omega, by omega⟩ (fun v9 h9 n9 H locs hq hP hS => ?_)
            obtain ⟨wv, rfl, hq⟩ := hq
            obtain ⟨⟨fm9, hm9⟩, hC3⟩ := hC2 wv h9 n9 hq
            refine W.eq (g2 := F0 m 230 ls [.int wv]) rfl ?_
            refine lv_aload_n hx hb (fh_d d_La_law 120 rfl) rfl (lv_at hl 2 rfl) ?_
            refine fh_callV (cc' := c_Mo_isFormula) (nL' := 1) (rest := [.int wv]) (a := B + 233) (As := []) X hR (hC3) w1040 w1037 w1038 w1039 w9 ⟨by decide, by decide, by show _ = some 0; decide +kernel⟩ (by omega) (by decide) (fh_recv hK hP hm9 rfl) hP hS hl.1 rfl (by exact Nat.le_of_ble_eq_true rfl) (fh_d d_La_law 121 rfl) ⟨by omega, by omega⟩ (fun v9 h9 n9 H locs hq hP hS => ?_)
            obtain ⟨rfl, hq⟩ := hq
            refine W.eq (g2 := F0 m 234 ls [.int wv, .int wv]) rfl ?_
            refine lv_icmp_eq (tgt := 359) hx hb (fh_d d_La_law 122 rfl) rfl (fun c8 => ?_) (fun c8 => absurd c8 (fun z => z rfl))
            exact next _ _ hi4 hq H _ _ _ _ (by omega) (by omega) hP hS (lv_sub hl [0, 1, 2, 3, 4] rfl)
          · refine lv_tableIn (tgt := 239) hx hb (fh_d d_La_law 24 rfl) (by decide) (by decide) rfl rfl ?_
            obtain ⟨P1, hC1, hC2⟩ := s4
            refine lv_aload_n hx hb (fh_d d_La_law 125 rfl) rfl (lv_at hl 3 rfl) ?_
            refine fh_callV (cc' := c_FS_pieces) (nL' := 1) (rest := []) (a := B) (As := []) X hR (hC1) w548 w545 w546 w547 w1 ⟨by decide, by decide, by show _ = some 0; decide +kernel⟩ (by omega) (by decide) (fh_recv hK hP ho rfl) hP hS hl.1 rfl (by exact Nat.le_of_ble_eq_true rfl) (fh_d d_La_law 126 rfl) ⟨by omega, by omega⟩ (fun v9 h9 n9 H locs hq hP hS => ?_)
            obtain ⟨wv, rfl, hq⟩ := hq
            obtain ⟨⟨fm9, hm9⟩, hC3⟩ := hC2 wv h9 n9 hq
            refine W.eq (g2 := F0 m 243 ls [.int wv]) rfl ?_
            refine lv_aload_n hx hb (fh_d d_La_law 127 rfl) rfl (lv_at hl 2 rfl) ?_
            refine fh_callV (cc' := c_Mo_pieces) (nL' := 1) (rest := [.int wv]) (a := B + 233) (As := []) X hR (hC3) w1221 w1218 w1219 w1220 w9 ⟨by decide, by decide, by show _ = some 0; decide +kernel⟩ (by omega) (by decide) (fh_recv hK hP hm9 rfl) hP hS hl.1 rfl (by exact Nat.le_of_ble_eq_true rfl) (fh_d d_La_law 128 rfl) ⟨by omega, by omega⟩ (fun v9 h9 n9 H locs hq hP hS => ?_)
            obtain ⟨rfl, hq⟩ := hq
            refine W.eq (g2 := F0 m 247 ls [.int wv, .int wv]) rfl ?_
            refine lv_icmp_eq (tgt := 359) hx hb (fh_d d_La_law 129 rfl) rfl (fun c9 => ?_) (fun c9 => absurd c9 (fun z => z rfl))
            exact next _ _ hi4 hq H _ _ _ _ (by omega) (by omega) hP hS (lv_sub hl [0, 1, 2, 3, 4] rfl)
          · refine lv_tableIn (tgt := 252) hx hb (fh_d d_La_law 24 rfl) (by decide) (by decide) rfl rfl ?_
            obtain ⟨P1, hC1, hC2⟩ := s5
            have behind : ∀ (kz : Int32) (h9 : fh_H) (n9 : Nat), P1 kz h9 n9 → ∀ (H : Heap) (locs : List Loc) (ls : Array Slot) (k1 k2 : Nat), k1 ≤ 300 + i + 1 → k2 ≤ 20000 + 6 * i + 6 → fh_P D fh_cl B h9 n9 H → va_S (fh_A B) s.heap H locs → lv_has ls 7 [(4, .int (nI i)), (3, .ref (B + 276)), (2, .ref (B + 233)), (1, .ref B), (0, .ref b)] → W p l e (fh_rm 1400 600002 7302232) s m #[Value.ref b] below meth c H locs k1 k2 (lw_Z below #[Value.ref b] s) (F0 m 269 ls [.int kz]) := by
              intro kz h9 n9 hq H locs ls k1 k2 hk1 hk2 hP hS hl
              obtain ⟨⟨fm9, hm9⟩, P2, hC3, hC4⟩ := hC2 kz h9 n9 hq
              refine lv_istore (lv' := [(5, .int kz), (4, .int (nI i)), (3, .ref (B + 276)), (2, .ref (B + 233)), (1, .ref B), (0, .ref b)]) hx hb (fh_d d_La_law 145 rfl) hl (by decide) rfl (fun ls hl => ?_)
              refine lv_aload_n hx hb (fh_d d_La_law 146 rfl) rfl (lv_at hl 3 rfl) ?_
              refine lv_aload_n hx hb (fh_d d_La_law 147 rfl) rfl (lv_at hl 5 rfl) ?_
              refine lv_iload hx hb (fh_d d_La_law 148 rfl) (lv_at hl 1 rfl) ?_
              refine lv_iconst (v := 1) hx hb (fh_d d_La_law 149 rfl) (by decide) ?_
              refine lv_iadd hx hb (fh_d d_La_law 150 rfl) ?_
              refine law_sld hx hb hX hbl hbA hS (k := i + 1) (nI_1 i) (by omega) (by omega) (fh_d d_La_law 151 rfl) ?_
              refine lv_aload_n hx hb (fh_d d_La_law 152 rfl) rfl (lv_at hl 5 rfl) ?_
              refine lv_iload hx hb (fh_d d_La_law 153 rfl) (lv_at hl 1 rfl) ?_
              refine lv_iconst (v := 2) hx hb (fh_d d_La_law 154 rfl) (by decide) ?_
              refine lv_iadd hx hb (fh_d d_La_law 155 rfl) ?_
              refine law_sld hx hb hX hbl hbA hS (k := i + 2) (nI_add i 2) (by omega) (by omega) (fh_d d_La_law 156 rfl) ?_
              refine fh_callV (cc' := c_Mo_piece) (nL' := 3) (rest := []) (a := B + 233) (As := [.int (xs (i + 1)), .int (xs (i + 2))]) X hR (hC3) w1225 w1222 w1223 w1224 w9 ⟨by decide, by decide, by show _ = some 2; decide +kernel⟩ (by omega) (by decide) (fh_recv hK hP hm9 rfl) hP hS hl.1 rfl (by exact Nat.le_of_ble_eq_true rfl) (fh_d d_La_law 157 rfl) ⟨by omega, by omega⟩ (fun v9 h9 n9 H locs hq hP hS => ?_)
              obtain ⟨wz, rfl, hq2⟩ := hq
              obtain ⟨⟨fm8, hm8⟩, hC5⟩ := hC4 wz h9 n9 hq2
              refine W.eq (g2 := F0 m 287 ls [.int wz]) rfl ?_
              refine lv_istore (lv' := [(6, .int wz), (5, .int kz), (4, .int (nI i)), (3, .ref (B + 276)), (2, .ref (B + 233)), (1, .ref B), (0, .ref b)]) hx hb (fh_d d_La_law 158 rfl) hl (by decide) rfl (fun ls hl => ?_)
              refine lv_aload_n hx hb (fh_d d_La_law 159 rfl) rfl (lv_at hl 4 rfl) ?_
              refine fh_callV (cc' := c_Mo_thrown) (nL' := 1) (rest := []) (a := B + 233) (As := []) X hR (hC5) w1024 w1021 w1022 w1023 w9 ⟨by decide, by decide, by show _ = some 0; decide +kernel⟩ (by omega) (by decide) (fh_recv hK hP hm8 rfl) hP hS hl.1 rfl (by exact Nat.le_of_ble_eq_true rfl) (fh_d d_La_law 160 rfl) ⟨by omega, by omega⟩ (fun v9 h9 n9 H locs hq hP hS => ?_)
              obtain ⟨rfl, hq3, hq4⟩ := hq
              refine W.eq (g2 := F0 m 293 ls [.int kz]) rfl ?_
              refine lv_iload hx hb (fh_d d_La_law 161 rfl) (lv_at hl 1 rfl) ?_
              refine lv_icmp_eq (tgt := 300) hx hb (fh_d d_La_law 162 rfl) rfl (fun c10 => ?_) (fun c10 => absurd c10 (fun z => z rfl))
              refine lv_iload hx hb (fh_d d_La_law 165 rfl) (lv_at hl 1 rfl) ?_
              refine lv_if_ne (tgt := 317) hx hb (fh_d d_La_law 166 rfl) rfl (fun c11 => ?_) (fun c11 => ?_)
              · refine lv_goto (tgt := 359) hx hb (fh_d d_La_law 176 rfl) rfl ?_
                exact next _ _ hi4 hq3 H _ _ _ _ (by omega) (by omega) hP hS (lv_sub hl [2, 3, 4, 5, 6] rfl)
              · obtain ⟨fo, ho9, hfo⟩ := hq4 c11
                refine lv_aload_n hx hb (fh_d d_La_law 167 rfl) rfl (lv_at hl 3 rfl) ?_
                refine lv_iconst (v := 0) hx hb (fh_d d_La_law 168 rfl) (by decide) ?_
                refine fh_lald hx hb hK hP 2 ho9 rfl (show ¬ ((0 : Int32) < 0 ∨ 1 ≤ Int32.toNatClampNeg 0) by decide) (fh_d d_La_law 169 rfl) ?_
                refine lv_iload hx hb (fh_d d_La_law 170 rfl) (lv_at hl 0 rfl) ?_
                refine lv_i2l hx hb (fh_d d_La_law 171 rfl) rfl ?_
                refine W.lcmp hx hb (fh_d d_La_law 172 rfl) ?_
                refine lv_if_eq (tgt := 317) hx hb (fh_d d_La_law 173 rfl) rfl (fun c12 => ?_) (fun c12 => absurd c12 (fun z => z (law_cmp hfo)))
                refine lv_goto (tgt := 359) hx hb (fh_d d_La_law 176 rfl) rfl ?_
                exact next _ _ hi4 hq3 H _ _ _ _ (by omega) (by omega) hP hS (lv_sub hl [2, 3, 4, 5, 6] rfl)
            refine lv_aload_n hx hb (fh_d d_La_law 132 rfl) rfl (lv_at hl 3 rfl) ?_
            refine lv_aload_n hx hb (fh_d d_La_law 133 rfl) rfl (lv_at hl 4 rfl) ?_
            refine lv_iload hx hb (fh_d d_La_law 134 rfl) (lv_at hl 0 rfl) ?_
            refine lv_iconst (v := 1) hx hb (fh_d d_La_law 135 rfl) (by decide) ?_
            refine lv_iadd hx hb (fh_d d_La_law 136 rfl) ?_
            refine law_sld hx hb hX hbl hbA hS (k := i + 1) (nI_1 i) (by omega) (by omega) (fh_d d_La_law 137 rfl) ?_
            refine lv_aload_n hx hb (fh_d d_La_law 138 rfl) rfl (lv_at hl 4 rfl) ?_
            refine lv_iload hx hb (fh_d d_La_law 139 rfl) (lv_at hl 0 rfl) ?_
            refine lv_iconst (v := 2) hx hb (fh_d d_La_law 140 rfl) (by decide) ?_
            refine lv_iadd hx hb (fh_d d_La_law 141 rfl) ?_
            refine law_sld hx hb hX hbl hbA hS (k := i + 2) (nI_add i 2) (by omega) (by omega) (fh_d d_La_law 142 rfl) ?_
            refine lv_aload_n hx hb (fh_d d_La_law 143 rfl) rfl (lv_at hl 1 rfl) ?_
            rcases hC1 with hC1 | hC1
            · refine fh_callSW (cc' := c_La_piece) (nL' := 5) (rest := []) (av := [.ref B, .int (xs (i + 1)), .int (xs (i + 2)), .ref (B + 276)]) (hs9 := [(0, 10, 13, 19)]) X hR hC1 w832 w830 w831 w0 ⟨by decide, by decide, by show _ = some 4; decide +kernel⟩ (by omega) (by decide) hP hS hl.1 rfl (by exact Nat.le_of_ble_eq_true rfl) (fh_d d_La_law 144 rfl) ⟨by omega, by omega⟩ (fun v9 h9 n9 H locs hq hP hS => ?_)
              obtain ⟨kz, rfl, hq⟩ := hq
              exact behind kz h9 n9 hq H locs ls _ _ (by omega) (by omega) hP hS hl
            · refine fh_callSW (cc' := c_La_piece) (nL' := 5) (rest := []) (av := [.ref B, .int (xs (i + 1)), .int (xs (i + 2)), .ref (B + 276)]) (hs9 := [(0, 10, 13, 19)]) X hR hC1 w832 w830 w831 w0 ⟨by decide, by decide, by show _ = some 4; decide +kernel⟩ (by omega) (by decide) hP hS hl.1 rfl (by exact Nat.le_of_ble_eq_true rfl) (fh_d d_La_law 144 rfl) ⟨by omega, by omega⟩ (fun v9 h9 n9 H locs hq hP hS => ?_)
              obtain ⟨kz, rfl, hq⟩ := hq
              exact behind kz h9 n9 hq H locs ls _ _ (by omega) (by omega) hP hS hl
          · refine lv_tableIn (tgt := 320) hx hb (fh_d d_La_law 24 rfl) (by decide) (by decide) rfl rfl ?_
            obtain ⟨P1, hC1, hC2⟩ := s6
            refine lv_aload_n hx hb (fh_d d_La_law 177 rfl) rfl (lv_at hl 3 rfl) ?_
            refine fh_callV (cc' := c_FS_width) (nL' := 1) (rest := []) (a := B) (As := []) X hR (hC1) w552 w549 w550 w551 w1 ⟨by decide, by decide, by show _ = some 0; decide +kernel⟩ (by omega) (by decide) (fh_recv hK hP ho rfl) hP hS hl.1 rfl (by exact Nat.le_of_ble_eq_true rfl) (fh_d d_La_law 178 rfl) ⟨by omega, by omega⟩ (fun v9 h9 n9 H locs hq hP hS => ?_)
            obtain ⟨wv, rfl, hq⟩ := hq
            obtain ⟨⟨fm9, hm9⟩, hC3⟩ := hC2 wv h9 n9 hq
            refine W.eq (g2 := F0 m 324 ls [.int wv]) rfl ?_
            refine lv_aload_n hx hb (fh_d d_La_law 179 rfl) rfl (lv_at hl 2 rfl) ?_
            refine fh_callV (cc' := c_Mo_width) (nL' := 1) (rest := [.int wv]) (a := B + 233) (As := []) X hR (hC3) w1229 w1226 w1227 w1228 w9 ⟨by decide, by decide, by show _ = some 0; decide +kernel⟩ (by omega) (by decide) (fh_recv hK hP hm9 rfl) hP hS hl.1 rfl (by exact Nat.le_of_ble_eq_true rfl) (fh_d d_La_law 180 rfl) ⟨by omega, by omega⟩ (fun v9 h9 n9 H locs hq hP hS => ?_)
            obtain ⟨rfl, hq⟩ := hq
            refine W.eq (g2 := F0 m 328 ls [.int wv, .int wv]) rfl ?_
            refine lv_icmp_eq (tgt := 359) hx hb (fh_d d_La_law 181 rfl) rfl (fun c13 => ?_) (fun c13 => absurd c13 (fun z => z rfl))
            exact next _ _ hi4 hq H _ _ _ _ (by omega) (by omega) hP hS (lv_sub hl [0, 1, 2, 3, 4] rfl)
          · refine lv_tableIn (tgt := 333) hx hb (fh_d d_La_law 24 rfl) (by decide) (by decide) rfl rfl ?_
            obtain ⟨P1, hC1, hC2⟩ := s7
            refine lv_aload_n hx hb (fh_d d_La_law 184 rfl) rfl (lv_at hl 3 rfl) ?_
            refine fh_callV (cc' := c_FS_height) (nL' := 1) (rest := []) (a := B) (As := []) X hR (hC1) w556 w553 w554 w555 w1 ⟨by decide, by decide, by show _ = some 0; decide +kernel⟩ (by omega) (by decide) (fh_recv hK hP ho rfl) hP hS hl.1 rfl (by exact Nat.le_of_ble_eq_true rfl) (fh_d d_La_law 185 rfl) ⟨by omega, by omega⟩ (fun v9 h9 n9 H locs hq hP hS => ?_)
            obtain ⟨wv, rfl, hq⟩ := hq
            obtain ⟨⟨fm9, hm9⟩, hC3⟩ := hC2 wv h9 n9 hq
            refine W.eq (g2 := F0 m 337 ls [.int wv]) rfl ?_
            refine lv_aload_n hx hb (fh_d d_La_law 186 rfl) rfl (lv_at hl 2 rfl) ?_
            refine fh_callV (cc' := c_Mo_height) (nL' := 1) (rest := [.int wv]) (a := B + 233) (As := []) X hR (hC3) w1233 w1230 w1231 w1232 w9 ⟨by decide, by decide, by show _ = some 0; decide +kernel⟩ (by omega) (by decide) (fh_recv hK hP hm9 rfl) hP hS hl.1 rfl (by exact Nat.le_of_ble_eq_true rfl) (fh_d d_La_law 187 rfl) ⟨by omega, by omega⟩ (fun v9 h9 n9 H locs hq hP hS => ?_)
            obtain ⟨rfl, hq⟩ := hq
            refine W.eq (g2 := F0 m 341 ls [.int wv, .int wv]) rfl ?_
            refine lv_icmp_eq (tgt := 359) hx hb (fh_d d_La_law 188 rfl) rfl (fun c14 => ?_) (fun c14 => absurd c14 (fun z => z rfl))
            exact next _ _ hi4 hq H _ _ _ _ (by omega) (by omega) hP hS (lv_sub hl [0, 1, 2, 3, 4] rfl)
          · refine lv_tableIn (tgt := 346) hx hb (fh_d d_La_law 24 rfl) (by decide) (by decide) rfl rfl ?_
            obtain ⟨P1, hC1, hC2⟩ := s8
            refine lv_aload_n hx hb (fh_d d_La_law 191 rfl) rfl (lv_at hl 3 rfl) ?_
            refine fh_callV (cc' := c_FS_depth) (nL' := 1) (rest := []) (a := B) (As := []) X hR (hC1) w560 w557 w558 w559 w1 ⟨by decide, by decide, by show _ = some 0; decide +kernel⟩ (by omega) (by decide) (fh_recv hK hP ho rfl) hP hS hl.1 rfl (by exact Nat.le_of_ble_eq_true rfl) (fh_d d_La_law 192 rfl) ⟨by omega, by omega⟩ (fun v9 h9 n9 H locs hq hP hS => ?_)
            obtain ⟨wv, rfl, hq⟩ := hq
            obtain ⟨⟨fm9, hm9⟩, hC3⟩ := hC2 wv h9 n9 hq
            refine W.eq (g2 := F0 m 350 ls [.int wv]) rfl ?_
            refine lv_aload_n hx hb (fh_d d_La_law 193 rfl) rfl (lv_at hl 2 rfl) ?_
            refine fh_callV (cc' := c_Mo_depth) (nL' := 1) (rest := [.int wv]) (a := B + 233) (As := []) X hR (hC3) w1237 w1234 w1235 w1236 w9 ⟨by decide, by decide, by show _ = some 0; decide +kernel⟩ (by omega) (by decide) (fh_recv hK hP hm9 rfl) hP hS hl.1 rfl (by exact Nat.le_of_ble_eq_true rfl) (fh_d d_La_law 194 rfl) ⟨by omega, by omega⟩ (fun v9 h9 n9 H locs hq hP hS => ?_)
            obtain ⟨rfl, hq⟩ := hq
            refine W.eq (g2 := F0 m 354 ls [.int wv, .int wv]) rfl ?_
            refine lv_icmp_eq (tgt := 359) hx hb (fh_d d_La_law 195 rfl) rfl (fun c15 => ?_) (fun c15 => absurd c15 (fun z => z rfl))
            exact next _ _ hi4 hq H _ _ _ _ (by omega) (by omega) hP hS (lv_sub hl [0, 1, 2, 3, 4] rfl)
        · have hv2 : (xs i &&& 15).toInt < 0 ∨ 8 < (xs i &&& 15).toInt := by
            have h1 : ¬ (xs i &&& 15) < 0 ↔ ¬ (xs i &&& 15).toInt < 0 := by rw [Int32.lt_iff_toInt_lt]; rfl
            have h2 : (xs i &&& 15) ≤ 8 ↔ (xs i &&& 15).toInt ≤ 8 := by rw [Int32.le_iff_toInt_le]; rfl
            rw [h1, h2] at hv
            omega
          refine lv_tableOut (tgt := 359) hx hb (fh_d d_La_law 24 rfl) hv2 rfl ?_
          exact next _ _ hi4 hI4 H _ _ _ _ (by omega) (by omega) hP hS (lv_sub hl [0, 1, 2, 3, 4] rfl)
  refine fh_new (own := "FormulaSetterLaw") (C := "FormulaSetter") (T := T_FS) (N := 7) (ci := 0) (fs := [.null, .null, .null, .int 0, .int 0, .int 0, .int 0]) hx hb hT i_FS t_FS k_FS hown (hT _ w27) (hT _ w28) (hT _ w1) hK hP hS rfl (by decide +kernel) (by show 0 + 1 ≤ 600002; omega) (by show 0 + 7 ≤ 7302232; omega) (fh_d d_La_law 0 rfl) (fun H hP hS => ?_)
  obtain ⟨h16, eh16⟩ : ∃ z : fh_H, z = fh_up (fun _ => none) B (.inr (0, [.null, .null, .null, .int 0, .int 0, .int 0, .int 0])) := ⟨_, rfl⟩
  replace hP : fh_P D fh_cl B h16 (B + 1) H := by rw [eh16]; exact hP
  have k17 : h16 B = some (.inr (0, [.null, .null, .null, .int 0, .int 0, .int 0, .int 0])) := by rw [eh16]; exact fh_up_same
  refine lv_dup hx hb (fh_d d_La_law 1 rfl) rfl ?_
  refine fh_callI (cc' := c_FS_init) (nL' := 1) (rest := [.ref B]) (a := B) (As := []) X hR (m_FS_init l D ct B RO hR hN 1300 (B + 1) B h16 (by omega) k17 rfl) w31 w29 w30 w1 rfl ⟨by decide, by decide, by show _ = some 0; decide +kernel⟩ (by omega) (by decide) hP hS hl.1 rfl (by exact Nat.le_of_ble_eq_true rfl) (fh_d d_La_law 2 rfl) ⟨by omega, by omega⟩ (fun v9 h9 n9 H locs hq hP hS => ?_)
  obtain ⟨rfl, ea, eb⟩ := hq
  rw [ea, eb] at hP
  refine W.eq (g2 := F0 m 7 ls [.ref B]) rfl ?_
  refine lv_astore_n (lv' := [(1, .ref B), (0, .ref b)]) hx hb (fh_d d_La_law 3 rfl) rfl hl (by decide) rfl (fun ls hl => ?_)
  refine fh_new (own := "FormulaSetterLaw") (C := "FormulaSetterModel") (T := T_Mo) (N := 53) (ci := 7) (fs := (.int 0 :: .int 0 :: .null :: .int 0 :: .int 0 :: .int 0 :: .int 0 :: .null :: .null :: .null :: .null :: .null :: .null :: .null :: .null :: .null :: .null :: .null :: .null :: .null :: .null :: .null :: .int 0 :: .null :: .null :: .null :: .null :: .null :: .null :: .null :: .null :: .null :: .null :: .null :: .null :: .null :: .null :: .null :: .null :: .null :: .null :: .null :: .null :: .null :: .null :: .null :: .null :: .null :: .int 0 :: .null :: .int 0 :: .int 0 :: .int 0 :: [])) hx hb hT i_Mo t_Mo k_Mo hown (hT _ w854) (hT _ w855) (hT _ w9) hK hP hS rfl (by decide +kernel) (by show 233 + 1 ≤ 600002; omega) (by show 3497 + 53 ≤ 7302232; omega) (fh_d d_La_law 4 rfl) (fun H hP hS => ?_)
  obtain ⟨h18, eh18⟩ : ∃ z : fh_H, z = fh_up (fs_1 ct B h16) (B + 233) (.inr (7, (.int 0 :: .int 0 :: .null :: .int 0 :: .int 0 :: .int 0 :: .int 0 :: .null :: .null :: .null :: .null :: .null :: .null :: .null :: .null :: .null :: .null :: .null :: .null :: .null :: .null :: .null :: .int 0 :: .null :: .null :: .null :: .null :: .null :: .null :: .null :: .null :: .null :: .null :: .null :: .null :: .null :: .null :: .null :: .null :: .null :: .null :: .null :: .null :: .null :: .null :: .null :: .null :: .null :: .int 0 :: .null :: .int 0 :: .int 0 :: .int 0 :: []))) := ⟨_, rfl⟩
  replace hP : fh_P D fh_cl B h18 (B + 234) H := by rw [eh18]; exact hP
  have k19 : h18 (B + 233) = some (.inr (7, (.int 0 :: .int 0 :: .null :: .int 0 :: .int 0 :: .int 0 :: .int 0 :: .null :: .null :: .null :: .null :: .null :: .null :: .null :: .null :: .null :: .null :: .null :: .null :: .null :: .null :: .null :: .int 0 :: .null :: .null :: .null :: .null :: .null :: .null :: .null :: .null :: .null :: .null :: .null :: .null :: .null :: .null :: .null :: .null :: .null :: .null :: .null :: .null :: .null :: .null :: .null :: .null :: .null :: .int 0 :: .null :: .int 0 :: .int 0 :: .int 0 :: []))) := by rw [eh18]; exact fh_up_same
  refine lv_dup hx hb (fh_d d_La_law 5 rfl) rfl ?_
  refine fh_callI (cc' := c_Mo_init) (nL' := 1) (rest := [.ref (B + 233)]) (a := B + 233) (As := []) X hR (m_Mo_init l D ct B RO 1300 (B + 234) (B + 233) h18 (by omega) k19 rfl) w858 w856 w857 w9 rfl ⟨by decide, by decide, by show _ = some 0; decide +kernel⟩ (by omega) (by decide) hP hS hl.1 rfl (by exact Nat.le_of_ble_eq_true rfl) (fh_d d_La_law 6 rfl) ⟨by omega, by omega⟩ (fun v9 h9 n9 H locs hq hP hS => ?_)
  obtain ⟨rfl, ec, ed⟩ := hq
  rw [ec, ed] at hP
  refine W.eq (g2 := F0 m 15 ls [.ref (B + 233)]) rfl ?_
  refine lv_astore_n (lv' := [(2, .ref (B + 233)), (1, .ref B), (0, .ref b)]) hx hb (fh_d d_La_law 7 rfl) rfl hl (by decide) rfl (fun ls hl => ?_)
  refine lv_iconst (v := 1) hx hb (fh_d d_La_law 8 rfl) (by decide) ?_
  refine fh_newa (atype := .long) (ty := .long) (N' := 1) (a0 := (1, .inr (.inl (fun _ => (0 : Int64))))) hx hb (hT _ w1239) rfl hK 2 rfl hP hS (fun _ => rfl) (by decide) (by decide) (by decide) (by show 276 + 1 ≤ 600002; omega) (by show 17874 + 1 ≤ 7302232; omega) (fh_d d_La_law 9 rfl) (fun H hP hS => ?_)
  obtain ⟨h20, eh20⟩ : ∃ z : fh_H, z = fh_up (mo_1 ct (B + 233) h18) (B + 276) (.inl (ct 2, 1, .inr (.inl (fun _ => (0 : Int64))))) := ⟨_, rfl⟩
  replace hP : fh_P D fh_cl B h20 (B + 277) H := by rw [eh20]; exact hP
  have k21 : h20 (B + 276) = some (.inl (ct 2, 1, .inr (.inl (fun _ => (0 : Int64))))) := by rw [eh20]; exact fh_up_same
  refine lv_astore_n (lv' := [(3, .ref (B + 276)), (2, .ref (B + 233)), (1, .ref B), (0, .ref b)]) hx hb (fh_d d_La_law 10 rfl) rfl hl (by decide) rfl (fun ls hl => ?_)
  refine lv_iconst (v := 0) hx hb (fh_d d_La_law 11 rfl) (by decide) ?_
  refine lv_istore (lv' := [(4, .int 0), (3, .ref (B + 276)), (2, .ref (B + 233)), (1, .ref B), (0, .ref b)]) hx hb (fh_d d_La_law 12 rfl) hl (by decide) rfl (fun ls hl => ?_)
  have hP9 : fh_P D fh_cl B (law_h0 ct B) (B + 277) H := by unfold law_h0; rw [eh20, eh18, eh16] at hP; exact hP
  exact W.widen (by omega) (by omega) (loop L 0 (by omega) (by omega) _ _ hI0 H _ _ hP9 hS (lv_sub hl [0, 1, 2, 3, 4] rfl))
