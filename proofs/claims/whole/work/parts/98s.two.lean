/-! Pure: a fraction. By hand. -/
theorem df_facts {A : Nat → Nat → Int32} {t n u : Nat} (hu : ixI (A 17 t) = u) (h17 : A 17 t = nI u) : (∀ k, k ≠ 10 → k ≠ 14 → k ≠ 16 → rf_df A t n k = A k) ∧ rf_df A t n 14 n = nI u ∧ (∀ m, m ≠ n → rf_df A t n 14 m = A 14 m) ∧ rf_df A t n 10 u = nI n ∧ (∀ m, m ≠ u → rf_df A t n 10 m = A 10 m) ∧ rf_df A t n 16 t = 5 ∧ ∀ j, j ≠ t → rf_df A t n 16 j = A 16 j := by
  refine ⟨fun k h1 h2 h3 => ?_, ?_, fun m hm => ?_, ?_, fun m hm => ?_, upd_s, fun j hj => upd_n hj⟩
  · unfold rf_df rf_d0 up2
    rw [if_neg h3, if_neg h1, if_neg h2]
  · show upd (A 14) n (A 17 t) n = _
    rw [upd_s, h17]
  · exact upd_n hm
  · show upd (A 10) (ixI (A 17 t)) (nI n) u = _
    rw [hu, upd_s]
  · show upd (A 10) (ixI (A 17 t)) _ m = _
    rw [hu]; exact upd_n hm
theorem d5_facts {A : Nat → Nat → Int32} {t n u : Nat} (hu : ixI (A 17 t) = u) (h17 : A 17 t = nI u) (h5 : A 16 t = 5) : (∀ k, k ≠ 10 → k ≠ 11 → k ≠ 14 → rf_dx A t n k = A k) ∧ rf_dx A t n 14 n = nI u ∧ (∀ m, m ≠ n → rf_dx A t n 14 m = A 14 m) ∧ rf_dx A t n 11 u = nI n ∧ (∀ m, m ≠ u → rf_dx A t n 11 m = A 11 m) ∧ ∀ m, rf_dx A t n 10 m = A 10 m := by
  refine ⟨fun k h1 h2 h3 => ?_, ?_, fun m hm => ?_, ?_, fun m hm => ?_, fun m => ?_⟩
  · unfold rf_dx rf_d0 up2
    rw [if_neg h2, if_neg h1, if_neg h3]
  · show upd (A 14) n (A 17 t) n = _
    rw [upd_s, h17]
  · exact upd_n hm
  · show upd (A 11) (ixI (A 17 t)) (if A 16 t = 5 then nI n else A 11 (ixI (A 17 t))) u = _
    rw [hu, upd_s, if_pos h5]
  · show upd (A 11) (ixI (A 17 t)) _ m = _
    rw [hu]; exact upd_n hm
  · show upd (A 10) (ixI (A 17 t)) (if A 16 t = 4 then nI n else A 10 (ixI (A 17 t))) m = _
    rw [hu]
    by_cases e : m = u
    · rw [e, upd_s, if_neg (fun z => by rw [h5] at z; exact absurd z (by decide))]
    · exact upd_n e
/-- what a head with a frame FIRST makes, for all such heads -/
theorem cmd_go {f : Nat → Int32} {L d nc lc a k a1 t : Nat} {cd wh cl : Int32} {A : Nat → Nat → Int32} {a' O : Nat} (hL9 : L ≤ 160) (hA : A 0 = f) (hI : rz_I L (A, a', 0, nc + lc, nc, O)) (hO : O + (d + 1) = 8) (hn : nc < 60) (hs : sk f L a' = sk f L a) (hL : sk f L a < L) (hst : rz_step L A (sk f L a) 0 (nc + lc) nc O = rz_begin A L (sk f L a) 0 (nc + lc) nc O) (hh : rdHead f L (sk f L a) = some (k, a1, cd, t)) (e2 : rz_hd A L k a1 cd t (nc + lc) nc O = rz_cmd A a1 0 (nc + lc) nc O wh cl) : ∃ A2, Rch L (A, a', 0, nc + lc, nc, O) (A2, a1, 0, nc + 1 + lc, nc + 1, O + 1) ∧ a1 ≤ L ∧ A2 0 = f ∧ A2 16 O = 4 ∧ A2 17 O = nI (nc + lc) ∧ kpt2 A A2 (nc + lc) O ∧ (∀ q, q < 16 → A2 q (nc + lc) = rf_nuc A (nc + lc) O (rz_u A O) wh cl q (nc + lc)) ∧ rz_I L (A2, a1, 0, nc + 1 + lc, nc + 1, O + 1) := by
  have hB := (rz_I_to hI).1
  obtain ⟨e1, -⟩ := begin_hd (N := nc + lc) (U := nc) (O := O) hA hh
  have hW := W_ok hB (by omega) hn
  have g := nuc_new (A := A) (N := nc + lc) (O := O) (u := rz_u A O) (wh := wh) (cl := cl)
  obtain ⟨A2, hA2⟩ : ∃ z, z = rf_push (rz_N A (nc + lc) O wh cl) O 4 (nI (nc + lc)) 0 := ⟨_, rfl⟩
  have r1 : Rch L (A, a', 0, nc + lc, nc, O) (A2, a1, 0, nc + 1 + lc, nc + 1, O + 1) := by
    have r := Rch.step (L := L) (A := A) (a := a') (N := nc + lc) (U := nc) (O := O) (by rw [hA, hs]; exact hL)
    rw [hA, hs, hst, e1, e2] at r
    unfold rz_cmd at r
    rw [hW, show nc + lc + 1 = nc + 1 + lc by omega, ← hA2] at r
    exact r
  have hI2 := r1.I (rz_J_ok hL9) hI
  refine ⟨A2, r1, (rz_I_to hI2).2.2.2, ?_, ?_, ?_, ?_, fun q hq => ?_, hI2⟩
  · rw [hA2, push_k (by decide)]; exact g.2.2.2.2.2.trans hA
  · rw [hA2]; exact push_new.1
  · rw [hA2]; exact push_new.2.1
  · rw [hA2]
    exact (nuc_kpt (A := A) (N := nc + lc) (O := O) (u := rz_u A O) (wh := wh) (cl := cl)).trans push_kpt (Nat.le_refl _) (Nat.le_refl _)
  · rw [hA2, push_k hq]
