/-! Pure: groups, and what lies between sides. By hand. -/
/-- what comes of a nucleus: T is what the class makes of it -/
def CN (f : Nat → Int32) (L d nc lc a' : Nat) (A : Nat → Nat → Int32) (O : Nat) (T : Option RT) : Prop := (T = none → Bad L (A, a', 0, nc + lc, nc, O)) ∧ ∀ (nc1 lc1 a1 : Nat) (C1 : Nat → Nat → Int32) (R1 : Nat → Nat → Option Nat) (CL1 : Nat → Nat → Int32) (RL1 : Nat → Nat → Option Nat), T = some (nc1, lc1, a1, C1, R1, CL1, RL1) → ∃ (A1 : Nat → Nat → Int32) (a2 : Nat), Rch L (A, a', 0, nc + lc, nc, O) ((rf_del O A1 (nc + lc)).1, a2, 0, nc1 + lc1, nc1, (rf_del O A1 (nc + lc)).2) ∧ sk f L a2 = sk f L a1 ∧ kpt2 A A1 (nc + lc) O ∧ SN C1 R1 CL1 RL1 A1 d nc lc nc1 lc1 ∧ rtO R1 A1 nc (nc + lc) O
theorem CN_bad {f : Nat → Int32} {L d nc lc a' : Nat} {A : Nat → Nat → Int32} {O : Nat} (h : Bad L (A, a', 0, nc + lc, nc, O)) : CN f L d nc lc a' A O none := ⟨fun _ => h, fun _ _ _ _ _ _ _ e => by cases e⟩
/-- a line's end that doesn't belong there -/
theorem lend_bad {f : Nat → Int32} {L N U O a a' : Nat} {A : Nat → Nat → Int32} {w : Int32} (hA : A 0 = f) (hs : sk f L a' = sk f L a) (h16 : A 16 (O - 1) = w) (hw : w ≤ 3) (hl : lend f L (sk f L a)) (hO : ¬ O = 1 ∨ sk f L a < L) (h125 : hre f L (sk f L a) = 125 → ¬ w = 1 ∧ ¬ w = 3) (h38 : hre f L (sk f L a) = 38 → ¬ w = 3) (h92 : hre f L (sk f L a) = 92 ∧ hre f L (sk f L a + 1) = 92 → ¬ w = 3) (hr : scm f L (sk f L a) 0 → ¬ w = 2) : Bad L (A, a', 0, N, U, O) := by
  have h3 : A 16 (O - 1) ≤ 3 := by rw [h16]; exact hw
  by_cases hlt : sk f L a < L
  · have r0 := Rch.step (L := L) (A := A) (a := a') (N := N) (U := U) (O := O) (by rw [hA, hs]; exact hlt)
    rw [hA, hs] at r0
    rcases hl with h | h | h | h | h
    · have hin : rz_in A L (sk f L a) N U O = none := by
        subst hA
        unfold rz_in
        rw [if_neg (by rw [h]; decide), if_neg (by rw [h]; decide), if_neg (by rw [h]; decide), if_neg (fun z => absurd (h.symm.trans z.1) (by decide)), if_neg (fun z => absurd (h.symm.trans z.1) (by decide))]
      rw [rz_step_begin (Or.inr hin)] at r0
      have hd : rdHead f L (sk f L a) = none := by
        unfold rdHead
        rw [h, if_neg (by decide), if_neg (by decide)]; rfl
      exact r0.bad (Bad.wrong (begin_no hA hd))
    · rw [rz_step_in h3 (in_close hA h)] at r0
      refine r0.bad (Bad.wrong ?_)
      unfold rz_close
      rw [h16, if_neg (fun z => z.elim (h125 h).1 (h125 h).2)]
    · rw [rz_step_in h3 (in_amp hA h)] at r0
      refine r0.bad (Bad.wrong ?_)
      show rf_cw (if A 16 (O - 1) = 3 then 0 else 1) _ _ = 1
      rw [h16, if_neg (h38 h)]
      exact if_pos (Or.inl (by decide))
    · rw [rz_step_in h3 (in_row hA h)] at r0
      refine r0.bad (Bad.wrong ?_)
      show rf_cw (if A 16 (O - 1) = 3 then 0 else 1) _ _ = 1
      rw [h16, if_neg (h92 h)]
      exact if_pos (Or.inl (by decide))
    · rw [rz_step_in h3 (in_right hA h)] at r0
      refine r0.bad (Bad.wrong ?_)
      unfold rz_right
      rw [h16, if_neg (fun z => hr h z.1)]
  · exact Bad.ended (by rw [hA, hs]; exact hlt) (hO.elim id (fun z => absurd z hlt))
/-- a list that is opened: u is where its owner says so -/
theorem ins_facts {B : Nat → Nat → Int32} {n O u : Nat} {wh : Int32} (hu : (wh = 3 ∧ u = 6) ∨ (¬ wh = 3 ∧ u = 10)) : rf_ins B (n + 1) O n wh 0 = B 0 ∧ (∀ k, k ≤ 15 → k ≠ u → rf_ins B (n + 1) O n wh k n = B k n) ∧ rf_ins B (n + 1) O n wh u n = nI (n + 1) ∧ (∀ k, k = 1 ∨ k = 2 ∨ k = 3 ∨ k = 4 ∨ k = 6 ∨ k = 7 ∨ k = 8 ∨ k = 9 ∨ k = 10 ∨ k = 11 ∨ k = 12 ∨ k = 13 ∨ k = 15 → rf_ins B (n + 1) O n wh k (n + 1) = 0) ∧ rf_ins B (n + 1) O n wh 14 (n + 1) = nI n ∧ (∀ m, m ≠ n → m ≠ n + 1 → ∀ k, k ≤ 15 → rf_ins B (n + 1) O n wh k m = B k m) ∧ (rf_ins B (n + 1) O n wh 16 O = wh ∧ rf_ins B (n + 1) O n wh 17 O = nI n ∧ rf_ins B (n + 1) O n wh 18 O = nI (n + 1) ∧ rf_ins B (n + 1) O n wh 19 O = 0) ∧ ∀ j, j ≠ O → ∀ k, 16 ≤ k → rf_ins B (n + 1) O n wh k j = B k j := by
  obtain ⟨X, hX⟩ : ∃ X, X = up2 (rf_ow B (n + 1) (nI n)) u (upd (rf_make B (n + 1) 0 u) n (nI (n + 1))) := ⟨_, rfl⟩
  have e : rf_ins B (n + 1) O n wh = rf_push X O wh (nI n) (nI (n + 1)) := by
    unfold rf_ins
    rw [hX]
    rcases hu with ⟨h, rfl⟩ | ⟨h, rfl⟩
    · rw [if_pos h]
    · rw [if_neg h]
  have hu14 : u = 6 ∨ u = 10 := by rcases hu with ⟨-, h⟩ | ⟨-, h⟩ <;> omega
  have hm : rf_make B (n + 1) 0 u = rf_ow B (n + 1) (nI n) u := by rcases hu14 with rfl | rfl <;> rfl
  have hXn : ∀ k m, (k ≠ u ∨ m ≠ n) → X k m = rf_ow B (n + 1) (nI n) k m := fun k m h => by
    rw [hX]
    unfold up2
    by_cases c : k = u
    · rw [if_pos c, hm, c]
      exact upd_n (h.elim (fun z => absurd c z) id)
    · rw [if_neg c]
  have hXu : X u n = nI (n + 1) := by
    rw [hX]
    unfold up2
    rw [if_pos rfl]
    exact upd_s
  obtain ⟨o1, o2, o3, o4⟩ := ow_new (A := B) (N := n + 1) (nn := nI n)
  rw [e]
  refine ⟨?_, fun k hk h => ?_, ?_, fun k hk => ?_, ?_, fun m h1 h2 k hk => ?_, push_new, fun j hj k hk => ?_⟩
  · rw [push_k (by decide)]
    funext m
    rw [hXn 0 m (Or.inl (by omega)), o4]
  · rw [push_k (by omega), hXn k n (Or.inl h)]
    exact ow_old (by omega) k
  · rw [push_k (by omega)]; exact hXu
  · rw [push_k (by omega), hXn k _ (Or.inr (by omega))]
    exact o2 k hk
  · rw [push_k (by omega), hXn 14 _ (Or.inr (by omega))]
    exact o1
  · rw [push_k (by omega), hXn k m (Or.inr h1)]
    exact ow_old h2 k
  · rw [push_old hj, hXn k j (Or.inl (by omega)), o3 k hk]
/-- a list is opened behind nucleus nc -/
theorem open_go {f : Nat → Int32} {L d nc lc : Nat} {A B : Nat → Nat → Int32} {O u b : Nat} {wh : Int32} {C : Nat → Nat → Int32} {R : Nat → Nat → Option Nat} {CL : Nat → Nat → Int32} {RL : Nat → Nat → Option Nat} (hL9 : L ≤ 160) (hG : GN f L d) (hG1 : GN f L (d - 1)) (hO : O + (d + 1) = 8) (hn : nc < 60) (hla : lc ≤ b) (hu : (wh = 3 ∧ u = 6) ∨ (¬ wh = 3 ∧ u = 10)) (hw : wh ≤ 3) (hB0 : B 0 = f) (hB : kpt2 A B (nc + lc) O) (hI2 : rz_I L (rf_ins B (nc + lc + 1) O (nc + lc) wh, b, 0, nc + 1 + (lc + 1), nc + 1, O + 1)) :
    (pL f L d (nc + 1, lc, b, C, R, CL, RL) = none → Bad L (rf_ins B (nc + lc + 1) O (nc + lc) wh, b, 0, nc + 1 + (lc + 1), nc + 1, O + 1)) ∧ ∀ (nc1 lc1 a1 : Nat) (C1 : Nat → Nat → Int32) (R1 : Nat → Nat → Option Nat) (CL1 : Nat → Nat → Int32) (RL1 : Nat → Nat → Option Nat), pL f L d (nc + 1, lc, b, C, R, CL, RL) = some (nc1, lc1, a1, C1, R1, CL1, RL1) → ∃ (A1 : Nat → Nat → Int32) (a2 : Nat), Rch L (rf_ins B (nc + lc + 1) O (nc + lc) wh, b, 0, nc + 1 + (lc + 1), nc + 1, O + 1) (A1, a2, 0, nc1 + lc1, nc1, O + 1) ∧ sk f L a2 = sk f L a1 ∧ A1 0 = f ∧ SL R1 RL1 A1 (SN C1 R1 CL1 RL1 A1 d) (nc + 1, lc, nc1, lc1) ∧ lend f L (sk f L a1) ∧ kpt2 A A1 (nc + lc) O ∧ (∀ k, 1 ≤ k → k ≤ 15 → k ≠ u → A1 k (nc + lc) = B k (nc + lc)) ∧ A1 u (nc + lc) = nI (nc + lc + 1) ∧ (A1 14 (nc + lc + 1) = nI (nc + lc) ∧ A1 15 (nc + lc + 1) = 0) ∧ (A1 16 O = wh ∧ A1 17 O = nI (nc + lc) ∧ A1 18 O = nI (nc + lc + 1)) ∧ (A1 7 (nc + lc + 1) = 0 ∧ A1 8 (nc + lc + 1) = 0 ∧ A1 9 (nc + lc + 1) = 0) := by
  obtain ⟨i0, i1, i2, i3, i4, i5, i6, i7⟩ := ins_facts (B := B) (n := nc + lc) (O := O) hu
  obtain ⟨A2, hA2⟩ : ∃ z, z = rf_ins B (nc + lc + 1) O (nc + lc) wh := ⟨_, rfl⟩
  rw [← hA2] at i0 i1 i2 i3 i4 i5 i6 i7 hI2 ⊢
  have hb := (rz_I_to hI2).2.2.2
  have en : nc + 1 + lc = nc + lc + 1 := by omega
  obtain ⟨G1, G2⟩ := line_all (C := C) (R := R) (CL := CL) (RL := RL) (nc := nc + 1) (lc := lc) (a := b) (a' := b) hL9 hG hG1 (show O + 1 + d = 8 by omega) (i0.trans hB0) hI2 (by omega) hla hb rfl (by rw [Nat.add_sub_cancel, i6.1]; exact hw) (by rw [Nat.add_sub_cancel, en]; exact i6.2.2.1) (by rw [Nat.add_sub_cancel]; exact i6.2.2.2) (by rw [en]; exact ⟨i3 1 (by omega), i3 10 (by omega), i3 11 (by omega), i3 12 (by omega), i3 13 (by omega)⟩) (by rw [en]; exact i3 6 (by omega))
  rw [en] at G2
  refine ⟨G1, fun nc1 lc1 a1 C1 R1 CL1 RL1 e => ?_⟩
  obtain ⟨A1, a2, r, s, z, I, k1, k2, k3, k4⟩ := G2 nc1 lc1 a1 C1 R1 CL1 RL1 e
  rw [Nat.add_sub_cancel] at k3
  have hn1 : ∀ k, 1 ≤ k → k ≤ 15 → A1 k (nc + lc) = A2 k (nc + lc) := fun k h1 h2 => k1 k h1 h2 _ (by omega)
  refine ⟨A1, a2, r, s, z, I, k4, ⟨?_, fun k h1 h2 m hm => ?_, fun k h1 h2 j hj => ?_⟩, fun k h1 h2 h3 => ?_, ?_, ⟨?_, ?_⟩, ⟨?_, ?_, ?_⟩, ?_, ?_, ?_⟩
  · rw [z, ← hB0]; exact hB.1
  · rw [k1 k h1 h2 m (by omega), i5 m (by omega) (by omega) k h2]; exact hB.2.1 k h1 h2 m hm
  · rw [k3 k h1 h2 j (by omega) (Or.inr (by omega)), i7 j (by omega) k h1]; exact hB.2.2 k h1 h2 j hj
  · rw [hn1 k h1 h2]; exact i1 k h2 h3
  · rw [hn1 u (by omega) (by omega)]; exact i2
  · rw [k2 14 (by decide) (by decide) (by decide)]; exact i4
  · rw [k2 15 (by decide) (by decide) (by decide)]; exact i3 15 (by omega)
  · rw [k3 16 (by decide) (by decide) O (by omega) (Or.inl (by decide))]; exact i6.1
  · rw [k3 17 (by decide) (by decide) O (by omega) (Or.inl (by decide))]; exact i6.2.1
  · rw [k3 18 (by decide) (by decide) O (by omega) (Or.inl (by decide))]; exact i6.2.2.1
  · rw [k2 7 (by decide) (by decide) (by decide)]; exact i3 7 (by omega)
  · rw [k2 8 (by decide) (by decide) (by decide)]; exact i3 8 (by omega)
  · rw [k2 9 (by decide) (by decide) (by decide)]; exact i3 9 (by omega)
theorem grp_ok {f : Nat → Int32} {L d nc lc a a1 t : Nat} {cd : Int32} {C : Nat → Nat → Int32} {R : Nat → Nat → Option Nat} {CL : Nat → Nat → Int32} {RL : Nat → Nat → Option Nat} {A : Nat → Nat → Int32} {a' O : Nat} (hL9 : L ≤ 160) (hlc : lc ≤ 161) (hla : lc ≤ a + 1) (hA : A 0 = f) (hI : rz_I L (A, a', 0, nc + lc, nc, O)) (hO : O + (d + 1) = 8) (hn : nc < 60) (hs : sk f L a' = sk f L a) (hL : sk f L a < L) (hst : rz_step L A (sk f L a) 0 (nc + lc) nc O = rz_begin A L (sk f L a) 0 (nc + lc) nc O) (hh : rdHead f L (sk f L a) = some (1, a1, cd, t)) (hG : GN f L d) (hG1 : GN f L (d - 1)) :
    CN f L (d + 1) nc lc a' A O (pParts f L (pN f L d) (pL f L d) 1 nc (nc + 1, lc, a1, sT (nu_c C nc) nc 7 cd, sT (sT (nu_r R nc) nc 5 (some 1)) nc 6 (some t), CL, RL)) := by
  have hB := (rz_I_to hI).1
  have hO1 : 1 ≤ O := hB.1
  have hrow := row_new (C := C) (R := R) (nc := nc) (k := 1) (t := t) (cd := cd)
  obtain ⟨e1, -, ht8, -⟩ := begin_hd (N := nc + lc) (U := nc) (O := O) hA hh
  have hW := W_ok hB (by omega) hn
  obtain ⟨ht, hcd⟩ : t = 0 ∧ cd = 0 := by
    rcases hd_val hh with ⟨h1, -⟩ | ⟨-, h1, h2⟩ | ⟨h1, -⟩
    · omega
    · exact ⟨h1, h2⟩
    · omega
  have g := nuc_new (A := A) (N := nc + lc) (O := O) (u := rz_u A O) (wh := 3) (cl := 0)
  have r0 := Rch.step (L := L) (A := A) (a := a') (N := nc + lc) (U := nc) (O := O) (by rw [hA, hs]; exact hL)
  have e2 : rz_hd A L 1 a1 cd t (nc + lc) nc O = (rf_ins (rz_N A (nc + lc) O 3 0) (nc + lc + 1) O (nc + lc) 1, a1, rz_W A O nc 0, nc + lc + 2, nc + 1, O + 1) := rfl
  rw [hA, hs, hst, e1, e2, hW, show nc + lc + 2 = nc + 1 + (lc + 1) by omega] at r0
  have hh2 := rdHead_ok hh
  have hsg := sk_g f L a
  have hI2 := r0.I (rz_J_ok hL9) hI
  obtain ⟨G1, G2⟩ := open_go (A := A) (C := sT (nu_c C nc) nc 7 cd) (R := sT (sT (nu_r R nc) nc 5 (some 1)) nc 6 (some t)) (CL := CL) (RL := RL) hL9 hG hG1 hO hn (show lc ≤ a1 by omega) (Or.inr ⟨by decide, rfl⟩) (by decide) (g.2.2.2.2.2.trans hA) nuc_kpt hI2
  have ep : ∀ S : RT, pParts f L (pN f L d) (pL f L d) 1 nc S = (pL f L d S).bind fun (nc1, lc1, a1, C1, R1, CL1, RL1) => if hre f L (sk f L a1) = 125 then some (nc1, lc1, sk f L a1 + 1, C1, sT R1 nc 11 (some S.2.1), CL1, RL1) else none := fun S => rfl
  rw [ep]
  rcases e : pL f L d (nc + 1, lc, a1, sT (nu_c C nc) nc 7 cd, sT (sT (nu_r R nc) nc 5 (some 1)) nc 6 (some t), CL, RL) with _ | ⟨nc1, lc1, b1, C1, R1, CL1, RL1⟩
  · exact CN_bad (r0.bad (G1 e))
  · rw [Option.bind_some]
    obtain ⟨A3, a3, r2, s2, z2, I2, le2, k2, n2, n10, w2, f2, -⟩ := G2 nc1 lc1 b1 C1 R1 CL1 RL1 e
    have hkeep := (kp_ln (pN_gK f L d).1 (pN_gK f L (d - 1)).1 _ _ (show nc + 1 ≤ 60 by omega) (show lc ≤ 161 from hlc) (show a1 ≤ L from hh2.2.1) e).1
    have hrK : ∀ q c, q < nc + 1 → C1 q c = sT (nu_c C nc) nc 7 cd q c ∧ R1 q c = sT (sT (nu_r R nc) nc 5 (some 1)) nc 6 (some t) q c := fun q c hq => hkeep.2.2.2.2.2.1 q c hq (fun z => z)
    have hix : ixI (A3 17 O) = nc + lc := by rw [f2.2.1]; exact nI_clamp (by omega)
    dsimp only
    by_cases q : hre f L (sk f L b1) = 125
    · rw [if_pos q]
      refine ⟨fun e => (nomatch e), fun nc9 lc9 a9 C9 R9 CL9 RL9 e9 => ?_⟩
      cases e9
      have hlt : sk f L b1 < L := hre_lt (by rw [q]; decide)
      have r3 := Rch.step (L := L) (A := A3) (a := a3) (N := nc1 + lc1) (U := nc1) (O := O + 1) (by rw [z2, s2]; exact hlt)
      rw [z2, s2, rz_step_in (by rw [Nat.add_sub_cancel, f2.1]; decide) (in_close z2 q)] at r3
      unfold rz_close at r3
      rw [Nat.add_sub_cancel, f2.1, if_pos (Or.inl rfl), show rz_u A3 (O + 1) = nc + lc from hix] at r3
      have hr : ∀ c, c ≠ 11 → sT R1 nc 11 (some lc) nc c = sT (sT (nu_r R nc) nc 5 (some 1)) nc 6 (some t) nc c := fun c hc => (sT_ne (fun z => hc z.2)).trans (hrK nc c (by omega)).2
      refine ⟨A3, sk f L b1 + 1, (r0.trans r2).trans r3, rfl, k2, ?_, ?_⟩
      · refine ⟨1, by decide, (hr 5 (by decide)).trans hrow.2.1, ?_, ?_, ?_, ?_⟩
        · refine ⟨?_, fun _ => ?_⟩
          · rw [n2 1 (by decide) (by decide) (by decide), g.1]; rfl
          · rw [n2 6 (by decide) (by decide) (by decide)]; exact g.2.2.2.1 6 (by omega)
        · rw [n2 2 (by decide) (by decide) (by decide), g.2.2.2.1 2 (by omega), (hrK nc 7 (by omega)).1, hrow.1, hcd]
        · rw [(hrK nc 7 (by omega)).1, hrow.1, hcd]; exact ⟨rfl, by decide⟩
        · unfold SK
          rw [if_neg (by omega), if_pos (Or.inl rfl)]
          refine ⟨sT_same, n10, ?_, ?_, w2.1, w2.2, fun z => absurd z (by decide)⟩
          · show A3 11 (nc + lc) = 0
            rw [n2 11 (by decide) (by decide) (by decide)]; exact g.2.2.2.1 11 (by omega)
          · refine SL_ag (C := C1) (CL := CL1) (C' := C1) (CL' := CL1) (SN_le d) (fun x => SN_ag d x) I2 ⟨rfl, fun _ _ => rfl, fun p p1 p2 => ⟨rfl, rfl, fun k => sT_ne (by dsimp only at p1; omega)⟩, fun _ _ _ => ⟨rfl, rfl, rfl, rfl⟩, fun _ _ _ _ _ _ => rfl⟩
      · refine ⟨t, ht8, (hr 6 (by decide)).trans hrow.2.2.1, ?_, ⟨(hr 12 (by decide)).trans (hrow.2.2.2 12 (by decide) (by decide)), (hr 13 (by decide)).trans (hrow.2.2.2 13 (by decide) (by decide)), (hr 14 (by decide)).trans (hrow.2.2.2 14 (by decide) (by decide))⟩, ⟨?_, ?_, ?_, ?_⟩, ?_⟩
        · rw [n2 4 (by decide) (by decide) (by decide), g.2.1, ht]; rfl
        · rw [n2 7 (by decide) (by decide) (by decide)]; exact g.2.2.2.1 7 (by omega)
        · rw [n2 12 (by decide) (by decide) (by decide)]; exact g.2.2.2.1 12 (by omega)
        · rw [n2 13 (by decide) (by decide) (by decide)]; exact g.2.2.2.1 13 (by omega)
        · rw [n2 15 (by decide) (by decide) (by decide)]; exact g.2.2.2.1 15 (by omega)
        · rw [n2 5 (by decide) (by decide) (by decide), g.2.2.1]; exact rz_lv hB
    · rw [if_neg q]
      exact CN_bad ((r0.trans r2).bad (lend_bad (w := 1) z2 s2 (by rw [Nat.add_sub_cancel]; exact f2.1) (by decide) le2 (Or.inl (by omega)) (fun z => absurd z q) (fun _ => by decide) (fun _ => by decide) (fun _ => by decide)))
theorem sid_ok {f : Nat → Int32} {L d nc lc a a1 t : Nat} {cd : Int32} {C : Nat → Nat → Int32} {R : Nat → Nat → Option Nat} {CL : Nat → Nat → Int32} {RL : Nat → Nat → Option Nat} {A : Nat → Nat → Int32} {a' O : Nat} (hL9 : L ≤ 160) (hf : ∀ j, okd (f j)) (hlc : lc ≤ 161) (hla : lc ≤ a + 1) (hA : A 0 = f) (hI : rz_I L (A, a', 0, nc + lc, nc, O)) (hO : O + (d + 1) = 8) (hn : nc < 60) (hs : sk f L a' = sk f L a) (hL : sk f L a < L) (hst : rz_step L A (sk f L a) 0 (nc + lc) nc O = rz_begin A L (sk f L a) 0 (nc + lc) nc O) (hh : rdHead f L (sk f L a) = some (9, a1, cd, t)) (hG : GN f L d) (hG1 : GN f L (d - 1)) :
    CN f L (d + 1) nc lc a' A O (pParts f L (pN f L d) (pL f L d) 9 nc (nc + 1, lc, a1, sT (nu_c C nc) nc 7 cd, sT (sT (nu_r R nc) nc 5 (some 9)) nc 6 (some t), CL, RL)) := by
  have hB := (rz_I_to hI).1
  have hO1 : 1 ≤ O := hB.1
  have hrow := row_new (C := C) (R := R) (nc := nc) (k := 9) (t := t) (cd := cd)
  obtain ⟨e1, -, ht8, -⟩ := begin_hd (N := nc + lc) (U := nc) (O := O) hA hh
  have hW := W_ok hB (by omega) hn
  have ht : t = 7 := by
    rcases hd_val hh with ⟨h1, -⟩ | ⟨h1, -⟩ | ⟨-, -, h1⟩
    · omega
    · omega
    · exact h1
  have g := nuc_new (A := A) (N := nc + lc) (O := O) (u := rz_u A O) (wh := 8) (cl := 7)
  have r0 := Rch.step (L := L) (A := A) (a := a') (N := nc + lc) (U := nc) (O := O) (by rw [hA, hs]; exact hL)
  have e2 : rz_hd A L 9 a1 cd t (nc + lc) nc O = rz_left A L a1 0 (nc + lc) nc O := rfl
  rw [hA, hs, hst, e1, e2] at r0
  unfold rz_left at r0
  rw [hW, hA, show nc + lc + 2 = nc + 1 + (lc + 1) by omega] at r0
  have hh2 := rdHead_ok hh
  have hsg := sk_g f L a
  have hsg1 := sk_g f L a1
  have ep : pParts f L (pN f L d) (pL f L d) 9 nc (nc + 1, lc, a1, sT (nu_c C nc) nc 7 cd, sT (sT (nu_r R nc) nc 5 (some 9)) nc 6 (some t), CL, RL) = pSides f L (pL f L d) nc (nc + 1, lc, a1, sT (nu_c C nc) nc 7 cd, sT (sT (nu_r R nc) nc 5 (some 9)) nc 6 (some t), CL, RL) := rfl
  rw [ep]
  simp only [pSides]
  have esd : rz_sd A L a1 = if isSd (hre f L (sk f L a1)) then hre f L (sk f L a1) else -1 := by rw [← hA]
  by_cases hq : isSd (hre f L (sk f L a1))
  · rw [if_pos hq]
    rw [if_pos hq] at esd
    have hpos : ¬ hre f L (sk f L a1) < 0 := by rcases hq with h | h | h | h | h | h <;> rw [h] <;> decide
    rw [esd, show orw 0 (hre f L (sk f L a1) < 0) = 0 from if_neg (fun z => z.elim (fun y => y rfl) hpos)] at r0
    obtain ⟨c1, hc1⟩ : ∃ z, z = hre f L (sk f L a1) := ⟨_, rfl⟩
    rw [← hc1] at r0 ⊢
    have hc1d : okd c1 := by rw [hc1]; exact hre_d hf
    obtain ⟨B, hBB⟩ : ∃ z, z = up2 (rz_N A (nc + lc) O 8 7) 2 (upd (rz_N A (nc + lc) O 8 7 2) (nc + lc) c1) := ⟨_, rfl⟩
    rw [← hBB] at r0
    have hBk : ∀ k, k ≠ 2 → B k = rf_nuc A (nc + lc) O (rz_u A O) 8 7 k := fun k hk => by
      rw [hBB]; unfold up2; rw [if_neg hk]
    have hB2 : B 2 (nc + lc) = c1 := by rw [hBB]; exact upd_s
    have hBkp : kpt2 A B (nc + lc) O := by
      refine (nuc_kpt (A := A) (N := nc + lc) (O := O) (u := rz_u A O) (wh := 8) (cl := 7)).trans (N2 := nc + lc) (O2 := O) ⟨hBk 0 (by decide), fun k h1 h2 m hm => ?_, fun k h1 h2 j hj => by rw [hBk k (by omega)]⟩ (Nat.le_refl _) (Nat.le_refl _)
      rw [hBB]
      exact up2_old (by omega) (fun _ => rfl) rfl k
    have hlt1 : sk f L a1 < L := hre_lt (by rw [← hc1]; intro z; rw [← hc1, z] at hq; exact absurd hq (by decide))
    have hI2 := r0.I (rz_J_ok hL9) hI
    obtain ⟨G1, G2⟩ := open_go (A := A) (C := sT (sT (nu_c C nc) nc 7 cd) nc 7 c1) (R := sT (sT (nu_r R nc) nc 5 (some 9)) nc 6 (some t)) (CL := CL) (RL := RL) hL9 hG hG1 hO hn (show lc ≤ sk f L a1 + 1 by omega) (Or.inr ⟨by decide, rfl⟩) (by decide) (hBkp.1.trans hA) hBkp hI2
    rcases e : pL f L d (nc + 1, lc, sk f L a1 + 1, sT (sT (nu_c C nc) nc 7 cd) nc 7 c1, sT (sT (nu_r R nc) nc 5 (some 9)) nc 6 (some t), CL, RL) with _ | ⟨nc1, lc1, b1, C1, R1, CL1, RL1⟩
    · exact CN_bad (r0.bad (G1 e))
    · rw [Option.bind_some]
      obtain ⟨A3, a3, r2, s2, z2, I2, le2, k2, n2, n10, w2, f2, -⟩ := G2 nc1 lc1 b1 C1 R1 CL1 RL1 e
      have hkeep := (kp_ln (pN_gK f L d).1 (pN_gK f L (d - 1)).1 _ _ (show nc + 1 ≤ 60 by omega) (show lc ≤ 161 from hlc) (show sk f L a1 + 1 ≤ L from hlt1) e).1
      have hrK : ∀ q c, q < nc + 1 → C1 q c = sT (sT (nu_c C nc) nc 7 cd) nc 7 c1 q c ∧ R1 q c = sT (sT (nu_r R nc) nc 5 (some 9)) nc 6 (some t) q c := fun q c hq => hkeep.2.2.2.2.2.1 q c hq (fun z => z)
      have hix : ixI (A3 17 O) = nc + lc := by rw [f2.2.1]; exact nI_clamp (by omega)
      dsimp only
      by_cases q : scm f L (sk f L b1) 0
      · rw [if_pos q]
        have hlt : sk f L b1 < L := hre_lt (by rw [q.1]; decide)
        have r3 := Rch.step (L := L) (A := A3) (a := a3) (N := nc1 + lc1) (U := nc1) (O := O + 1) (by rw [z2, s2]; exact hlt)
        rw [z2, s2, rz_step_in (by rw [Nat.add_sub_cancel, f2.1]; decide) (in_right z2 q)] at r3
        unfold rz_right at r3
        have esd2 : rz_sd A3 L (sk f L b1 + 6) = if isSd (hre f L (sk f L (sk f L b1 + 6))) then hre f L (sk f L (sk f L b1 + 6)) else -1 := by rw [← z2]
        by_cases hq2 : isSd (hre f L (sk f L (sk f L b1 + 6)))
        · rw [if_pos hq2]
          rw [if_pos hq2] at esd2
          obtain ⟨c2, hc2⟩ : ∃ z, z = hre f L (sk f L (sk f L b1 + 6)) := ⟨_, rfl⟩
          rw [← hc2] at esd2 ⊢
          have hc2d : okd c2 := by rw [hc2]; exact hre_d hf
          have hpos2 : ¬ c2 < 0 := by rw [← hc2] at hq2; rcases hq2 with h | h | h | h | h | h <;> rw [h] <;> decide
          rw [Nat.add_sub_cancel, f2.1, esd2, if_pos ⟨rfl, hpos2⟩, show rz_u A3 (O + 1) = nc + lc from hix, z2] at r3
          obtain ⟨A4, hA4⟩ : ∃ z, z = up2 A3 3 (upd (A3 3) (nc + lc) c2) := ⟨_, rfl⟩
          have e4 : rz_rA A3 L (sk f L b1) (O + 1) = A4 := by
            show up2 A3 3 (upd (A3 3) (rz_u A3 (O + 1)) (rz_sd A3 L (sk f L b1 + 6))) = A4
            rw [esd2, show rz_u A3 (O + 1) = nc + lc from hix, hA4]
          rw [e4] at r3
          have h4k : ∀ k, k ≠ 3 → A4 k = A3 k := fun k hk => by rw [hA4]; unfold up2; rw [if_neg hk]
          have h4m : ∀ m, m ≠ nc + lc → ∀ k, A4 k m = A3 k m := fun m hm k => by rw [hA4]; exact up2_old hm (fun _ => rfl) rfl k
          have h43 : A4 3 (nc + lc) = c2 := by rw [hA4]; exact upd_s
          refine ⟨fun e => (nomatch e), fun nc9 lc9 a9 C9 R9 CL9 RL9 e9 => ?_⟩
          cases e9
          have hr : ∀ c, c ≠ 11 → sT R1 nc 11 (some lc) nc c = sT (sT (nu_r R nc) nc 5 (some 9)) nc 6 (some t) nc c := fun c hc => (sT_ne (fun z => hc z.2)).trans (hrK nc c (by omega)).2
          have hC7 : sT C1 nc 8 c2 nc 7 = c1 := (sT_ne (by omega)).trans ((hrK nc 7 (by omega)).1.trans sT_same)
          have hnn : ∀ k, 1 ≤ k → k ≤ 15 → k ≠ 10 → k ≠ 2 → k ≠ 3 → A4 k (nc + lc) = rf_nuc A (nc + lc) O (rz_u A O) 8 7 k (nc + lc) := fun k h1 h2 h10 hk2 hk3 => by
            rw [h4k k hk3, n2 k h1 h2 h10, hBk k hk2]
          refine ⟨A4, sk f L (sk f L b1 + 6) + 1, (r0.trans r2).trans r3, rfl, ?_, ?_, ?_⟩
          · refine k2.trans (N2 := nc + lc) (O2 := O) ⟨h4k 0 (by decide), fun k _ _ m hm => h4m m (by omega) k, fun k h1 _ j _ => by rw [h4k k (by omega)]⟩ (Nat.le_refl _) (Nat.le_refl _)
          · refine ⟨9, by decide, (hr 5 (by decide)).trans hrow.2.1, ?_, ?_, ?_, ?_⟩
            · refine ⟨?_, fun _ => ?_⟩
              · rw [hnn 1 (by decide) (by decide) (by decide) (by decide) (by decide), g.1]; rfl
              · rw [hnn 6 (by decide) (by decide) (by decide) (by decide) (by decide)]; exact g.2.2.2.1 6 (by omega)
            · rw [h4k 2 (by decide), n2 2 (by decide) (by decide) (by decide), hB2, hC7]
            · rw [hC7]; exact hc1d
            · unfold SK
              rw [if_neg (by omega), if_pos (Or.inr rfl)]
              refine ⟨sT_same, ?_, ?_, ?_, ?_, ?_, fun _ => ⟨?_, ?_⟩⟩
              · show A4 10 (nc + lc) = _
                rw [h4k 10 (by decide)]; exact n10
              · show A4 11 (nc + lc) = 0
                rw [hnn 11 (by decide) (by decide) (by decide) (by decide) (by decide)]; exact g.2.2.2.1 11 (by omega)
              · refine SL_ag (C := C1) (CL := CL1) (C' := sT C1 nc 8 c2) (CL' := CL1) (SN_le d) (fun x => SN_ag d x) I2 ⟨rfl, fun k _ => h4m _ (by show nc + 1 + lc ≠ _; omega) k, fun p p1 p2 => ⟨sT_ne (by dsimp only at p1; omega), sT_ne (by dsimp only at p1; omega), fun k => sT_ne (by dsimp only at p1; omega)⟩, fun _ _ _ => ⟨rfl, rfl, rfl, rfl⟩, fun m m1 _ k _ _ => h4m m (by have m1 : nc + 1 + (lc + 1) ≤ m := m1; omega) k⟩
              · show A4 14 (nc + lc + 1) = _
                rw [h4k 14 (by decide)]; exact w2.1
              · show A4 15 (nc + lc + 1) = _
                rw [h4k 15 (by decide)]; exact w2.2
              · show A4 3 (nc + lc) = sT C1 nc 8 c2 nc 8
                rw [h43, sT_same]
              · show okd (sT C1 nc 8 c2 nc 8)
                rw [sT_same]; exact hc2d
          · refine ⟨t, ht8, (hr 6 (by decide)).trans hrow.2.2.1, ?_, ⟨(hr 12 (by decide)).trans (hrow.2.2.2 12 (by decide) (by decide)), (hr 13 (by decide)).trans (hrow.2.2.2 13 (by decide) (by decide)), (hr 14 (by decide)).trans (hrow.2.2.2 14 (by decide) (by decide))⟩, ⟨?_, ?_, ?_, ?_⟩, ?_⟩
            · rw [hnn 4 (by decide) (by decide) (by decide) (by decide) (by decide), g.2.1, ht]; rfl
            · rw [hnn 7 (by decide) (by decide) (by decide) (by decide) (by decide)]; exact g.2.2.2.1 7 (by omega)
            · rw [hnn 12 (by decide) (by decide) (by decide) (by decide) (by decide)]; exact g.2.2.2.1 12 (by omega)
            · rw [hnn 13 (by decide) (by decide) (by decide) (by decide) (by decide)]; exact g.2.2.2.1 13 (by omega)
            · rw [hnn 15 (by decide) (by decide) (by decide) (by decide) (by decide)]; exact g.2.2.2.1 15 (by omega)
            · rw [hnn 5 (by decide) (by decide) (by decide) (by decide) (by decide), g.2.2.1]; exact rz_lv hB
        · rw [if_neg hq2]
          rw [if_neg hq2] at esd2
          rw [if_neg (fun z => z.2 (by rw [esd2]; decide))] at r3
          exact CN_bad (((r0.trans r2).trans r3).bad (Bad.wrong rfl))
      · rw [if_neg q]
        exact CN_bad ((r0.trans r2).bad (lend_bad (w := 2) z2 s2 (by rw [Nat.add_sub_cancel]; exact f2.1) (by decide) le2 (Or.inl (by omega)) (fun _ => ⟨by decide, by decide⟩) (fun _ => by decide) (fun _ => by decide) (fun z => absurd z q)))
  · rw [if_neg hq]
    rw [if_neg hq] at esd
    rw [esd] at r0
    exact CN_bad (r0.bad (Bad.wrong (show orw 0 ((-1 : Int32) < 0) = 1 from if_pos (Or.inr (by decide)))))
