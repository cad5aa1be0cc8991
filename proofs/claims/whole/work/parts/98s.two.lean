/-! Pure: a fraction. By hand. -/
theorem df_facts {A : Nat → Nat → Int32} {t n u : Nat} (hu : ixI (A 17 t) = u) (h17 : A 17 t = nI u) : (∀ k, k ≠ 10 → k ≠ 14 → k ≠ 16 → rf_df A t n k = A k) ∧ rf_df A t n 14 n = nI u ∧ (∀ m, m ≠ n → rf_df A t n 14 m = A 14 m) ∧ rf_df A t n 10 u = nI n ∧ (∀ m, m ≠ u → rf_df A t n 10 m = A 10 m) ∧ rf_df A t n 16 t = 5 ∧ ∀ j, j ≠ t → rf_df A t n 16 j = A 16 j := by
  refine ⟨fun k h1 h2 h3 => ?_, ?_, fun m hm => ?_, ?_, fun m hm => ?_, upd_s, fun j hj => upd_n hj⟩
  · unfold rf_df rf_d0 up2
    rw [if_neg h3, if_neg h1, if_neg h2]
  · show upd (A 14) n (A 17 t) n = _
    rw [upd_s, h17]
  · exact upd_n hm
  · show upd (A 10) (ixI (A 17 t)) (nI n) u = _
    rw [hu, upd_s]
  · show upd (A 10) (ixI (A 17 t)) _ m = _
    rw [hu]; exact upd_n hm
theorem d5_facts {A : Nat → Nat → Int32} {t n u : Nat} (hu : ixI (A 17 t) = u) (h17 : A 17 t = nI u) (h5 : A 16 t = 5) : (∀ k, k ≠ 10 → k ≠ 11 → k ≠ 14 → rf_dx A t n k = A k) ∧ rf_dx A t n 14 n = nI u ∧ (∀ m, m ≠ n → rf_dx A t n 14 m = A 14 m) ∧ rf_dx A t n 11 u = nI n ∧ (∀ m, m ≠ u → rf_dx A t n 11 m = A 11 m) ∧ ∀ m, rf_dx A t n 10 m = A 10 m := by
  refine ⟨fun k h1 h2 h3 => ?_, ?_, fun m hm => ?_, ?_, fun m hm => ?_, fun m => ?_⟩
  · unfold rf_dx rf_d0 up2
    rw [if_neg h2, if_neg h1, if_neg h3]
  · show upd (A 14) n (A 17 t) n = _
    rw [upd_s, h17]
  · exact upd_n hm
  · show upd (A 11) (ixI (A 17 t)) (if A 16 t = 5 then nI n else A 11 (ixI (A 17 t))) u = _
    rw [hu, upd_s, if_pos h5]
  · show upd (A 11) (ixI (A 17 t)) _ m = _
    rw [hu]; exact upd_n hm
  · show upd (A 10) (ixI (A 17 t)) (if A 16 t = 4 then nI n else A 10 (ixI (A 17 t))) m = _
    rw [hu]
    by_cases e : m = u
    · rw [e, upd_s, if_neg (fun z => by rw [h5] at z; exact absurd z (by decide))]
    · exact upd_n e
/-- what a head with a frame FIRST makes, for all such heads -/
theorem cmd_go {f : Nat → Int32} {L d nc lc a k a1 t : Nat} {cd wh cl : Int32} {A : Nat → Nat → Int32} {a' O : Nat} (hL9 : L ≤ 160) (hA : A 0 = f) (hI : rz_I L (A, a', 0, nc + lc, nc, O)) (hO : O + (d + 1) = 8) (hn : nc < 60) (hs : sk f L a' = sk f L a) (hL : sk f L a < L) (hst : rz_step L A (sk f L a) 0 (nc + lc) nc O = rz_begin A L (sk f L a) 0 (nc + lc) nc O) (hh : rdHead f L (sk f L a) = some (k, a1, cd, t)) (e2 : rz_hd A L k a1 cd t (nc + lc) nc O = rz_cmd A a1 0 (nc + lc) nc O wh cl) : ∃ A2, Rch L (A, a', 0, nc + lc, nc, O) (A2, a1, 0, nc + 1 + lc, nc + 1, O + 1) ∧ a1 ≤ L ∧ A2 0 = f ∧ A2 16 O = 4 ∧ A2 17 O = nI (nc + lc) ∧ kpt2 A A2 (nc + lc) O ∧ (∀ q, q < 16 → A2 q (nc + lc) = rf_nuc A (nc + lc) O (rz_u A O) wh cl q (nc + lc)) ∧ rz_I L (A2, a1, 0, nc + 1 + lc, nc + 1, O + 1) := by
  have hB := (rz_I_to hI).1
  obtain ⟨e1, -⟩ := begin_hd (N := nc + lc) (U := nc) (O := O) hA hh
  have hW := W_ok hB (by omega) hn
  have g := nuc_new (A := A) (N := nc + lc) (O := O) (u := rz_u A O) (wh := wh) (cl := cl)
  obtain ⟨A2, hA2⟩ : ∃ z, z = rf_push (rz_N A (nc + lc) O wh cl) O 4 (nI (nc + lc)) 0 := ⟨_, rfl⟩
  have r1 : Rch L (A, a', 0, nc + lc, nc, O) (A2, a1, 0, nc + 1 + lc, nc + 1, O + 1) := by
    have r := Rch.step (L := L) (A := A) (a := a') (N := nc + lc) (U := nc) (O := O) (by rw [hA, hs]; exact hL)
    rw [hA, hs, hst, e1, e2] at r
    unfold rz_cmd at r
    rw [hW, show nc + lc + 1 = nc + 1 + lc by omega, ← hA2] at r
    exact r
  have hI2 := r1.I (rz_J_ok hL9) hI
  refine ⟨A2, r1, (rz_I_to hI2).2.2.2, ?_, ?_, ?_, ?_, fun q hq => ?_, hI2⟩
  · rw [hA2, push_k (by decide)]; exact g.2.2.2.2.2.trans hA
  · rw [hA2]; exact push_new.1
  · rw [hA2]; exact push_new.2.1
  · rw [hA2]
    exact (nuc_kpt (A := A) (N := nc + lc) (O := O) (u := rz_u A O) (wh := wh) (cl := cl)).trans push_kpt (Nat.le_refl _) (Nat.le_refl _)
  · rw [hA2, push_k hq]
theorem two_ok {f : Nat → Int32} {L d nc lc a a1 t : Nat} {cd : Int32} {C : Nat → Nat → Int32} {R : Nat → Nat → Option Nat} {CL : Nat → Nat → Int32} {RL : Nat → Nat → Option Nat} {A : Nat → Nat → Int32} {a' O : Nat} (hL9 : L ≤ 160) (hlc : lc ≤ 161) (hla : lc ≤ a + 1) (hA : A 0 = f) (hI : rz_I L (A, a', 0, nc + lc, nc, O)) (hO : O + (d + 1) = 8) (hn : nc < 60) (hs : sk f L a' = sk f L a) (hL : sk f L a < L) (hst : rz_step L A (sk f L a) 0 (nc + lc) nc O = rz_begin A L (sk f L a) 0 (nc + lc) nc O) (hh : rdHead f L (sk f L a) = some (5, a1, cd, t)) (hG : GN f L d) :
    (pParts f L (pN f L d) (pLn f L (pN f L d) (pN f L (d - 1))) 5 nc (nc + 1, lc, a1, sT (nu_c C nc) nc 7 cd, sT (sT (nu_r R nc) nc 5 (some 5)) nc 6 (some t), CL, RL) = none → Bad L (A, a', 0, nc + lc, nc, O)) ∧ ∀ (nc2 lc2 a2 : Nat) (C2 : Nat → Nat → Int32) (R2 : Nat → Nat → Option Nat) (CL2 : Nat → Nat → Int32) (RL2 : Nat → Nat → Option Nat), pParts f L (pN f L d) (pLn f L (pN f L d) (pN f L (d - 1))) 5 nc (nc + 1, lc, a1, sT (nu_c C nc) nc 7 cd, sT (sT (nu_r R nc) nc 5 (some 5)) nc 6 (some t), CL, RL) = some (nc2, lc2, a2, C2, R2, CL2, RL2) → ∃ (A4 : Nat → Nat → Int32) (a3 : Nat), Rch L (A, a', 0, nc + lc, nc, O) ((rf_del O A4 (nc + lc)).1, a3, 0, nc2 + lc2, nc2, (rf_del O A4 (nc + lc)).2) ∧ sk f L a3 = sk f L a2 ∧ kpt2 A A4 (nc + lc) O ∧ SN C2 R2 CL2 RL2 A4 (d + 1) nc lc nc2 lc2 ∧ rtO R2 A4 nc (nc + lc) O := by
  have hB := (rz_I_to hI).1
  have hO1 : 1 ≤ O := hB.1
  have hrow := row_new (C := C) (R := R) (nc := nc) (k := 5) (t := t) (cd := cd)
  have hcd : cd = 0 ∧ t = 7 := by
    rcases hd_val hh with ⟨h1, -⟩ | ⟨h1, -⟩ | ⟨h1, h2, h3⟩
    · omega
    · omega
    · exact ⟨h2, h3⟩
  have g := nuc_new (A := A) (N := nc + lc) (O := O) (u := rz_u A O) (wh := 4) (cl := 7)
  obtain ⟨A2, r1, ha1, h20, h216, h217, hkp2, hnode, hI2⟩ := cmd_go (wh := 4) (cl := 7) hL9 hA hI hO hn hs hL hst hh rfl
  obtain ⟨G1, G2⟩ := hG (nc + 1) lc a1 (sT (nu_c C nc) nc 7 cd) (sT (sT (nu_r R nc) nc 5 (some 5)) nc 6 (some t)) CL RL A2 a1 (O + 1) h20 hI2 (by omega) (by omega) ha1 (by have q1 := (rdHead_ok hh).1; have q2 := sk_g f L a; omega) rfl (Or.inl (by rw [Nat.add_sub_cancel, h216]; decide))
  have ePn : ∀ S : RT, pParts f L (pN f L d) (pLn f L (pN f L d) (pN f L (d - 1))) 5 nc S = (pN f L d S).bind fun (nc1, lc1, a1, C1, R1, CL1, RL1) => (pN f L d (nc1, lc1, a1, C1, sT R1 nc 9 (some S.1), CL1, RL1)).bind fun (nc2, lc2, a2, C2, R2, CL2, RL2) => some (nc2, lc2, a2, C2, sT R2 nc 10 (some nc1), CL2, RL2) := fun S => rfl
  rw [ePn]
  rcases e : pN f L d (nc + 1, lc, a1, sT (nu_c C nc) nc 7 cd, sT (sT (nu_r R nc) nc 5 (some 5)) nc 6 (some t), CL, RL) with _ | ⟨nc1, lc1, b1, C1, R1, CL1, RL1⟩
  · exact ⟨fun _ => r1.bad (G1 e), fun _ _ _ _ _ _ _ z => by cases z⟩
  · obtain ⟨A3, a3, r2, s2, k2, n2, rt2⟩ := G2 nc1 lc1 b1 C1 R1 CL1 RL1 e
    have hle := SN_le _ _ _ _ _ n2
    have hkeep := (pN_gK f L d).1 _ _ (show nc + 1 ≤ 60 by omega) (show lc ≤ 161 from hlc) (show a1 ≤ L from ha1) e
    have hrK : ∀ q c, q < nc + 1 → C1 q c = sT (nu_c C nc) nc 7 cd q c ∧ R1 q c = sT (sT (nu_r R nc) nc 5 (some 5)) nc 6 (some t) q c := fun q c hq => hkeep.2.2.2.2.2.1 q c hq (fun z => z)
    have hb1 : b1 ≤ L := hkeep.2.2.2.2.1
    have hnc1 : nc1 ≤ 60 := hkeep.2.1
    have hlc1 : lc1 ≤ 161 := hkeep.2.2.2.1
    have h316 : A3 16 O = 4 := (k2.2.2 16 (by decide) (by decide) O (by omega)).trans h216
    have h317 : A3 17 O = nI (nc + lc) := (k2.2.2 17 (by decide) (by decide) O (by omega)).trans h217
    have hix : ixI (A3 17 O) = nc + lc := by rw [h317]; exact nI_clamp (by omega)
    have hn3 : ∀ q, 1 ≤ q → q ≤ 15 → A3 q (nc + lc) = rf_nuc A (nc + lc) O (rz_u A O) 4 7 q (nc + lc) := fun q h1 h2 => (k2.2.1 q h1 h2 (nc + lc) (by omega)).trans (hnode q (by omega))
    have h31 : A3 1 (ixI (A3 17 O)) = 4 := by rw [hix, hn3 1 (by decide) (by decide), g.1]
    have hF := df_facts (n := nc + 1 + lc) hix h317
    rw [del_frac (n := nc + 1 + lc) h316 h31] at r2
    obtain ⟨A4, hA4⟩ : ∃ z, z = rf_df A3 O (nc + 1 + lc) := ⟨_, rfl⟩
    rw [← hA4] at hF
    have r3 : Rch L (A, a', 0, nc + lc, nc, O) (A4, a3, 0, nc1 + lc1, nc1, O + 1) := by rw [hA4]; exact r1.trans r2
    have hI4 := r3.I (rz_J_ok hL9) hI
    obtain ⟨G3, G4⟩ := hG nc1 lc1 b1 C1 (sT R1 nc 9 (some (nc + 1))) CL1 RL1 A4 a3 (O + 1) ((hF.1 0 (by decide) (by decide) (by decide)).trans (k2.1.trans h20)) hI4 (by omega) hnc1 hb1 (by have q0 := pN_gA f L d _ _ e; have q1 := (rdHead_ok hh).1; have q2 := sk_g f L a; dsimp only at q0; omega) s2 (Or.inl (by rw [Nat.add_sub_cancel, hF.2.2.2.2.2.1]; decide))
    show (((pN f L d (nc1, lc1, b1, C1, sT R1 nc 9 (some (nc + 1)), CL1, RL1)).bind fun (nc2, lc2, a2, C2, R2, CL2, RL2) => some (nc2, lc2, a2, C2, sT R2 nc 10 (some nc1), CL2, RL2)) = none → _) ∧ ∀ (nc2 lc2 a2 : Nat) (C2 : Nat → Nat → Int32) (R2 : Nat → Nat → Option Nat) (CL2 : Nat → Nat → Int32) (RL2 : Nat → Nat → Option Nat), ((pN f L d (nc1, lc1, b1, C1, sT R1 nc 9 (some (nc + 1)), CL1, RL1)).bind fun (nc2, lc2, a2, C2, R2, CL2, RL2) => some (nc2, lc2, a2, C2, sT R2 nc 10 (some nc1), CL2, RL2)) = some (nc2, lc2, a2, C2, R2, CL2, RL2) → _
    rcases e5 : pN f L d (nc1, lc1, b1, C1, sT R1 nc 9 (some (nc + 1)), CL1, RL1) with _ | ⟨nc2, lc2, b2, C2, R2, CL2, RL2⟩
    · exact ⟨fun _ => r3.bad (G3 e5), fun _ _ _ _ _ _ _ z => by cases z⟩
    · refine ⟨(fun z => by cases z), fun nc3 lc3 a9 C3 R3 CL3 RL3 z => ?_⟩
      cases z
      obtain ⟨A5, a5, r4, s4, k4, n4, rt4⟩ := G4 nc2 lc2 b2 C2 R2 CL2 RL2 e5
      have hle2 := SN_le _ _ _ _ _ n4
      have hkeep2 := (pN_gK f L d).1 _ _ (show nc1 ≤ 60 from hnc1) (show lc1 ≤ 161 from hlc1) (show b1 ≤ L from hb1) e5
      have hrK2 : ∀ q c, q < nc1 → C2 q c = C1 q c ∧ R2 q c = sT R1 nc 9 (some (nc + 1)) q c := fun q c hq => hkeep2.2.2.2.2.2.1 q c hq (fun z => z)
      have hlK2 : ∀ j c, j < lc1 → CL2 j c = CL1 j c ∧ RL2 j c = RL1 j c := fun j c hj => hkeep2.2.2.2.2.2.2 j c hj
      have h516 : A5 16 O = 5 := (k4.2.2 16 (by decide) (by decide) O (by omega)).trans hF.2.2.2.2.2.1
      have h517 : A5 17 O = nI (nc + lc) := (k4.2.2 17 (by decide) (by decide) O (by omega)).trans (by rw [hF.1 17 (by decide) (by decide) (by decide)]; exact h317)
      have hix5 : ixI (A5 17 O) = nc + lc := by rw [h517]; exact nI_clamp (by omega)
      have hD := d5_facts (n := nc1 + lc1) hix5 h517 h516
      have hOld : ∀ m, m ≠ nc + lc → m ≠ nc1 + lc1 → ∀ q, rf_dx A5 O (nc1 + lc1) q m = A5 q m := fun m h1 h2 q => by
        by_cases c11 : q = 11
        · rw [c11]; exact hD.2.2.2.2.1 m h1
        · by_cases c10 : q = 10
          · rw [c10]; exact hD.2.2.2.2.2 m
          · by_cases c14 : q = 14
            · rw [c14]; exact hD.2.2.1 m h2
            · rw [hD.1 q c10 c11 c14]
      have hO43 : ∀ m, m ≠ nc + lc → m ≠ nc + 1 + lc → ∀ q, q ≤ 15 → A4 q m = A3 q m := fun m h1 h2 q hq => by
        by_cases c10 : q = 10
        · rw [c10]; exact hF.2.2.2.2.1 m h1
        · by_cases c14 : q = 14
          · rw [c14]; exact hF.2.2.1 m h2
          · rw [hF.1 q c10 c14 (by omega)]
      have h54 : ∀ m, m < nc1 + lc1 → ∀ q, 1 ≤ q → q ≤ 15 → A5 q m = A4 q m := fun m hm q h1 h2 => k4.2.1 q h1 h2 m hm
      have h6N : ∀ q, 1 ≤ q → q ≤ 15 → q ≠ 10 → q ≠ 11 → q ≠ 14 → rf_dx A5 O (nc1 + lc1) q (nc + lc) = rf_nuc A (nc + lc) O (rz_u A O) 4 7 q (nc + lc) := fun q h1 h2 c10 c11 c14 => by
        rw [hD.1 q c10 c11 c14, h54 (nc + lc) (by omega) q h1 h2, hF.1 q c10 c14 (by omega), hn3 q h1 h2]
      refine ⟨rf_dx A5 O (nc1 + lc1), a5, ?_, s4, ?_, ?_, ?_⟩
      · have e3 := del_up (n := nc1 + lc1) (Or.inr h516)
        rw [hix5] at e3
        rw [e3] at r4
        exact r3.trans r4
      · have q1 : kpt2 A3 A4 (nc + lc) O := ⟨hF.1 0 (by decide) (by decide) (by decide), fun q h1 h2 m hm => hO43 m (by omega) (by omega) q h2, fun q h1 h2 j hj => by
          by_cases c16 : q = 16
          · rw [c16]; exact hF.2.2.2.2.2.2 j (by omega)
          · rw [hF.1 q (by omega) (by omega) c16]⟩
        refine ((((hkp2.trans k2 (by omega) (by omega)).trans q1 (Nat.le_refl _) (Nat.le_refl _)).trans k4 (by omega) (by omega))).trans (N2 := nc + lc) (O2 := O) ⟨hD.1 0 (by decide) (by decide) (by decide), fun q h1 h2 m hm => hOld m (by omega) (by omega) q, fun q h1 h2 j hj => ?_⟩ (Nat.le_refl _) (Nat.le_refl _)
        rw [hD.1 q (by omega) (by omega) (by omega)]
      · refine ⟨5, by decide, ?_, ?_, ?_, ?_, ?_⟩
        · rw [sT_ne (by omega), (hrK2 nc 5 (by omega)).2, sT_ne (by omega), (hrK nc 5 (by omega)).2]; exact hrow.2.1
        · refine ⟨?_, fun _ => ?_⟩
          · rw [h6N 1 (by decide) (by decide) (by decide) (by decide) (by decide), g.1]; rfl
          · rw [h6N 6 (by decide) (by decide) (by decide) (by decide) (by decide)]; exact g.2.2.2.1 6 (by omega)
        · rw [h6N 2 (by decide) (by decide) (by decide) (by decide) (by decide), g.2.2.2.1 2 (by omega), (hrK2 nc 7 (by omega)).1, (hrK nc 7 (by omega)).1, hrow.1, hcd.1]
        · rw [(hrK2 nc 7 (by omega)).1, (hrK nc 7 (by omega)).1, hrow.1, hcd.1]; exact ⟨rfl, by decide⟩
        · unfold SK
          rw [if_neg (by omega), if_neg (by omega), if_pos rfl]
          refine ⟨nc1, lc1, ?_, sT_same, ?_, ?_, ⟨?_, ?_, ?_, ?_, ?_⟩, ⟨?_, ?_, ?_, ?_, ?_⟩⟩
          · show sT R2 nc 10 (some nc1) nc 9 = some (nc + 1)
            rw [sT_ne (by omega), (hrK2 nc 9 (by omega)).2]; exact sT_same
          · show rf_dx A5 O (nc1 + lc1) 10 (nc + lc) = nI (nc + lc + 1)
            rw [hD.2.2.2.2.2, h54 (nc + lc) (by omega) 10 (by decide) (by decide), hF.2.2.2.1, show nc + 1 + lc = nc + lc + 1 by omega]
          · exact hD.2.2.2.1
          · refine SN_ag (C := C1) (R := R1) (CL := CL1) (RL := RL1) (A := A3) d (nc + 1, lc, nc1, lc1) n2 ⟨⟨(hrK2 _ 7 hle.1).1, (hrK2 _ 8 hle.1).1, fun q _ => ?_⟩, fun q hq => ?_, fun q h1 h2 => ⟨(hrK2 q 7 h2).1, (hrK2 q 8 h2).1, fun c => ?_⟩, fun j h1 h2 => ⟨(hlK2 j 6 h2).1, (hlK2 j 7 h2).1, (hlK2 j 5 h2).2, (hlK2 j 8 h2).2⟩, fun m h1 h2 q k1 k2 => ?_⟩
            · exact (sT_ne (by dsimp only; omega)).trans ((hrK2 _ q hle.1).2.trans (sT_ne (by omega)))
            · show rf_dx A5 O (nc1 + lc1) q (nc + 1 + lc) = A3 q (nc + 1 + lc)
              rw [hOld _ (by omega) (by omega), h54 _ (by omega) q (by omega) (by omega)]
              by_cases c10 : q = 10
              · rw [c10]; exact hF.2.2.2.2.1 _ (by omega)
              · rw [hF.1 q c10 (by omega) (by omega)]
            · have h1 : nc + 1 + 1 ≤ q := h1
              exact (sT_ne (by omega)).trans ((hrK2 q c h2).2.trans (sT_ne (by omega)))
            · have h1 : nc + 1 + 1 + lc ≤ m := h1
              have h2 : m < nc1 + lc1 := h2
              rw [hOld m (by omega) (by omega), h54 m h2 q k1 k2, hO43 m (by omega) (by omega) q k2]
          · obtain ⟨t2, -, -, -, q1, -, -⟩ := rt2
            exact ⟨(sT_ne (by dsimp only; omega)).trans ((hrK2 _ 12 hle.1).2.trans ((sT_ne (by omega)).trans q1.1)), (sT_ne (by dsimp only; omega)).trans ((hrK2 _ 13 hle.1).2.trans ((sT_ne (by omega)).trans q1.2.1))⟩
          · obtain ⟨t2, -, -, -, -, q2, -⟩ := rt2
            exact ⟨by show rf_dx A5 O (nc1 + lc1) 12 (nc + 1 + lc) = 0; rw [hOld _ (by omega) (by omega), h54 _ (by omega) 12 (by decide) (by decide), hF.1 12 (by decide) (by decide) (by decide)]; exact q2.2.1, by show rf_dx A5 O (nc1 + lc1) 13 (nc + 1 + lc) = 0; rw [hOld _ (by omega) (by omega), h54 _ (by omega) 13 (by decide) (by decide), hF.1 13 (by decide) (by decide) (by decide)]; exact q2.2.2.1⟩
          · show rf_dx A5 O (nc1 + lc1) 14 (nc + 1 + lc) = nI (nc + lc)
            rw [hOld _ (by omega) (by omega), h54 _ (by omega) 14 (by decide) (by decide)]; exact hF.2.1
          · obtain ⟨t2, -, -, -, -, q2, -⟩ := rt2
            show rf_dx A5 O (nc1 + lc1) 15 (nc + 1 + lc) = 0
            rw [hOld _ (by omega) (by omega), h54 _ (by omega) 15 (by decide) (by decide), hF.1 15 (by decide) (by decide) (by decide)]; exact q2.2.2.2
          · refine SN_ag (C := C2) (R := R2) (CL := CL2) (RL := RL2) (A := A5) d (nc1, lc1, nc2, lc2) n4 ⟨⟨rfl, rfl, fun q _ => sT_ne (by dsimp only; omega)⟩, fun q hq => ?_, fun q h1 h2 => ⟨rfl, rfl, fun c => sT_ne (by dsimp only at h1; omega)⟩, fun j h1 h2 => ⟨rfl, rfl, rfl, rfl⟩, fun m h1 h2 q k1 k2 => ?_⟩
            · show rf_dx A5 O (nc1 + lc1) q (nc1 + lc1) = A5 q (nc1 + lc1)
              by_cases c11 : q = 11
              · rw [c11]; exact hD.2.2.2.2.1 _ (by omega)
              · by_cases c10 : q = 10
                · rw [c10]; exact hD.2.2.2.2.2 _
                · rw [hD.1 q c10 c11 (by omega)]
            · have h1 : nc1 + 1 + lc1 ≤ m := h1
              exact hOld m (by omega) (by omega) q
          · obtain ⟨t2, -, -, -, q1, -, -⟩ := rt4
            exact ⟨(sT_ne (by dsimp only; omega)).trans q1.1, (sT_ne (by dsimp only; omega)).trans q1.2.1⟩
          · obtain ⟨t2, -, -, -, -, q2, -⟩ := rt4
            exact ⟨by show rf_dx A5 O (nc1 + lc1) 12 (nc1 + lc1) = 0; rw [hD.1 12 (by decide) (by decide) (by decide)]; exact q2.2.1, by show rf_dx A5 O (nc1 + lc1) 13 (nc1 + lc1) = 0; rw [hD.1 13 (by decide) (by decide) (by decide)]; exact q2.2.2.1⟩
          · exact hD.2.1
          · obtain ⟨t2, -, -, -, -, q2, -⟩ := rt4
            show rf_dx A5 O (nc1 + lc1) 15 (nc1 + lc1) = 0
            rw [hD.1 15 (by decide) (by decide) (by decide)]; exact q2.2.2.2
      · have hz : ∀ q, q = 7 ∨ q = 12 ∨ q = 13 ∨ q = 15 → rf_dx A5 O (nc1 + lc1) q (nc + lc) = 0 := fun q hq => by
          rw [h6N q (by omega) (by omega) (by omega) (by omega) (by omega)]; exact g.2.2.2.1 q (by omega)
        have hr : ∀ c, c ≠ 9 → c ≠ 10 → sT R2 nc 10 (some nc1) nc c = sT (sT (nu_r R nc) nc 5 (some 5)) nc 6 (some t) nc c := fun c hc hc2 => (sT_ne (fun z => hc2 z.2)).trans ((hrK2 nc c (by omega)).2.trans ((sT_ne (fun z => hc z.2)).trans (hrK nc c (by omega)).2))
        refine ⟨t, by rw [hcd.2]; decide, (hr 6 (by decide) (by decide)).trans hrow.2.2.1, ?_, ⟨(hr 12 (by decide) (by decide)).trans (hrow.2.2.2 12 (by decide) (by decide)), (hr 13 (by decide) (by decide)).trans (hrow.2.2.2 13 (by decide) (by decide)), (hr 14 (by decide) (by decide)).trans (hrow.2.2.2 14 (by decide) (by decide))⟩, ⟨hz 7 (by omega), hz 12 (by omega), hz 13 (by omega), hz 15 (by omega)⟩, ?_⟩
        · rw [h6N 4 (by decide) (by decide) (by decide) (by decide) (by decide), g.2.1, hcd.2]; rfl
        · rw [h6N 5 (by decide) (by decide) (by decide) (by decide) (by decide), g.2.2.1]; exact rz_lv hB
