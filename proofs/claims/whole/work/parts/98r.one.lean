/-! Pure: a nucleus with one part. By hand. -/
theorem dx_facts {A : Nat → Nat → Int32} {t n u : Nat} (hu : ixI (A 17 t) = u) (h17 : A 17 t = nI u) (hn : u ≠ n) (h4 : A 16 t = 4) : (∀ k, k ≠ 10 → k ≠ 11 → k ≠ 14 → rf_dx A t n k = A k) ∧ rf_dx A t n 14 n = nI u ∧ (∀ m, m ≠ n → rf_dx A t n 14 m = A 14 m) ∧ rf_dx A t n 10 u = nI n ∧ (∀ m, m ≠ u → rf_dx A t n 10 m = A 10 m) ∧ ∀ m, rf_dx A t n 11 m = A 11 m := by
  refine ⟨fun k h1 h2 h3 => ?_, ?_, fun m hm => ?_, ?_, fun m hm => ?_, fun m => ?_⟩
  · unfold rf_dx rf_d0 up2
    rw [if_neg h2, if_neg h1, if_neg h3]
  · show upd (A 14) n (A 17 t) n = _
    rw [upd_s, h17]
  · exact upd_n hm
  · show upd (A 10) (ixI (A 17 t)) (if A 16 t = 4 then nI n else A 10 (ixI (A 17 t))) u = _
    rw [hu, upd_s, if_pos h4]
  · show upd (A 10) (ixI (A 17 t)) _ m = _
    rw [hu]; exact upd_n hm
  · show upd (A 11) (ixI (A 17 t)) (if A 16 t = 5 then nI n else A 11 (ixI (A 17 t))) m = _
    rw [hu]
    by_cases e : m = u
    · rw [e, upd_s, if_neg (fun z => by rw [h4] at z; exact absurd z (by decide))]
    · exact upd_n e
theorem one_ok {f : Nat → Int32} {L d nc lc a k a1 t : Nat} {cd : Int32} {C : Nat → Nat → Int32} {R : Nat → Nat → Option Nat} {CL : Nat → Nat → Int32} {RL : Nat → Nat → Option Nat} {A : Nat → Nat → Int32} {a' O : Nat} (hL9 : L ≤ 160) (hlc : lc ≤ 161) (hla : lc ≤ a + 1) (hf : ∀ j, okd (f j)) (hA : A 0 = f) (hI : rz_I L (A, a', 0, nc + lc, nc, O)) (hO : O + (d + 1) = 8) (hn : nc < 60) (hs : sk f L a' = sk f L a) (hL : sk f L a < L) (hst : rz_step L A (sk f L a) 0 (nc + lc) nc O = rz_begin A L (sk f L a) 0 (nc + lc) nc O) (hh : rdHead f L (sk f L a) = some (k, a1, cd, t)) (hk : 6 ≤ k ∧ k ≤ 8) (hG : GN f L d) :
    (pN f L d (nc + 1, lc, a1, sT (nu_c C nc) nc 7 cd, sT (sT (nu_r R nc) nc 5 (some k)) nc 6 (some t), CL, RL) = none → Bad L (A, a', 0, nc + lc, nc, O)) ∧ ∀ (nc1 lc1 a2 : Nat) (C1 : Nat → Nat → Int32) (R1 : Nat → Nat → Option Nat) (CL1 : Nat → Nat → Int32) (RL1 : Nat → Nat → Option Nat), pN f L d (nc + 1, lc, a1, sT (nu_c C nc) nc 7 cd, sT (sT (nu_r R nc) nc 5 (some k)) nc 6 (some t), CL, RL) = some (nc1, lc1, a2, C1, R1, CL1, RL1) → ∃ (A4 : Nat → Nat → Int32) (a3 : Nat), Rch L (A, a', 0, nc + lc, nc, O) ((rf_del O A4 (nc + lc)).1, a3, 0, nc1 + lc1, nc1, (rf_del O A4 (nc + lc)).2) ∧ sk f L a3 = sk f L a2 ∧ kpt2 A A4 (nc + lc) O ∧ SN C1 (sT R1 nc 9 (some (nc + 1))) CL1 RL1 A4 (d + 1) nc lc nc1 lc1 ∧ rtO (sT R1 nc 9 (some (nc + 1))) A4 nc (nc + lc) O := by
  have hB := (rz_I_to hI).1
  have hrow := row_new (C := C) (R := R) (nc := nc) (k := k) (t := t) (cd := cd)
  obtain ⟨e1, hk11, ht8, -⟩ := begin_hd (N := nc + lc) (U := nc) (O := O) hA hh
  have hW := W_ok hB (by omega) hn
  have hO1 : 1 ≤ O := hB.1
  have hcd : cd = kO k ∧ t = 0 := by
    rcases hd_val hh with ⟨h1, -⟩ | ⟨h1, -⟩ | ⟨h1, h2, h3⟩
    · omega
    · omega
    · refine ⟨h2, ?_⟩
      rcases (by omega : k = 6 ∨ k = 7 ∨ k = 8) with rfl | rfl | rfl <;> exact h3
  obtain ⟨wh, hwh⟩ : ∃ z : Int32, z = kR k := ⟨_, rfl⟩
  have hw4 : ¬ wh = 4 := by
    rw [hwh]
    rcases (by omega : k = 6 ∨ k = 7 ∨ k = 8) with rfl | rfl | rfl <;> decide
  have g := nuc_new (A := A) (N := nc + lc) (O := O) (u := rz_u A O) (wh := wh) (cl := 0)
  obtain ⟨A2, hA2⟩ : ∃ z, z = rf_push (rz_N A (nc + lc) O wh 0) O 4 (nI (nc + lc)) 0 := ⟨_, rfl⟩
  have r1 : Rch L (A, a', 0, nc + lc, nc, O) (A2, a1, 0, nc + 1 + lc, nc + 1, O + 1) := by
    have r := Rch.step (L := L) (A := A) (a := a') (N := nc + lc) (U := nc) (O := O) (by rw [hA, hs]; exact hL)
    have e2 : rz_hd A L k a1 cd t (nc + lc) nc O = rz_cmd A a1 0 (nc + lc) nc O wh 0 := by
      rw [hwh]
      rcases (by omega : k = 6 ∨ k = 7 ∨ k = 8) with rfl | rfl | rfl <;> rfl
    rw [hA, hs, hst, e1, e2] at r
    unfold rz_cmd at r
    rw [hW, show nc + lc + 1 = nc + 1 + lc by omega, ← hA2] at r
    exact r
  have hI2 := r1.I (rz_J_ok hL9) hI
  have ha1 : a1 ≤ L := (rz_I_to hI2).2.2.2
  have h20 : A2 0 = f := by rw [hA2, push_k (by decide)]; exact g.2.2.2.2.2.trans hA
  have h216 : A2 16 O = 4 := by rw [hA2]; exact push_new.1
  have h217 : A2 17 O = nI (nc + lc) := by rw [hA2]; exact push_new.2.1
  have hkp2 : kpt2 A A2 (nc + lc) O := by
    rw [hA2]
    exact (nuc_kpt (A := A) (N := nc + lc) (O := O) (u := rz_u A O) (wh := wh) (cl := 0)).trans push_kpt (Nat.le_refl _) (Nat.le_refl _)
  have hnode : ∀ q, q < 16 → A2 q (nc + lc) = rf_nuc A (nc + lc) O (rz_u A O) wh 0 q (nc + lc) := fun q hq => by rw [hA2, push_k hq]
  obtain ⟨G1, G2⟩ := hG (nc + 1) lc a1 (sT (nu_c C nc) nc 7 cd) (sT (sT (nu_r R nc) nc 5 (some k)) nc 6 (some t)) CL RL A2 a1 (O + 1) h20 hI2 (by omega) (by omega) ha1 (by have q1 := (rdHead_ok hh).1; have q2 := sk_g f L a; omega) rfl (Or.inl (by rw [Nat.add_sub_cancel, h216]; decide))
  refine ⟨fun e => r1.bad (G1 e), fun nc1 lc1 a2 C1 R1 CL1 RL1 e => ?_⟩
  obtain ⟨A3, a3, r2, s2, k2, n2, rt2⟩ := G2 nc1 lc1 a2 C1 R1 CL1 RL1 e
  have hle := SN_le _ _ _ _ _ n2
  have hkeep := (pN_gK f L d).1 _ _ (show nc + 1 ≤ 60 by omega) (show lc ≤ 161 from hlc) (show a1 ≤ L from ha1) e
  have hrK : ∀ q c, q < nc + 1 → C1 q c = sT (nu_c C nc) nc 7 cd q c ∧ R1 q c = sT (sT (nu_r R nc) nc 5 (some k)) nc 6 (some t) q c := fun q c hq => hkeep.2.2.2.2.2.1 q c hq (fun z => z)
  have h316 : A3 16 O = 4 := (k2.2.2 16 (by decide) (by decide) O (by omega)).trans h216
  have h317 : A3 17 O = nI (nc + lc) := (k2.2.2 17 (by decide) (by decide) O (by omega)).trans h217
  have hix : ixI (A3 17 O) = nc + lc := by rw [h317]; exact nI_clamp (by omega)
  have hn3 : ∀ q, 1 ≤ q → q ≤ 15 → A3 q (nc + lc) = rf_nuc A (nc + lc) O (rz_u A O) wh 0 q (nc + lc) := fun q h1 h2 => (k2.2.1 q h1 h2 (nc + lc) (by omega)).trans (hnode q (by omega))
  have h31 : ¬ A3 1 (ixI (A3 17 O)) = 4 := by rw [hix, hn3 1 (by decide) (by decide), g.1]; exact hw4
  have hD := dx_facts (n := nc + 1 + lc) hix h317 (by omega) h316
  have hOld : ∀ m, m ≠ nc + lc → m ≠ nc + 1 + lc → ∀ q, rf_dx A3 O (nc + 1 + lc) q m = A3 q m := fun m h1 h2 q => by
    by_cases c10 : q = 10
    · rw [c10]; exact hD.2.2.2.2.1 m h1
    · by_cases c11 : q = 11
      · rw [c11]; exact hD.2.2.2.2.2 m
      · by_cases c14 : q = 14
        · rw [c14]; exact hD.2.2.1 m h2
        · rw [hD.1 q c10 c11 c14]
  refine ⟨rf_dx A3 O (nc + 1 + lc), a3, ?_, s2, ?_, ?_, ?_⟩
  · have e3 := del_up (n := nc + 1 + lc) (Or.inl ⟨h316, h31⟩)
    rw [hix] at e3
    rw [e3] at r2
    exact r1.trans r2
  · refine (hkp2.trans k2 (by omega) (by omega)).trans (N2 := nc + lc) (O2 := O) ⟨hD.1 0 (by decide) (by decide) (by decide), fun q h1 h2 m hm => hOld m (by omega) (by omega) q, fun q h1 h2 j hj => ?_⟩ (Nat.le_refl _) (Nat.le_refl _)
    rw [hD.1 q (by omega) (by omega) (by omega)]
  · refine ⟨k, hk11, ?_, ?_, ?_, ?_, ?_⟩
    · rw [sT_ne (by omega), (hrK nc 5 (by omega)).2]; exact hrow.2.1
    · refine ⟨?_, fun _ => ?_⟩
      · rw [hD.1 1 (by decide) (by decide) (by decide), hn3 1 (by decide) (by decide), g.1, hwh]
      · rw [hD.1 6 (by decide) (by decide) (by decide), hn3 6 (by decide) (by decide)]; exact g.2.2.2.1 6 (by omega)
    · rw [hD.1 2 (by decide) (by decide) (by decide), hn3 2 (by decide) (by decide), g.2.2.2.1 2 (by omega), (hrK nc 7 (by omega)).1, hrow.1, hcd.1]
      rcases (by omega : k = 6 ∨ k = 7 ∨ k = 8) with rfl | rfl | rfl <;> rfl
    · rw [(hrK nc 7 (by omega)).1, hrow.1, hcd.1]; exact kO_d k hk11
    · unfold SK
      rw [if_neg (by omega), if_neg (by omega), if_neg (by omega), if_pos (by omega)]
      refine ⟨sT_same, ?_, ?_, ?_, ?_, ?_, ?_, ?_⟩
      · show rf_dx A3 O (nc + 1 + lc) 10 (nc + lc) = nI (nc + lc + 1)
        rw [hD.2.2.2.1, show nc + 1 + lc = nc + lc + 1 by omega]
      · show rf_dx A3 O (nc + 1 + lc) 11 (nc + lc) = 0
        rw [hD.2.2.2.2.2, hn3 11 (by decide) (by decide)]; exact g.2.2.2.1 11 (by omega)
      · refine SN_ag (C := C1) (R := R1) (CL := CL1) (RL := RL1) (A := A3) d (nc + 1, lc, nc1, lc1) n2 ⟨⟨rfl, rfl, fun q _ => sT_ne (by dsimp only; omega)⟩, fun q hq => ?_, fun q h1 h2 => ⟨rfl, rfl, fun c => sT_ne (by dsimp only at h1; omega)⟩, fun j h1 h2 => ⟨rfl, rfl, rfl, rfl⟩, fun m h1 h2 q k1 k2 => ?_⟩
        · show rf_dx A3 O (nc + 1 + lc) q (nc + 1 + lc) = A3 q (nc + 1 + lc)
          by_cases c10 : q = 10
          · rw [c10]; exact hD.2.2.2.2.1 _ (by omega)
          · by_cases c11 : q = 11
            · rw [c11]; exact hD.2.2.2.2.2 _
            · rw [hD.1 q c10 c11 (by omega)]
        · have h1 : nc + 1 + 1 + lc ≤ m := h1
          exact hOld m (by omega) (by omega) q
      · obtain ⟨t2, -, -, -, q1, -, -⟩ := rt2
        exact ⟨(sT_ne (by dsimp only; omega)).trans q1.1, (sT_ne (by dsimp only; omega)).trans q1.2.1⟩
      · obtain ⟨t2, -, -, -, -, q2, -⟩ := rt2
        exact ⟨by show rf_dx A3 O (nc + 1 + lc) 12 (nc + 1 + lc) = 0; rw [hD.1 12 (by decide) (by decide) (by decide)]; exact q2.2.1, by show rf_dx A3 O (nc + 1 + lc) 13 (nc + 1 + lc) = 0; rw [hD.1 13 (by decide) (by decide) (by decide)]; exact q2.2.2.1⟩
      · exact hD.2.1
      · obtain ⟨t2, -, -, -, -, q2, -⟩ := rt2
        show rf_dx A3 O (nc + 1 + lc) 15 (nc + 1 + lc) = 0
        rw [hD.1 15 (by decide) (by decide) (by decide)]; exact q2.2.2.2
  · have hz : ∀ q, q = 7 ∨ q = 12 ∨ q = 13 ∨ q = 15 → rf_dx A3 O (nc + 1 + lc) q (nc + lc) = 0 := fun q hq => by
      rw [hD.1 q (by omega) (by omega) (by omega), hn3 q (by omega) (by omega)]; exact g.2.2.2.1 q (by omega)
    have hr : ∀ c, c ≠ 9 → sT R1 nc 9 (some (nc + 1)) nc c = sT (sT (nu_r R nc) nc 5 (some k)) nc 6 (some t) nc c := fun c hc => (sT_ne (fun z => hc z.2)).trans (hrK nc c (by omega)).2
    refine ⟨t, ht8, (hr 6 (by decide)).trans hrow.2.2.1, ?_, ⟨(hr 12 (by decide)).trans (hrow.2.2.2 12 (by decide) (by decide)), (hr 13 (by decide)).trans (hrow.2.2.2 13 (by decide) (by decide)), (hr 14 (by decide)).trans (hrow.2.2.2 14 (by decide) (by decide))⟩, ⟨hz 7 (by omega), hz 12 (by omega), hz 13 (by omega), hz 15 (by omega)⟩, ?_⟩
    · rw [hD.1 4 (by decide) (by decide) (by decide), hn3 4 (by decide) (by decide), g.2.1, hcd.2]; rfl
    · rw [hD.1 5 (by decide) (by decide) (by decide), hn3 5 (by decide) (by decide), g.2.2.1]; exact rz_lv hB
