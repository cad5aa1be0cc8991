/-! Pure: reading comes out alike. By hand. -/
theorem mat_ok {f : Nat → Int32} {L d nc lc a a1 t : Nat} {cd : Int32} {C : Nat → Nat → Int32} {R : Nat → Nat → Option Nat} {CL : Nat → Nat → Int32} {RL : Nat → Nat → Option Nat} {A : Nat → Nat → Int32} {a' O : Nat} (hL9 : L ≤ 160) (hlc : lc ≤ 161) (hla : lc ≤ a + 1) (hA : A 0 = f) (hI : rz_I L (A, a', 0, nc + lc, nc, O)) (hO : O + (d + 1) = 8) (hn : nc < 60) (hs : sk f L a' = sk f L a) (hL : sk f L a < L) (hst : rz_step L A (sk f L a) 0 (nc + lc) nc O = rz_begin A L (sk f L a) 0 (nc + lc) nc O) (hh : rdHead f L (sk f L a) = some (10, a1, cd, t)) (hG : GN f L d) (hG1 : GN f L (d - 1)) :
    CN f L (d + 1) nc lc a' A O (pParts f L (pN f L d) (pL f L d) 10 nc (nc + 1, lc, a1, sT (nu_c C nc) nc 7 cd, sT (sT (nu_r R nc) nc 5 (some 10)) nc 6 (some t), CL, RL)) := by
  have hB := (rz_I_to hI).1
  have hO1 : 1 ≤ O := hB.1
  have hrow := row_new (C := C) (R := R) (nc := nc) (k := 10) (t := t) (cd := cd)
  obtain ⟨e1, -, ht8, -⟩ := begin_hd (N := nc + lc) (U := nc) (O := O) hA hh
  have hW := W_ok hB (by omega) hn
  obtain ⟨ht, hcd⟩ : t = 7 ∧ cd = 0 := by
    rcases hd_val hh with ⟨h1, -⟩ | ⟨h1, -⟩ | ⟨-, h2, h1⟩
    · omega
    · omega
    · exact ⟨h1, h2⟩
  have g := nuc_new (A := A) (N := nc + lc) (O := O) (u := rz_u A O) (wh := 9) (cl := 7)
  have r0 := Rch.step (L := L) (A := A) (a := a') (N := nc + lc) (U := nc) (O := O) (by rw [hA, hs]; exact hL)
  have e2 : rz_hd A L 10 a1 cd t (nc + lc) nc O = rz_mat A L a1 0 (nc + lc) nc O := rfl
  rw [hA, hs, hst, e1, e2] at r0
  unfold rz_mat at r0
  rw [hW, hA, show nc + lc + 2 = nc + 1 + (lc + 1) by omega] at r0
  have hh2 := rdHead_ok hh
  have hsg := sk_g f L a
  have hsg1 := sk_g f L a1
  have ep : pParts f L (pN f L d) (pL f L d) 10 nc (nc + 1, lc, a1, sT (nu_c C nc) nc 7 cd, sT (sT (nu_r R nc) nc 5 (some 10)) nc 6 (some t), CL, RL) = pCells f L (pL f L d) nc (nc + 1, lc, a1, sT (nu_c C nc) nc 7 cd, sT (sT (nu_r R nc) nc 5 (some 10)) nc 6 (some t), CL, RL) := rfl
  rw [ep]
  simp only [pCells]
  by_cases q : hre f L (sk f L a1) = 123
  · rw [if_pos q]
    rw [show orw 0 (¬ hre f L (sk f L a1) = 123) = 0 from if_neg (fun z => z.elim (fun y => y rfl) (fun y => y q))] at r0
    have hI2 := r0.I (rz_J_ok hL9) hI
    have hlt1 : sk f L a1 < L := hre_lt (by rw [q]; decide)
    obtain ⟨i0, i1, i2, i3, i4, i5, i6, i7⟩ := ins_facts (B := rz_N A (nc + lc) O 9 7) (n := nc + lc) (O := O) (wh := 3) (Or.inl ⟨rfl, rfl⟩)
    obtain ⟨A2, hA2⟩ : ∃ z, z = rf_ins (rz_N A (nc + lc) O 9 7) (nc + lc + 1) O (nc + lc) 3 := ⟨_, rfl⟩
    rw [← hA2] at i0 i1 i2 i3 i4 i5 i6 i7 hI2 r0
    have en : nc + 1 + lc = nc + lc + 1 := by omega
    have key := cell_ok (i := nc) (l0 := lc) hL9 hG hG1 hO hO1 rfl 161 0 0 (nc + 1) lc (sk f L a1 + 1) (sT (nu_c C nc) nc 7 cd) (sT (sT (nu_r R nc) nc 5 (some 10)) nc 6 (some t)) CL RL A2 (sk f L a1 + 1) [] (i0.trans (g.2.2.2.2.2.trans hA)) hI2 (by omega) (by omega) hlt1 rfl ⟨i6.1, i6.2.1, by rw [en]; exact i6.2.2.1, i6.2.2.2⟩ (by rw [en]; exact ⟨i3 1 (by omega), i3 10 (by omega), i3 11 (by omega), i3 12 (by omega), i3 13 (by omega)⟩) (by rw [en]; exact i3 6 (by omega)) (by rw [en]; exact ⟨i3 7 (by omega), i3 8 (by omega), i3 9 (by omega), i4, i3 15 (by omega)⟩) (by decide) (by decide) ⟨⟨rfl, rfl⟩, fun q hq => absurd hq List.not_mem_nil, trivial, ⟨rfl, rfl⟩⟩ ⟨(by show A2 7 (nc + 1 + lc) = nI 0; rw [en]; exact i3 7 (by omega)), trivial⟩ (fun z => absurd rfl z) rfl
    obtain ⟨K1, K2⟩ := key
    refine ⟨fun z => r0.bad (K1 z), fun nc1 lc1 b1 C1 R1 CL1 RL1 e => ?_⟩
    obtain ⟨A3, xs, v1, v2, v3, v4, v5, ⟨row, col, w1, w2, w3, w4⟩, v7, v8⟩ := K2 nc1 lc1 b1 C1 R1 CL1 RL1 e
    have hL1 : gK L (pL f L d) := fun S S' a1 a2 a3 e => (kp_ln (pN_gK f L d).1 (pN_gK f L (d - 1)).1 S S' a1 a2 a3 e).1
    have hkeep := kp_cell (E := fun p c => p = nc ∧ c = 11) (S0 := (nc + 1, lc, sk f L a1 + 1, sT (nu_c C nc) nc 7 cd, sT (sT (nu_r R nc) nc 5 (some 10)) nc 6 (some t), CL, RL)) hL1 (Or.inr ⟨rfl, rfl⟩) 161 0 0 none _ _ (fun z hz => nomatch hz) ⟨Nat.le_refl _, hn, Nat.le_refl _, hlc, hlt1, fun _ _ _ _ => ⟨rfl, rfl⟩, fun _ _ _ => ⟨rfl, rfl⟩⟩ e
    have hrK : ∀ c, c ≠ 11 → C1 nc c = sT (nu_c C nc) nc 7 cd nc c ∧ R1 nc c = sT (sT (nu_r R nc) nc 5 (some 10)) nc 6 (some t) nc c := fun c hc => hkeep.2.2.2.2.2.1 nc c (Nat.lt_succ_self _) (fun z => hc z.2)
    have hnn : ∀ k, 1 ≤ k → k ≤ 15 → k ≠ 6 → A3 k (nc + lc) = rf_nuc A (nc + lc) O (rz_u A O) 9 7 k (nc + lc) := fun k h1 h2 h6 => (v3 k h1 h2 _ (Nat.le_refl _)).trans (i1 k h2 h6)
    refine ⟨A3, b1, r0.trans v1, rfl, ?_, ?_, ?_⟩
    · refine (nuc_kpt (A := A) (N := nc + lc) (O := O) (u := rz_u A O) (wh := 9) (cl := 7)).trans (N2 := nc + lc) (O2 := O) ⟨?_, fun k h1 h2 m hm => ?_, fun k h1 h2 j hj => ?_⟩ (Nat.le_refl _) (Nat.le_refl _)
      · rw [v2]; exact (g.2.2.2.2.2.trans hA).symm
      · rw [v3 k h1 h2 m (by omega)]; exact i5 m (by omega) (by omega) k h2
      · rw [v4 k h1 h2 j hj]; exact i7 j (by omega) k h1
    · refine ⟨10, by decide, (hrK 5 (by decide)).2.trans hrow.2.1, ?_, ?_, ?_, ?_⟩
      · refine ⟨?_, fun z => absurd rfl z⟩
        rw [hnn 1 (by decide) (by decide) (by decide), g.1]; rfl
      · rw [hnn 2 (by decide) (by decide) (by decide), g.2.2.2.1 2 (by omega), (hrK 7 (by decide)).1, hrow.1, hcd]
      · rw [(hrK 7 (by decide)).1, hrow.1, hcd]; exact ⟨rfl, by decide⟩
      · unfold SK
        rw [if_neg (by omega), if_neg (by omega), if_neg (by omega), if_neg (by omega)]
        refine ⟨xs, v5, v8, ?_, ?_, ?_, w1, w3, v7, w2, cpq_o xs _ _ _ _ w4⟩
        · show A3 10 (nc + lc) = 0
          rw [hnn 10 (by decide) (by decide) (by decide)]; exact g.2.2.2.1 10 (by omega)
        · show A3 11 (nc + lc) = 0
          rw [hnn 11 (by decide) (by decide) (by decide)]; exact g.2.2.2.1 11 (by omega)
        · show A3 6 (nc + lc) = nI (nc + lc + 1)
          rw [v3 6 (by decide) (by decide) _ (Nat.le_refl _)]; exact i2
    · refine ⟨t, ht8, (hrK 6 (by decide)).2.trans hrow.2.2.1, ?_, ⟨(hrK 12 (by decide)).2.trans (hrow.2.2.2 12 (by decide) (by decide)), (hrK 13 (by decide)).2.trans (hrow.2.2.2 13 (by decide) (by decide)), (hrK 14 (by decide)).2.trans (hrow.2.2.2 14 (by decide) (by decide))⟩, ⟨?_, ?_, ?_, ?_⟩, ?_⟩
      · rw [hnn 4 (by decide) (by decide) (by decide), g.2.1, ht]; rfl
      · rw [hnn 7 (by decide) (by decide) (by decide)]; exact g.2.2.2.1 7 (by omega)
      · rw [hnn 12 (by decide) (by decide) (by decide)]; exact g.2.2.2.1 12 (by omega)
      · rw [hnn 13 (by decide) (by decide) (by decide)]; exact g.2.2.2.1 13 (by omega)
      · rw [hnn 15 (by decide) (by decide) (by decide)]; exact g.2.2.2.1 15 (by omega)
      · rw [hnn 5 (by decide) (by decide) (by decide), g.2.2.1]; exact rz_lv hB
  · rw [if_neg q]
    exact CN_bad (r0.bad (Bad.wrong (if_pos (Or.inr q))))
/-- nothing may begin -/
theorem GN_no {f : Nat → Int32} {L nc lc a : Nat} {A : Nat → Nat → Int32} {a' O : Nat} (hA : A 0 = f) (hI : rz_I L (A, a', 0, nc + lc, nc, O)) (hs : sk f L a' = sk f L a) (hx : ¬ A 16 (O - 1) ≤ 3 ∨ (sk f L a < L ∧ rz_in A L (sk f L a) (nc + lc) nc O = none)) (h : rz_W A O nc 0 = 1 ∨ rdHead f L (sk f L a) = none) : Bad L (A, a', 0, nc + lc, nc, O) := by
  have hB := (rz_I_to hI).1
  by_cases hL : sk f L a < L
  · have r0 := Rch.step (L := L) (A := A) (a := a') (N := nc + lc) (U := nc) (O := O) (by rw [hA, hs]; exact hL)
    rw [hA, hs, rz_step_begin (hx.imp id And.right)] at r0
    rcases eh : rdHead f L (sk f L a) with _ | ⟨k, a1, cd, t⟩
    · exact r0.bad (Bad.wrong (begin_no hA eh))
    · rw [(begin_hd (N := nc + lc) (U := nc) (O := O) hA eh).1] at r0
      exact r0.bad (Bad.wrong (hd_bad (h.elim id (fun z => by rw [eh] at z; cases z))))
  · refine Bad.ended (by rw [hA, hs]; exact hL) (fun z => ?_)
    rcases hx with w | w
    · rw [z] at w
      exact w (by show A 16 0 ≤ 3; rw [hB.2.2.1]; decide)
    · exact hL w.1
theorem GN_0 {f : Nat → Int32} {L : Nat} : GN f L 0 := by
  intro nc lc a C R CL RL A a' O hA hI hO hn ha hla hs hx
  refine ⟨fun _ => GN_no hA hI hs hx (Or.inl (W_no (rz_I_to hI).1 (Or.inr (by omega)) hn)), fun _ _ _ _ _ _ _ e => ?_⟩
  rw [pN_0] at e
  cases e
theorem GN_s {f : Nat → Int32} {L d : Nat} (hL9 : L ≤ 160) (hf : ∀ j, okd (f j)) (hG : GN f L d) (hG1 : GN f L (d - 1)) : GN f L (d + 1) := by
  intro nc lc a C R CL RL A a' O hA hI hO hn ha hla hs hx
  show CN f L (d + 1) nc lc a' A O (pN f L (d + 1) (nc, lc, a, C, R, CL, RL))
  have hB := (rz_I_to hI).1
  rcases eh : rdHead f L (sk f L a) with _ | ⟨k, a1, cd, t⟩
  · rw [pN_hd eh]
    exact CN_bad (GN_no hA hI hs hx (Or.inr eh))
  · by_cases hn6 : nc < 60
    · have ep : pN f L (d + 1) (nc, lc, a, C, R, CL, RL) = pParts f L (pN f L d) (pL f L d) k nc (nc + 1, lc, a1, sT (nu_c C nc) nc 7 cd, sT (sT (nu_r R nc) nc 5 (some k)) nc 6 (some t), CL, RL) := by
        rw [pN_s]
        simp only [pNu]
        rw [if_pos hn6, eh]; rfl
      rw [ep]
      obtain ⟨q1, q2, hk11, -⟩ := rdHead_ok eh
      have hL : sk f L a < L := by omega
      have hst : rz_step L A (sk f L a) 0 (nc + lc) nc O = rz_begin A L (sk f L a) 0 (nc + lc) nc O := rz_step_begin (hx.imp id And.right)
      have hlc : lc ≤ 161 := by omega
      by_cases c0 : k = 0 ∨ (2 ≤ k ∧ k ≤ 4)
      · have e9 : ∀ S : RT, pParts f L (pN f L d) (pL f L d) k nc S = some S := fun S => by
          obtain ⟨s1, s2, s3, s4, s5, s6, s7⟩ := S
          simp only [pParts]
          rw [if_neg (by omega), if_neg (by omega), if_neg (by omega), if_neg (by omega), if_neg (by omega)]
        rw [e9]
        obtain ⟨A1, v1, v2, v3, v4⟩ := leaf_ok (C := C) (R := R) (CL := CL) (RL := RL) (d := d) hf hA hI (by omega) hn6 hs hL hst eh c0
        refine ⟨fun e => (nomatch e), fun nc9 lc9 a9 C9 R9 CL9 RL9 e9 => ?_⟩
        cases e9
        exact ⟨A1, a1, v1, rfl, v2, v3, v4⟩
      · by_cases c1 : k = 1
        · subst c1
          exact grp_ok hL9 hlc hla hA hI hO hn6 hs hL hst eh hG hG1
        · by_cases c5 : k = 5
          · subst c5
            exact two_ok hL9 hlc hla hA hI hO hn6 hs hL hst eh hG
          · by_cases c6 : 6 ≤ k ∧ k ≤ 8
            · have e9 : pParts f L (pN f L d) (pL f L d) k nc (nc + 1, lc, a1, sT (nu_c C nc) nc 7 cd, sT (sT (nu_r R nc) nc 5 (some k)) nc 6 (some t), CL, RL) = (pN f L d (nc + 1, lc, a1, sT (nu_c C nc) nc 7 cd, sT (sT (nu_r R nc) nc 5 (some k)) nc 6 (some t), CL, RL)).bind fun (nc1, lc1, a1, C1, R1, CL1, RL1) => some (nc1, lc1, a1, C1, sT R1 nc 9 (some (nc + 1)), CL1, RL1) := by
                simp only [pParts]
                rw [if_neg c1, if_neg c5, if_pos (by omega)]
              rw [e9]
              obtain ⟨G1, G2⟩ := one_ok (C := C) (R := R) (CL := CL) (RL := RL) hL9 hlc hla hf hA hI hO hn6 hs hL hst eh c6 hG
              rcases e : pN f L d (nc + 1, lc, a1, sT (nu_c C nc) nc 7 cd, sT (sT (nu_r R nc) nc 5 (some k)) nc 6 (some t), CL, RL) with _ | ⟨nc1, lc1, b1, C1, R1, CL1, RL1⟩
              · exact CN_bad (G1 e)
              · refine ⟨fun e => (nomatch e), fun nc9 lc9 a9 C9 R9 CL9 RL9 e9 => ?_⟩
                cases e9
                exact G2 nc1 lc1 b1 C1 R1 CL1 RL1 e
            · by_cases c9 : k = 9
              · subst c9
                exact sid_ok hL9 hf hlc hla hA hI hO hn6 hs hL hst eh hG hG1
              · have c10 : k = 10 := by omega
                subst c10
                exact mat_ok hL9 hlc hla hA hI hO hn6 hs hL hst eh hG hG1
    · have ep : pN f L (d + 1) (nc, lc, a, C, R, CL, RL) = none := by
        rw [pN_s]
        simp only [pNu]
        rw [if_neg hn6]
      rw [ep]
      exact CN_bad (GN_no hA hI hs hx (Or.inl (W_no hB (Or.inl hn6) hn)))
theorem GN_all {f : Nat → Int32} {L : Nat} (hL9 : L ≤ 160) (hf : ∀ j, okd (f j)) : ∀ d, GN f L d ∧ GN f L (d - 1)
  | 0 => ⟨GN_0, GN_0⟩
  | d + 1 => ⟨GN_s hL9 hf (GN_all hL9 hf d).1 (GN_all hL9 hf d).2, (GN_all hL9 hf d).1⟩
theorem make_new {A : Nat → Nat → Int32} {N : Nat} : ∀ k, k = 1 ∨ k = 6 ∨ k = 7 ∨ k = 10 ∨ k = 11 ∨ k = 12 ∨ k = 13 ∨ k = 14 ∨ k = 15 → rf_make A N 0 k N = 0 := by
  intro k hk
  rcases hk with rfl | rfl | rfl | rfl | rfl | rfl | rfl | rfl | rfl <;> exact upd_s
/-- the whole text -/
theorem read_ok {f : Nat → Int32} {L : Nat} {C : Nat → Nat → Int32} {R : Nat → Nat → Option Nat} {CL : Nat → Nat → Int32} {RL : Nat → Nat → Option Nat} {A : Nat → Nat → Int32} (hL9 : L ≤ 160) (hf : ∀ j, okd (f j)) (hA : A 0 = f) :
    (rdOk f L (0, 0, 0, C, R, CL, RL) = none → ¬ rz_ok (rz_read A L)) ∧ ∀ (nc lc a : Nat) (C1 : Nat → Nat → Int32) (R1 : Nat → Nat → Option Nat) (CL1 : Nat → Nat → Int32) (RL1 : Nat → Nat → Option Nat), rdOk f L (0, 0, 0, C, R, CL, RL) = some (nc, lc, a, C1, R1, CL1, RL1) → ∃ (A1 : Nat → Nat → Int32) (a2 : Nat), rz_read A L = (A1, a2, 0, nc + lc, nc, 1) ∧ A1 0 = f ∧ SL R1 RL1 A1 (SN C1 R1 CL1 RL1 A1 7) (0, 0, nc, lc) ∧ nc ≤ 60 ∧ lc ≤ 161 ∧ (A1 7 0 = 0 ∧ A1 14 0 = 0 ∧ A1 15 0 = 0) := by
  obtain ⟨hG, hG1⟩ := GN_all hL9 hf 7
  obtain ⟨Z, hZ⟩ : ∃ z, z = rf_push (rf_make A 0 0) 0 0 0 (nI 0) := ⟨_, rfl⟩
  have hI : rz_I L (Z, 0, 0, 0 + (0 + 1), 0, 1) := by rw [hZ]; exact rz_I_0 A L
  have hz : ∀ k, k = 1 ∨ k = 6 ∨ k = 7 ∨ k = 10 ∨ k = 11 ∨ k = 12 ∨ k = 13 ∨ k = 14 ∨ k = 15 → Z k (0 + 0) = 0 := fun k hk => by
    show Z k 0 = 0
    rw [hZ, push_k (by omega)]
    exact make_new k hk
  have hZ0 : Z 0 = f := by rw [hZ, push_k (by decide)]; exact hA
  have hp := push_new (A := rf_make A 0 0) (O := 0) (wh := 0) (nn := 0) (ii := nI 0)
  rw [← hZ] at hp
  obtain ⟨G1, G2⟩ := line_all (C := C) (R := R) (CL := CL) (RL := RL) (a := 0) hL9 hG hG1 (O := 1) rfl hZ0 hI (by decide) (Nat.le_refl _) (Nat.zero_le _) rfl (by show Z 16 0 ≤ 3; rw [hp.1]; decide) hp.2.2.1 hp.2.2.2 ⟨hz 1 (by omega), hz 10 (by omega), hz 11 (by omega), hz 12 (by omega), hz 13 (by omega)⟩ (hz 6 (by omega))
  have hbad : ∀ A', Bad L (A', 0, 0, 0 + (0 + 1), 0, 1) → A' = Z → ¬ rz_ok (rz_read A L) := fun A' h e => by
    subst e
    rw [hZ] at h
    exact Bad.read hL9 h
  have er : rdOk f L (0, 0, 0, C, R, CL, RL) = (pL f L 7 (0, 0, 0, C, R, CL, RL)).bind fun S' => if L ≤ S'.2.2.1 then some S' else none := rfl
  rw [er]
  rcases e : pL f L 7 (0, 0, 0, C, R, CL, RL) with _ | ⟨nc1, lc1, b, C1, R1, CL1, RL1⟩
  · exact ⟨fun _ => hbad Z (G1 e) rfl, fun _ _ _ _ _ _ _ z => by cases z⟩
  · rw [Option.bind_some]
    dsimp only
    obtain ⟨A1, a2, r1, s1, z1, I1, k1, k2, k3, le1⟩ := G2 nc1 lc1 b C1 R1 CL1 RL1 e
    obtain ⟨hkeep, -⟩ := kp_ln (pN_gK f L 7).1 (pN_gK f L (7 - 1)).1 _ _ (show 0 ≤ 60 by decide) (show 0 ≤ 161 by decide) (show 0 ≤ L from Nat.zero_le _) e
    have hb : b ≤ L := hkeep.2.2.2.2.1
    by_cases q : L ≤ b
    · rw [if_pos q]
      refine ⟨fun e => (nomatch e), fun nc9 lc9 a9 C9 R9 CL9 RL9 e9 => ?_⟩
      cases e9
      refine ⟨A1, sk f L a2, ?_, z1, I1, hkeep.2.1, hkeep.2.2.2.1, ?_, ?_, ?_⟩
      · refine rz_read_of hL9 ?_
        obtain ⟨k, hk⟩ := r1
        have hsb : L ≤ sk f L a2 := by rw [s1]; have := sk_g f L b; omega
        refine ⟨k + 1, fun m => ?_⟩
        have e5 := hk (1 + m)
        rw [rz_end (by rw [z1]; omega), z1] at e5
        rw [Nat.add_assoc]
        rw [hZ] at e5
        exact e5
      · exact (k2 7 (by decide) (by decide) (by decide)).trans (hz 7 (by omega))
      · exact (k2 14 (by decide) (by decide) (by decide)).trans (hz 14 (by omega))
      · exact (k2 15 (by decide) (by decide) (by decide)).trans (hz 15 (by omega))
    · rw [if_neg q]
      refine ⟨fun _ => hbad Z (r1.bad (lend_bad (w := 0) z1 s1 ?_ (by decide) le1 (Or.inr ?_) (fun _ => ⟨by decide, by decide⟩) (fun _ => by decide) (fun _ => by decide) (fun _ => by decide))) rfl, fun _ _ _ _ _ _ _ z => by cases z⟩
      · show A1 16 0 = 0
        rw [k3 16 (by decide) (by decide) 0 (by decide) (Or.inl (by decide))]; exact hp.1
      · -- the class stopped before the end
        have hsb : sk f L b = b := pL_sk e
        omega
