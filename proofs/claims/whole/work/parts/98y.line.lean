/-! Pure: a line comes out alike. By hand. -/
theorem rdH_scr {f : Nat → Int32} {L a : Nat} (h : hre f L a = 94 ∨ hre f L a = 95) : rdHead f L a = none := by
  unfold rdHead
  rcases h with h | h <;> (rw [h, if_neg (by decide), if_neg (by decide)]; rfl)
theorem pN_hd {f : Nat → Int32} {L d nc lc a : Nat} {C : Nat → Nat → Int32} {R : Nat → Nat → Option Nat} {CL : Nat → Nat → Int32} {RL : Nat → Nat → Option Nat} (h : rdHead f L (sk f L a) = none) : pN f L d (nc, lc, a, C, R, CL, RL) = none := by
  cases d with
  | zero => exact pN_0 f L _
  | succ d =>
    rw [pN_s]
    simp only [pNu]
    rw [h]
    split <;> rfl
/-- a script that nothing may bear -/
theorem scr_bad {f : Nat → Int32} {L nc N O a : Nat} {A : Nat → Nat → Int32} {a' : Nat} (hA : A 0 = f) (hs : sk f L a' = sk f L a) (h16 : A 16 (O - 1) ≤ 3) (hc : hre f L (sk f L a) = 94 ∨ hre f L (sk f L a) = 95) (h : A 19 (O - 1) = 0 ∨ ((hre f L (sk f L a) = 94 → 0 < A 12 (ixI (A 19 (O - 1)))) ∧ (hre f L (sk f L a) = 95 → 0 < A 13 (ixI (A 19 (O - 1)))))) : Bad L (A, a', 0, N, nc, O) := by
  have hlt : sk f L a < L := hre_lt (by rcases hc with z | z <;> rw [z] <;> decide)
  have r0 := Rch.step (L := L) (A := A) (a := a') (N := N) (U := nc) (O := O) (by rw [hA, hs]; exact hlt)
  rw [hA, hs, rz_step_in h16 (in_scr hA hc)] at r0
  refine r0.bad (Bad.wrong ?_)
  show (if A 19 (O - 1) = 0 ∨ 0 < (if hre f L (sk f L a) = 94 then A 12 (ixI (A 19 (O - 1))) else A 13 (ixI (A 19 (O - 1)))) then (1 : Int32) else 0) = 1
  rw [if_pos]
  rcases h with h | ⟨h1, h2⟩
  · exact Or.inl h
  · refine Or.inr ?_
    rcases hc with z | z
    · rw [if_pos z]; exact h1 z
    · rw [if_neg (by rw [z]; decide)]; exact h2 z
theorem line_ok {f : Nat → Int32} {L D O i0 j : Nat} (hL9 : L ≤ 160) (hG : GN f L D) (hG1 : GN f L (D - 1)) (hO : O + D = 8) : ∀ (t nc lc a : Nat) (C : Nat → Nat → Int32) (R : Nat → Nat → Option Nat) (CL : Nat → Nat → Int32) (RL : Nat → Nat → Option Nat) (A : Nat → Nat → Int32) (a' : Nat) (xs : List XT) (so : List Nat), A 0 = f → rz_I L (A, a', 0, nc + lc, nc, O) → nc ≤ 60 → lc ≤ 161 → lc ≤ a + 1 → a ≤ L → sk f L a' = sk f L a → A 16 (O - 1) ≤ 3 → A 18 (O - 1) = nI (i0 + j) → A 19 (O - 1) = nI (xo xs.getLast?) → PLn D i0 j C R CL RL A nc lc xs so → (A 1 (i0 + j) = 0 ∧ A 10 (i0 + j) = 0 ∧ A 11 (i0 + j) = 0 ∧ A 12 (i0 + j) = 0 ∧ A 13 (i0 + j) = 0) → (∀ z, xs.getLast? = some z → (hre f L (sk f L a) = 94 → ¬ R z.1 12 = none) ∧ (hre f L (sk f L a) = 95 → ¬ R z.1 13 = none)) → xs.length + t = 61 →
    (pLine f L (pN f L D) (pN f L (D - 1)) j t (xs.map (fun z => z.1)) (nc, lc, a, C, R, CL, RL) = none → Bad L (A, a', 0, nc + lc, nc, O)) ∧ ∀ (nc1 lc1 a1 : Nat) (C1 : Nat → Nat → Int32) (R1 : Nat → Nat → Option Nat) (CL1 : Nat → Nat → Int32) (RL1 : Nat → Nat → Option Nat), pLine f L (pN f L D) (pN f L (D - 1)) j t (xs.map (fun z => z.1)) (nc, lc, a, C, R, CL, RL) = some (nc1, lc1, a1, C1, R1, CL1, RL1) → ∃ (A1 : Nat → Nat → Int32) (a2 : Nat), Rch L (A, a', 0, nc + lc, nc, O) (A1, a2, 0, nc1 + lc1, nc1, O) ∧ sk f L a2 = sk f L a1 ∧ A1 0 = f ∧ SL R1 RL1 A1 (SN C1 R1 CL1 RL1 A1 D) (i0, j, nc1, lc1) ∧ (∀ q, 1 ≤ q → q ≤ 15 → ∀ m, m < i0 + j → A1 q m = A q m) ∧ (∀ q, 1 ≤ q → q ≤ 15 → q ≠ 6 → A1 q (i0 + j) = A q (i0 + j)) ∧ (∀ q, 16 ≤ q → q ≤ 19 → ∀ p, p < O → (q ≠ 19 ∨ p ≠ O - 1) → A1 q p = A q p) ∧ lend f L (sk f L a1)
  | 0, nc, lc, a, C, R, CL, RL, A, a', xs, so, hA, hI, hn, hlc, hla, ha, hs, h16, h18, h19, hP, hu, hsc, hk => by
    have := (PLn_le hP).2.2.1
    omega
  | t + 1, nc, lc, a, C, R, CL, RL, A, a', xs, so, hA, hI, hn, hlc, hla, ha, hs, h16, h18, h19, hP, hu, hsc, hk => by
    obtain ⟨b1, b2, b3, b4, b5⟩ := PLn_le hP
    obtain ⟨hB, -, hN2, haL⟩ := rz_I_to hI
    have hO1 : 1 ≤ O := hB.1
    have hsL := sk_L (f := f) ha
    have hsg := sk_g f L a
    have hsid : sk f L (sk f L a) = sk f L a := sk_id f L _ a rfl
    by_cases q : lend f L (sk f L a)
    · have ep : pLine f L (pN f L D) (pN f L (D - 1)) j (t + 1) (xs.map (fun z => z.1)) (nc, lc, a, C, R, CL, RL) = some (nc, lc, sk f L a, C, st2 (st1 R none (xs.map (fun z => z.1))) (xs.map (fun z => z.1)), CL, RL) := by rw [pLine, if_pos q]
      rw [ep]
      refine ⟨fun e => (nomatch e), fun nc1 lc1 a1 C1 R1 CL1 RL1 e => ?_⟩
      cases e
      exact ⟨A, a', Rch.refl _, by rw [hsid]; exact hs, hA, PLn_end hP rfl hu, fun _ _ _ _ _ => rfl, fun _ _ _ _ => rfl, fun _ _ _ _ _ _ => rfl, by rw [hsid]; exact q⟩
    · have ep : pLine f L (pN f L D) (pN f L (D - 1)) j (t + 1) (xs.map (fun z => z.1)) (nc, lc, a, C, R, CL, RL) = (pN f L D (nc, lc, sk f L a, C, R, CL, RL)).bind fun S1 => (pScr f L (pN f L (D - 1)) nc 2 S1).bind fun (nc2, lc2, a2, C2, R2, CL2, RL2) => pLine f L (pN f L D) (pN f L (D - 1)) j t ((xs.map (fun z => z.1)) ++ [nc]) (nc2, lc2, a2, C2, (xs.map (fun z => z.1)).getLast?.elim R2 (fun q => sT R2 q 14 (some nc)), CL2, (xs.map (fun z => z.1)).getLast?.elim (sT RL2 j 5 (some nc)) (fun _ => RL2)) := by rw [pLine, if_neg q]
      rw [ep]
      have hlt : sk f L a < L := hre_lt (fun z => q (Or.inl z))
      have hixl : ∀ z, xs.getLast? = some z → ixI (A 19 (O - 1)) = z.1 + z.2.1 ∧ z.1 + z.2.1 < nc + lc ∧ 0 < z.1 + z.2.1 ∧ i0 + j < z.1 + z.2.1 ∧ z.1 < nc := fun z hz => by
        have q1 := b1 z (List.mem_of_getLast? hz)
        have q2 := b2 z (List.mem_of_getLast? hz)
        refine ⟨?_, by omega, by omega, by omega, by omega⟩
        rw [h19, hz]
        exact nI_clamp (show z.1 + z.2.1 < _ by omega)
      by_cases hc : hre f L (sk f L a) = 94 ∨ hre f L (sk f L a) = 95
      · rw [pN_hd (by rw [hsid]; exact rdH_scr hc)]
        refine ⟨fun _ => scr_bad hA hs h16 hc ?_, fun _ _ _ _ _ _ _ e => by cases e⟩
        rcases hx : xs.getLast? with _ | z
        · exact Or.inl (by rw [h19, hx]; rfl)
        · refine Or.inr ?_
          obtain ⟨x1, x2, x3, -, -⟩ := hixl z hx
          obtain ⟨i1, l1, ou, ol, g1, g2, g3, g4, g5, g6, g7⟩ := (hP.2.1 z (List.mem_of_getLast? hx)).1
          have hle := SN_le (C := C) (R := R) (CL := CL) (RL := RL) (A := A) D
          have gl := hle _ _ _ _ g1
          have z2 := b2 z (List.mem_of_getLast? hx)
          rw [x1]
          refine ⟨fun e => ?_, fun e => ?_⟩
          · rcases ho : ou with _ | p
            · rw [ho] at g3; exact absurd g3.1 ((hsc z hx).1 e)
            · obtain ⟨p1, p2⟩ := g5 p ho
              have p3 := hle _ _ _ _ p1.1
              have e9 : A 12 (z.1 + z.2.1) = nI (p.1 + p.2.1) := by rw [ho] at g4; exact g4.1
              rw [e9]
              exact (nI_ltI (a := 0) (b := p.1 + p.2.1) (by decide) (by omega)).mpr (by omega)
          · rcases ho : ol with _ | p
            · rw [ho] at g3; exact absurd g3.2 ((hsc z hx).2 e)
            · obtain ⟨p1, p2⟩ := g6 p ho
              have p3 := hle _ _ _ _ p1.1
              have e9 : A 13 (z.1 + z.2.1) = nI (p.1 + p.2.1) := by rw [ho] at g4; exact g4.2
              rw [e9]
              exact (nI_ltI (a := 0) (b := p.1 + p.2.1) (by decide) (by omega)).mpr (by omega)
      · have hin : rz_in A L (sk f L (sk f L a)) (nc + lc) nc O = none := by rw [hsid]; exact in_none hA q (fun z => hc (Or.inl z)) (fun z => hc (Or.inr z))
        obtain ⟨G1, G2⟩ := hG nc lc (sk f L a) C R CL RL A a' O hA hI hO hn hsL (by omega) (by rw [hsid]; exact hs) (Or.inr ⟨by rw [hsid]; exact hlt, hin⟩)
        rcases e : pN f L D (nc, lc, sk f L a, C, R, CL, RL) with _ | ⟨nc1, lc1, a1, C1, R1, CL1, RL1⟩
        · exact ⟨fun _ => G1 e, fun _ _ _ _ _ _ _ z => by cases z⟩
        · rw [Option.bind_some]
          obtain ⟨d, rfl⟩ : ∃ d, D = d + 1 := by
            cases D with
            | zero => rw [pN_0] at e; cases e
            | succ d => exact ⟨d, rfl⟩
          rw [Nat.add_sub_cancel] at hG1 ⊢
          obtain ⟨A1, a2, r1, s1, k1, n1, rt1⟩ := G2 nc1 lc1 a1 C1 R1 CL1 RL1 e
          have hkeep := (pN_gK f L (d + 1)).1 _ _ (show nc ≤ 60 from hn) (show lc ≤ 161 from hlc) (show sk f L a ≤ L from hsL) e
          have hgA := pN_gA f L (d + 1) _ _ e
          dsimp only at hgA
          have hrK : ∀ q c, q < nc → C1 q c = C q c ∧ R1 q c = R q c := fun q c hq => hkeep.2.2.2.2.2.1 q c hq (fun z => z)
          have hlK : ∀ q c, q < lc → CL1 q c = CL q c ∧ RL1 q c = RL q c := fun q c hq => hkeep.2.2.2.2.2.2 q c hq
          have hle1 := SN_le _ _ _ _ _ n1
          obtain ⟨o, ho⟩ : ∃ o, O = o + 1 := ⟨O - 1, by omega⟩
          subst ho
          rw [Nat.add_sub_cancel] at h16 h18 h19 hixl
          have h116 : A1 16 o = A 16 o := k1.2.2 16 (by decide) (by decide) o (by omega)
          have h118 : A1 18 o = nI (i0 + j) := (k1.2.2 18 (by decide) (by decide) o (by omega)).trans h18
          have h119 : A1 19 o = A 19 o := k1.2.2 19 (by decide) (by decide) o (by omega)
          rw [del_list (by rw [h116]; exact h16)] at r1
          obtain ⟨A2, hA2⟩ : ∃ z, z = rf_dl A1 o (nc + lc) := ⟨_, rfl⟩
          -- what delivering changes
          have hF : (∀ k, k ≠ 6 → k ≠ 7 → k ≠ 14 → k ≠ 19 → A2 k = A1 k) ∧ A2 14 (nc + lc) = nI (i0 + j) ∧ (∀ m, m ≠ nc + lc → A2 14 m = A1 14 m) ∧ A2 19 o = nI (nc + lc) ∧ (∀ p, p ≠ o → A2 19 p = A1 19 p) ∧ (∀ m, m ≠ i0 + j → A2 6 m = A1 6 m) ∧ (∀ m, (∀ z, xs.getLast? = some z → m ≠ xn z) → A2 7 m = A1 7 m) ∧ (xs = [] → A2 6 (i0 + j) = nI (nc + lc)) ∧ (∀ z, xs.getLast? = some z → A2 6 (i0 + j) = A1 6 (i0 + j) ∧ A2 7 (xn z) = nI (nc + lc)) := by
            rw [hA2]
            rcases hx : xs.getLast? with _ | z
            · have h0 : A1 19 o = 0 := by rw [h119, h19, hx]; rfl
              obtain ⟨d1, d2, d3, d4, d5, d6, d7⟩ := dl_first (n := nc + lc) (u := i0 + j) (by rw [h118]; exact nI_clamp (by omega)) h118 h0
              exact ⟨fun k k6 k7 k14 k19 => d1 k k6 k14 k19, d2, d3, d6, d7, d5, fun m _ => by rw [d1 7 (by decide) (by decide) (by decide)], fun _ => d4, fun z hz => by cases hz⟩
            · obtain ⟨x1, x2, x3, x4, x5⟩ := hixl z hx
              have h0 : ¬ A1 19 o = 0 := fun w => by
                rw [← h119, w] at x1
                have : ixI 0 = 0 := rfl
                omega
              obtain ⟨d1, d2, d3, d4, d5, d6, d7⟩ := dl_next (n := nc + lc) (u := i0 + j) (p := z.1 + z.2.1) h118 (by rw [h119]; exact x1) h0
              refine ⟨fun k k6 k7 k14 k19 => d1 k k7 k14 k19, d2, d3, d6, d7, fun m _ => by rw [d1 6 (by decide) (by decide) (by decide)], fun m hm => d5 m (hm z rfl), fun w => ?_, fun y hy => ?_⟩
              · rw [w] at hx; cases hx
              · cases hy
                exact ⟨by rw [d1 6 (by decide) (by decide) (by decide)], d4⟩
          rw [← hA2] at r1
          obtain ⟨f1, f2, f3, f4, f5, f6, f7, f8, f9⟩ := hF
          have hz0 : ∀ z, xs.getLast? = some z → z.1 + z.2.1 < nc + lc := fun z hz => (hixl z hz).2.1
          have hnew : ∀ k, k ≠ 14 → k ≠ 19 → A2 k (nc + lc) = A1 k (nc + lc) := fun k k14 k19 => by
            by_cases k6 : k = 6
            · rw [k6]; exact f6 _ (by omega)
            · by_cases k7 : k = 7
              · rw [k7]; exact f7 _ (fun z hz => by have := hz0 z hz; show nc + lc ≠ z.1 + z.2.1; omega)
              · rw [f1 k k6 k7 k14 k19]
          have hbey : ∀ m, nc + lc < m → ∀ k, k ≠ 19 → A2 k m = A1 k m := fun m hm k k19 => by
            by_cases k6 : k = 6
            · rw [k6]; exact f6 _ (by omega)
            · by_cases k7 : k = 7
              · rw [k7]; exact f7 _ (fun z hz => by have := hz0 z hz; show m ≠ z.1 + z.2.1; omega)
              · by_cases k14 : k = 14
                · rw [k14]; exact f3 m (by omega)
                · rw [f1 k k6 k7 k14 k19]
          obtain ⟨t6, ht6, r6, r4, r12, r7, r5⟩ := rt1
          have I1 : SI R1 A2 (SN C1 R1 CL1 RL1 A2 (d + 1)) (nc, lc, nc1, lc1) := by
            refine ⟨nc1, lc1, none, none, SN_ag (C := C1) (R := R1) (CL := CL1) (RL := RL1) (A := A1) (d + 1) (nc, lc, nc1, lc1) n1 ⟨⟨rfl, rfl, fun _ _ => rfl⟩, fun k hk => hnew k (by omega) (by omega), fun _ _ _ => ⟨rfl, rfl, fun _ => rfl⟩, fun _ _ _ => ⟨rfl, rfl, rfl, rfl⟩, fun m m1 m2 k k1 k2 => hbey m (by have m1 : nc + 1 + lc ≤ m := m1; omega) k (by omega)⟩, ⟨Nat.le_refl _, Nat.le_refl _⟩, ⟨r12.1, r12.2.1⟩, ⟨(hnew 12 (by decide) (by decide)).trans r7.2.1, (hnew 13 (by decide) (by decide)).trans r7.2.2.1⟩, (fun q hq => by cases hq), (fun q hq => by cases hq), (fun q p hq => by cases hq), [], ⟨rfl, rfl⟩, Or.inl rfl⟩
          have hI2 := r1.I (rz_J_ok hL9) hI
          have hop : opn (R1 nc 12) + opn (R1 nc 13) ≤ 2 := by rw [r12.1, r12.2.1]; decide
          obtain ⟨S1, S2⟩ := scr_ok (i := nc) (l := lc) hL9 hG1 (by omega) (by omega) 2 nc1 lc1 a1 C1 R1 CL1 RL1 A2 a2 (by rw [f1 0 (by decide) (by decide) (by decide) (by decide), k1.1]; exact hA) hI2 hkeep.2.1 hkeep.2.2.2.1 (by omega) hkeep.2.2.2.2.1 s1 (by rw [Nat.add_sub_cancel, f1 16 (by decide) (by decide) (by decide) (by decide), h116]; exact h16) (by rw [Nat.add_sub_cancel]; exact f4) I1 hop
          rcases e2 : pScr f L (pN f L d) nc 2 (nc1, lc1, a1, C1, R1, CL1, RL1) with _ | ⟨nc2, lc2, b2', C2, R2, CL2, RL2⟩
          · exact ⟨fun _ => r1.bad (S1 e2), fun _ _ _ _ _ _ _ z => by cases z⟩
          · rw [Option.bind_some]
            dsimp only
            obtain ⟨A3, a3, r3, s3, z3, I3, m1, m2, m3, m4, m5⟩ := S2 nc2 lc2 b2' C2 R2 CL2 RL2 e2
            have kp2 := kp_scr (f := f) (E := fun p c => p = nc ∧ (c = 12 ∨ c = 13)) (S0 := (nc1, lc1, a1, C1, R1, CL1, RL1)) (i := nc) (pN_gK f L d).1 (Or.inr ⟨⟨rfl, Or.inl rfl⟩, ⟨rfl, Or.inr rfl⟩⟩) 2 _ _ ⟨Nat.le_refl _, hkeep.2.1, Nat.le_refl _, hkeep.2.2.2.1, hkeep.2.2.2.2.1, fun _ _ _ _ => ⟨rfl, rfl⟩, fun _ _ _ => ⟨rfl, rfl⟩⟩ e2
            have gA2 := ga_scr (f := f) (L := L) (i := nc) (pN_gA f L d) 2 _ _ e2
            dsimp only at gA2
            obtain ⟨⟨-, kn, -, kl, ka, kq, kw⟩, kn1, kl1⟩ := kp2
            dsimp only at kn kl ka kq kw kn1 kl1
            have hR2 : ∀ q c, q < nc → C2 q c = C q c ∧ R2 q c = R q c := fun q c hq => ⟨(kq q c (by omega) (by omega)).1.trans (hrK q c hq).1, (kq q c (by omega) (by omega)).2.trans (hrK q c hq).2⟩
            have hL2 : ∀ q c, q < lc → CL2 q c = CL q c ∧ RL2 q c = RL q c := fun q c hq => ⟨(kw q c (by omega)).1.trans (hlK q c hq).1, (kw q c (by omega)).2.trans (hlK q c hq).2⟩
            have hmap : xs.map (fun z => z.1) ++ [nc] = (xs ++ [(nc, lc, nc2, lc2)]).map (fun z => z.1) := by rw [List.map_append]; rfl
            rw [hmap]
            have hgl : (xs.map (fun z : XT => z.1)).getLast? = xs.getLast?.map (fun z => z.1) := List.getLast?_map
            obtain ⟨R', hR'⟩ : ∃ z, z = (xs.map (fun z : XT => z.1)).getLast?.elim R2 (fun q => sT R2 q 14 (some nc)) := ⟨_, rfl⟩
            obtain ⟨RL', hRL'⟩ : ∃ z, z = (xs.map (fun z : XT => z.1)).getLast?.elim (sT RL2 j 5 (some nc)) (fun _ => RL2) := ⟨_, rfl⟩
            rw [← hR', ← hRL']
            rw [hgl] at hR' hRL'
            have eR : ∀ q c, (c ≠ 14 ∨ ∀ z, xs.getLast? = some z → q ≠ z.1) → R' q c = R2 q c := fun q c h => by
              rw [hR']
              rcases hx : xs.getLast? with _ | z
              · rfl
              · rw [hx] at h
                exact sT_ne (fun w => h.elim (fun y => y w.2) (fun y => y z rfl w.1))
            have eRL : ∀ q c, q ≠ j → RL' q c = RL2 q c := fun q c h => by
              rw [hRL']
              rcases hx : xs.getLast? with _ | z
              · exact sT_ne (fun w => h w.1)
              · rfl
            have hA3 : ∀ k, 1 ≤ k → k ≤ 15 → ∀ m, m < nc + lc → m ≠ i0 + j → (k ≠ 7 ∨ ∀ z, xs.getLast? = some z → m ≠ xn z) → A3 k m = A k m := fun k k1' k2' m hm hmu h7 => by
              rw [m1 k k1' k2' m hm, ← k1.2.1 k k1' k2' m hm]
              by_cases k6 : k = 6
              · rw [k6]; exact f6 _ hmu
              · by_cases k7 : k = 7
                · rw [k7]; exact f7 _ (h7.elim (fun y => absurd k7 y) id)
                · by_cases k14 : k = 14
                  · rw [k14]; exact f3 m (by omega)
                  · rw [f1 k k6 k7 k14 (by omega)]
            have hun : i0 + j < nc + lc := by omega
            have hAu : ∀ k, 1 ≤ k → k ≤ 15 → k ≠ 6 → A3 k (i0 + j) = A k (i0 + j) := fun k k1' k2' k6 => by
              rw [m1 k k1' k2' _ hun, ← k1.2.1 k k1' k2' _ hun]
              by_cases k7 : k = 7
              · rw [k7]; exact f7 _ (fun z hz => by have := (hixl z hz).2.2.2.1; show i0 + j ≠ z.1 + z.2.1; omega)
              · by_cases k14 : k = 14
                · rw [k14]; exact f3 _ (by omega)
                · rw [f1 k k6 k7 k14 (by omega)]
            have hP2 : PLn (d + 1) i0 j C2 R' CL2 RL' A3 nc2 lc2 (xs ++ [(nc, lc, nc2, lc2)]) (so ++ [t6]) := by
              refine PLn_step hP I3 ht6 ?_ ?_ ?_ ?_ ?_ ?_ hR2 hL2 hA3 (fun w => ⟨?_, ?_⟩) (fun z hz => ⟨?_, ?_, ?_, ?_⟩) eR eRL
              · exact (kq nc 6 (by omega) (by omega)).2.trans r6
              · exact (kq nc 14 (by omega) (by omega)).2.trans r12.2.2
              · rw [m2 4 (by decide) (by decide) (by decide) (by decide), hnew 4 (by decide) (by decide)]; exact r4
              · rw [m2 7 (by decide) (by decide) (by decide) (by decide), hnew 7 (by decide) (by decide)]; exact r7.1
              · rw [m2 14 (by decide) (by decide) (by decide) (by decide)]; exact f2
              · rw [m2 15 (by decide) (by decide) (by decide) (by decide), hnew 15 (by decide) (by decide)]; exact r7.2.2.2
              · rw [m1 6 (by decide) (by decide) _ hun]; exact f8 w
              · rw [hRL', w]; exact sT_same
              · rw [m1 6 (by decide) (by decide) _ hun, (f9 z hz).1, k1.2.1 6 (by decide) (by decide) _ hun]
              · rw [hRL', hz]; rfl
              · rw [m1 7 (by decide) (by decide) _ (hz0 z hz)]; exact (f9 z hz).2
              · rw [hR', hz]; exact sT_same
            have hlast : (xs ++ [((nc, lc, nc2, lc2) : XT)]).getLast? = some (nc, lc, nc2, lc2) := List.getLast?_concat
            have hF3 : ∀ q, 16 ≤ q → q ≤ 19 → ∀ p, p < o + 1 → (q ≠ 19 ∨ p ≠ o) → A3 q p = A q p := fun q q1 q2 p hp h9 => by
              rw [m3 q q1 q2 p hp, ← k1.2.2 q q1 q2 p hp]
              by_cases q19 : q = 19
              · rw [q19]; exact f5 p (h9.elim (fun y => absurd q19 y) id)
              · rw [f1 q (by omega) (by omega) (by omega) q19]
            obtain ⟨J1, J2⟩ := line_ok hL9 hG (by rw [Nat.add_sub_cancel]; exact hG1) hO t nc2 lc2 b2' C2 R' CL2 RL' A3 a3 (xs ++ [(nc, lc, nc2, lc2)]) (so ++ [t6]) z3 (r3.I (rz_J_ok hL9) hI2) kn kl (by omega) ka s3 (by rw [Nat.add_sub_cancel, hF3 16 (by decide) (by decide) o (by omega) (Or.inl (by decide))]; exact h16) (by rw [Nat.add_sub_cancel, hF3 18 (by decide) (by decide) o (by omega) (Or.inl (by decide))]; exact h18) (by rw [Nat.add_sub_cancel, m3 19 (by decide) (by decide) o (by omega), f4, hlast]; rfl) hP2 ⟨(hAu 1 (by decide) (by decide) (by decide)).trans hu.1, (hAu 10 (by decide) (by decide) (by decide)).trans hu.2.1, (hAu 11 (by decide) (by decide) (by decide)).trans hu.2.2.1, (hAu 12 (by decide) (by decide) (by decide)).trans hu.2.2.2.1, (hAu 13 (by decide) (by decide) (by decide)).trans hu.2.2.2.2⟩ (fun z hz => by
                rw [hlast] at hz
                cases hz
                exact ⟨fun y => by rw [eR nc 12 (Or.inl (by decide))]; exact m4 y, fun y => by rw [eR nc 13 (Or.inl (by decide))]; exact m5 y⟩) (by rw [List.length_append]; show xs.length + 1 + t = 61; omega)
            rw [Nat.add_sub_cancel] at J1 J2
            have r13 := r1.trans r3
            refine ⟨fun y => r13.bad (J1 y), fun nc4 lc4 b4 C4 R4 CL4 RL4 y => ?_⟩
            obtain ⟨A5, a5, r5', s5, z5, I5, n1', n2', n3', n4'⟩ := J2 nc4 lc4 b4 C4 R4 CL4 RL4 y
            refine ⟨A5, a5, r13.trans r5', s5, z5, I5, fun q q1 q2 m hm => ?_, fun q q1 q2 q6 => ?_, fun q q1 q2 p hp h9 => ?_, n4'⟩
            · rw [n1' q q1 q2 m hm]
              exact hA3 q q1 q2 m (by omega) (by omega) (Or.inr fun z hz => by have := (hixl z hz).2.2.2.1; show m ≠ z.1 + z.2.1; omega)
            · rw [n2' q q1 q2 q6]; exact hAu q q1 q2 q6
            · rw [n3' q q1 q2 p hp h9]
              rw [Nat.add_sub_cancel] at h9
              exact hF3 q q1 q2 p hp h9
/-- a whole line -/
theorem line_all {f : Nat → Int32} {L D O nc lc a : Nat} {C : Nat → Nat → Int32} {R : Nat → Nat → Option Nat} {CL : Nat → Nat → Int32} {RL : Nat → Nat → Option Nat} {A : Nat → Nat → Int32} {a' : Nat} (hL9 : L ≤ 160) (hG : GN f L D) (hG1 : GN f L (D - 1)) (hO : O + D = 8) (hA : A 0 = f) (hI : rz_I L (A, a', 0, nc + (lc + 1), nc, O)) (hn : nc ≤ 60) (hla : lc ≤ a) (ha : a ≤ L) (hs : sk f L a' = sk f L a) (h16 : A 16 (O - 1) ≤ 3) (h18 : A 18 (O - 1) = nI (nc + lc)) (h19 : A 19 (O - 1) = 0) (hu : A 1 (nc + lc) = 0 ∧ A 10 (nc + lc) = 0 ∧ A 11 (nc + lc) = 0 ∧ A 12 (nc + lc) = 0 ∧ A 13 (nc + lc) = 0) (hu6 : A 6 (nc + lc) = 0) :
    (pL f L D (nc, lc, a, C, R, CL, RL) = none → Bad L (A, a', 0, nc + (lc + 1), nc, O)) ∧ ∀ (nc1 lc1 a1 : Nat) (C1 : Nat → Nat → Int32) (R1 : Nat → Nat → Option Nat) (CL1 : Nat → Nat → Int32) (RL1 : Nat → Nat → Option Nat), pL f L D (nc, lc, a, C, R, CL, RL) = some (nc1, lc1, a1, C1, R1, CL1, RL1) → ∃ (A1 : Nat → Nat → Int32) (a2 : Nat), Rch L (A, a', 0, nc + (lc + 1), nc, O) (A1, a2, 0, nc1 + lc1, nc1, O) ∧ sk f L a2 = sk f L a1 ∧ A1 0 = f ∧ SL R1 RL1 A1 (SN C1 R1 CL1 RL1 A1 D) (nc, lc, nc1, lc1) ∧ (∀ q, 1 ≤ q → q ≤ 15 → ∀ m, m < nc + lc → A1 q m = A q m) ∧ (∀ q, 1 ≤ q → q ≤ 15 → q ≠ 6 → A1 q (nc + lc) = A q (nc + lc)) ∧ (∀ q, 16 ≤ q → q ≤ 19 → ∀ p, p < O → (q ≠ 19 ∨ p ≠ O - 1) → A1 q p = A q p) ∧ lend f L (sk f L a1) := by
  have e : pL f L D (nc, lc, a, C, R, CL, RL) = pLine f L (pN f L D) (pN f L (D - 1)) lc 61 [] (nc, lc + 1, a, C, R, li_c CL lc, nu_r RL lc) := by
    show pLn f L (pN f L D) (pN f L (D - 1)) (nc, lc, a, C, R, CL, RL) = _
    rw [pLn, if_pos (by omega)]
  rw [e]
  exact line_ok (i0 := nc) (j := lc) hL9 hG hG1 hO 61 nc (lc + 1) a C R (li_c CL lc) (nu_r RL lc) A a' [] [] hA hI hn (by omega) (by omega) ha hs h16 h18 h19 ⟨⟨rfl, rfl⟩, fun q hq => absurd hq List.not_mem_nil, congrFun upT_same 5, hu6, trivial, trivial, rfl, fun s hs => absurd hs List.not_mem_nil, rfl⟩ hu (fun z hz => by cases hz) rfl
