/-! Pure: scripts come out alike. By hand. -/
theorem chn_app : ∀ (xs : List XT) (i l i1 l1 i2 l2 : Nat), chn i l xs i1 l1 → chn i l (xs ++ [(i1, l1, i2, l2)]) i2 l2
  | [], _, _, _, _, _, _, h => ⟨h.1.symm, h.2.symm, rfl, rfl⟩
  | _ :: t, _, _, _, _, _, _, h => ⟨h.1, h.2.1, chn_app t _ _ _ _ _ _ h.2.2⟩
/-- an item with one script more -/
theorem SI_new {C : Nat → Nat → Int32} {R : Nat → Nat → Option Nat} {CL : Nat → Nat → Int32} {RL : Nat → Nat → Option Nat} {A C' : Nat → Nat → Int32} {R' : Nat → Nat → Option Nat} {CL' : Nat → Nat → Int32} {RL' : Nat → Nat → Option Nat} {A' : Nat → Nat → Int32} {D i l nc lc nc1 lc1 : Nat} (h : SI R A (SN C R CL RL A D) (i, l, nc, lc)) (g : agN C R CL RL A C' R' CL' RL' A' (i, l, nc, lc)) (hB : SB R' A' (SN C' R' CL' RL' A' D) (i + l) 1 (nc, lc, nc1, lc1)) :
    (R i 12 = none → R' i 12 = some nc → R' i 13 = R i 13 → A' 12 (i + l) = nI (nc + lc) → A' 13 (i + l) = A 13 (i + l) → SI R' A' (SN C' R' CL' RL' A' D) (i, l, nc1, lc1)) ∧ (R i 13 = none → R' i 13 = some nc → R' i 12 = R i 12 → A' 13 (i + l) = nI (nc + lc) → A' 12 (i + l) = A 12 (i + l) → SI R' A' (SN C' R' CL' RL' A' D) (i, l, nc1, lc1)) := by
  obtain ⟨i1, l1, ou, ol, h1, h2, h3, h4, h5, h6, -, ys, hy1, hy2⟩ := h
  dsimp only at h1 h2 h3 h5 h6 hy1
  have hle := SN_le (C := C) (R := R) (CL := CL) (RL := RL) (A := A) D
  have l1' := hle _ _ _ _ h1
  have l2 := SN_le _ _ _ _ _ hB.1
  dsimp only at l2
  have P1 : SN C' R' CL' RL' A' D i l i1 l1 := SN_ag (C := C) (R := R) (CL := CL) (RL := RL) (A := A) D (i, l, i1, l1) h1 ⟨g.1, g.2.1, agF_sub g.2.2 (Nat.le_refl _) (Nat.le_refl _) h2.1 h2.2⟩
  have PB : ∀ q : XT, SB R A (SN C R CL RL A D) (i + l) 1 q → i1 ≤ q.1 → l1 ≤ q.2.1 → q.2.2.1 ≤ nc → q.2.2.2 ≤ lc → SB R' A' (SN C' R' CL' RL' A' D) (i + l) 1 q := fun q hq b1 b2 b3 b4 => SB_ag (C := C) (CL := CL) (RL := RL) (C' := C') (CL' := CL') (RL' := RL') hle (fun x => SN_ag D x) hq (agF_sub g.2.2 (by dsimp only; omega) (by dsimp only; omega) b3 b4)
  refine ⟨fun e1 e2 e3 e4 e5 => ?_, fun e1 e2 e3 e4 e5 => ?_⟩
  · have hou : ou = none := by rw [e1] at h3; exact Option.map_eq_none_iff.mp h3.1.symm
    refine ⟨i1, l1, some (nc, lc, nc1, lc1), ol, P1, ⟨by dsimp only; omega, by dsimp only; omega⟩, ⟨e2, e3.trans h3.2⟩, ⟨e4, e5.trans h4.2⟩, fun q hq => ?_, fun q hq => ?_, fun q p hq hp => ?_, ys ++ [(nc, lc, nc1, lc1)], chn_app ys _ _ _ _ _ _ hy1, Or.inr ?_⟩
    · obtain rfl := Option.some.inj hq
      exact ⟨hB, h2.1, h2.2, Nat.le_refl _, Nat.le_refl _⟩
    · obtain ⟨b1, b2, b3, b4, b5⟩ := h6 q hq
      exact ⟨PB q b1 b2 b3 b4 b5, b2, b3, by dsimp only; omega, by dsimp only; omega⟩
    · obtain rfl := Option.some.inj hq
      obtain ⟨b1, b2, b3, b4, b5⟩ := h6 p hp
      exact Or.inr ⟨b4, b5⟩
    · rcases hy2 with e | e
      · rw [e, hou]; rfl
      · rw [e, hou]; simp
  · have hol : ol = none := by rw [e1] at h3; exact Option.map_eq_none_iff.mp h3.2.symm
    refine ⟨i1, l1, ou, some (nc, lc, nc1, lc1), P1, ⟨by dsimp only; omega, by dsimp only; omega⟩, ⟨e3.trans h3.1, e2⟩, ⟨e5.trans h4.1, e4⟩, fun q hq => ?_, fun q hq => ?_, fun q p hq hp => ?_, ys ++ [(nc, lc, nc1, lc1)], chn_app ys _ _ _ _ _ _ hy1, Or.inl ?_⟩
    · obtain ⟨b1, b2, b3, b4, b5⟩ := h5 q hq
      exact ⟨PB q b1 b2 b3 b4 b5, b2, b3, by dsimp only; omega, by dsimp only; omega⟩
    · obtain rfl := Option.some.inj hq
      exact ⟨hB, h2.1, h2.2, Nat.le_refl _, Nat.le_refl _⟩
    · obtain rfl := Option.some.inj hp
      obtain ⟨b1, b2, b3, b4, b5⟩ := h5 q hq
      exact Or.inl ⟨b4, b5⟩
    · rcases hy2 with e | e
      · rw [e, hol]; simp
      · rw [e, hol]; rfl
/-- one script: c 94 (u 12, w 6) or 95 (u 13, w 7) -/
theorem scr_one {f : Nat → Int32} {L d i l nc lc a : Nat} {C : Nat → Nat → Int32} {R : Nat → Nat → Option Nat} {CL : Nat → Nat → Int32} {RL : Nat → Nat → Option Nat} {A : Nat → Nat → Int32} {a' O : Nat} (hL9 : L ≤ 160) (hG : GN f L d) (hO : O + (d + 1) = 8) (hA : A 0 = f) (hI : rz_I L (A, a', 0, nc + lc, nc, O)) (hn : nc ≤ 60) (hlc : lc ≤ 161) (hla : lc ≤ a + 1) (hs : sk f L a' = sk f L a) (h16 : A 16 (O - 1) ≤ 3) (h19 : A 19 (O - 1) = nI (i + l)) (hil : 0 < i + l) (hS : SI R A (SN C R CL RL A (d + 1)) (i, l, nc, lc)) (c w : Int32) (u : Nat) (hcw : (c = 94 ∧ w = 6 ∧ u = 12) ∨ (c = 95 ∧ w = 7 ∧ u = 13)) (hc : hre f L (sk f L a) = c) :
    (¬ R i u = none → Bad L (A, a', 0, nc + lc, nc, O)) ∧ (R i u = none → (pN f L d (nc, lc, sk f L a + 1, C, R, CL, RL) = none → Bad L (A, a', 0, nc + lc, nc, O)) ∧ ∀ (nc1 lc1 a1 : Nat) (C1 : Nat → Nat → Int32) (R1 : Nat → Nat → Option Nat) (CL1 : Nat → Nat → Int32) (RL1 : Nat → Nat → Option Nat), pN f L d (nc, lc, sk f L a + 1, C, R, CL, RL) = some (nc1, lc1, a1, C1, R1, CL1, RL1) → ∃ (A1 : Nat → Nat → Int32) (a2 : Nat), Rch L (A, a', 0, nc + lc, nc, O) (A1, a2, 0, nc1 + lc1, nc1, O) ∧ sk f L a2 = sk f L a1 ∧ A1 0 = f ∧ SI (sT R1 i u (some nc)) A1 (SN C1 (sT R1 i u (some nc)) CL1 RL1 A1 (d + 1)) (i, l, nc1, lc1) ∧ (∀ q, 1 ≤ q → q ≤ 15 → ∀ m, m < i + l → A1 q m = A q m) ∧ (∀ q, 1 ≤ q → q ≤ 15 → q ≠ 12 → q ≠ 13 → A1 q (i + l) = A q (i + l)) ∧ (∀ q, 16 ≤ q → q ≤ 19 → ∀ j, j < O → A1 q j = A q j)) := by
  obtain ⟨hB, -, hN2, haL⟩ := rz_I_to hI
  have hO1 : 1 ≤ O := hB.1
  have hlt : sk f L a < L := hre_lt (by rw [hc]; rcases hcw with ⟨z, -⟩ | ⟨z, -⟩ <;> rw [z] <;> decide)
  have hle := SN_le (C := C) (R := R) (CL := CL) (RL := RL) (A := A) (d + 1)
  have hxl := SI_le hle hS
  dsimp only at hxl
  have hix : ixI (nI (i + l)) = i + l := nI_clamp (by omega)
  have h190 : ¬ A 19 (O - 1) = 0 := fun z => by
    rw [h19] at z
    rw [z] at hix
    have : ixI 0 = 0 := rfl
    omega
  have r0 := Rch.step (L := L) (A := A) (a := a') (N := nc + lc) (U := nc) (O := O) (by rw [hA, hs]; exact hlt)
  rw [hA, hs, rz_step_in h16 (in_scr hA (by rw [hc]; rcases hcw with ⟨z, -⟩ | ⟨z, -⟩ <;> rw [z] <;> decide)), hc] at r0
  unfold rz_script at r0
  have ew : (if c = 94 then (6 : Int32) else 7) = w := by rcases hcw with ⟨z, z2, -⟩ | ⟨z, z2, -⟩ <;> rw [z, z2] <;> decide
  rw [ew] at r0
  have esw : rz_sw A O c = if 0 < A u (i + l) then 1 else 0 := by
    show (if A 19 (O - 1) = 0 ∨ 0 < (if c = 94 then A 12 (ixI (A 19 (O - 1))) else A 13 (ixI (A 19 (O - 1)))) then (1 : Int32) else 0) = _
    rw [h19, hix]
    have hz : ¬ nI (i + l) = 0 := by rw [← h19]; exact h190
    rcases hcw with ⟨z, -, z3⟩ | ⟨z, -, z3⟩
    · rw [z, z3, show (if (94 : Int32) = 94 then A 12 (i + l) else A 13 (i + l)) = A 12 (i + l) from if_pos rfl]
      by_cases q : 0 < A 12 (i + l)
      · rw [if_pos (Or.inr q), if_pos q]
      · rw [if_neg (fun w => w.elim hz q), if_neg q]
    · rw [z, z3, show (if (95 : Int32) = 94 then A 12 (i + l) else A 13 (i + l)) = A 13 (i + l) from if_neg (by decide)]
      by_cases q : 0 < A 13 (i + l)
      · rw [if_pos (Or.inr q), if_pos q]
      · rw [if_neg (fun w => w.elim hz q), if_neg q]
  rw [esw] at r0
  have hS9 := hS
  obtain ⟨i1, l1, ou, ol, g1, g2, g3, g4, g5, g6, g7⟩ := hS
  dsimp only at g1 g2 g3 g5 g6
  have gl := hle _ _ _ _ g1
  obtain ⟨o, ho1, ho2, ho3⟩ : ∃ o : Option XT, R i u = o.map (fun z => z.1) ∧ A u (i + l) = nI (xo o) ∧ ∀ q, o = some q → i1 ≤ q.1 ∧ l1 ≤ q.2.1 ∧ q.2.2.1 ≤ nc ∧ q.2.2.2 ≤ lc ∧ q.1 < q.2.2.1 ∧ q.2.1 ≤ q.2.2.2 := by
    rcases hcw with ⟨-, -, z3⟩ | ⟨-, -, z3⟩
    · rw [z3]
      exact ⟨ou, g3.1, g4.1, fun q hq => by have b := g5 q hq; have b2 := hle _ _ _ _ b.1.1; exact ⟨b.2.1, b.2.2.1, b.2.2.2.1, b.2.2.2.2, b2.1, b2.2⟩⟩
    · rw [z3]
      exact ⟨ol, g3.2, g4.2, fun q hq => by have b := g6 q hq; have b2 := hle _ _ _ _ b.1.1; exact ⟨b.2.1, b.2.2.1, b.2.2.2.1, b.2.2.2.2, b2.1, b2.2⟩⟩
  refine ⟨fun e => ?_, fun e => ?_⟩
  · rcases ho : o with _ | q
    · rw [ho] at ho1; exact absurd ho1 e
    · have b := ho3 q ho
      rw [ho] at ho2
      have hp : 0 < A u (i + l) := by
        rw [ho2]
        exact (nI_ltI (a := 0) (b := q.1 + q.2.1) (by decide) (by omega)).mpr (by omega)
      rw [if_pos hp] at r0
      exact r0.bad (Bad.wrong rfl)
  · rw [e] at ho1
    have ho := Option.map_eq_none_iff.mp ho1.symm
    rw [ho] at ho2
    have hp : ¬ 0 < A u (i + l) := by rw [ho2]; decide
    rw [if_neg hp] at r0
    obtain ⟨A2, hA2⟩ : ∃ z, z = rf_push A O w (A 19 (O - 1)) 0 := ⟨_, rfl⟩
    rw [← hA2] at r0
    have hI2 := r0.I (rz_J_ok hL9) hI
    have h20 : A2 0 = f := by rw [hA2, push_k (by decide)]; exact hA
    have h216 : A2 16 O = w := by rw [hA2]; exact push_new.1
    have h217 : A2 17 O = nI (i + l) := by rw [hA2]; exact push_new.2.1.trans h19
    have hkp2 : kpt2 A A2 (nc + lc) O := by rw [hA2]; exact push_kpt
    have hw67 : w = 6 ∨ w = 7 := by rcases hcw with ⟨-, z, -⟩ | ⟨-, z, -⟩ <;> simp [z]
    have hw3 : ¬ w ≤ 3 := by rcases hw67 with z | z <;> rw [z] <;> decide
    obtain ⟨G1, G2⟩ := hG nc lc (sk f L a + 1) C R CL RL A2 (sk f L a + 1) (O + 1) h20 hI2 (by omega) hn hlt (by have q2 := sk_g f L a; omega) rfl (Or.inl (by rw [Nat.add_sub_cancel, h216]; exact hw3))
    refine ⟨fun z => r0.bad (G1 z), fun nc1 lc1 a1 C1 R1 CL1 RL1 z => ?_⟩
    obtain ⟨A3, a3, r2, s2, k2, n2, rt2⟩ := G2 nc1 lc1 a1 C1 R1 CL1 RL1 z
    have hle2 := SN_le _ _ _ _ _ n2
    have hkeep := (pN_gK f L d).1 _ _ (show nc ≤ 60 from hn) (show lc ≤ 161 from hlc) (show sk f L a + 1 ≤ L from hlt) z
    have hrK : ∀ q c, q < nc → C1 q c = C q c ∧ R1 q c = R q c := fun q c hq => hkeep.2.2.2.2.2.1 q c hq (fun z => z)
    have hlK : ∀ q c, q < lc → CL1 q c = CL q c ∧ RL1 q c = RL q c := fun q c hq => hkeep.2.2.2.2.2.2 q c hq
    have h316 : A3 16 O = w := (k2.2.2 16 (by decide) (by decide) O (by omega)).trans h216
    have h317 : A3 17 O = nI (i + l) := (k2.2.2 17 (by decide) (by decide) O (by omega)).trans h217
    have hix3 : ixI (A3 17 O) = i + l := by rw [h317]; exact hix
    have hD := ds_facts (n := nc + lc) hix3 h317 (by rw [h316]; exact hw67)
    rw [del_scr (n := nc + lc) (by rw [h316]; exact hw67)] at r2
    have kp3 := hkp2.trans k2 (Nat.le_refl _) (by omega)
    obtain ⟨A4, hA4⟩ : ∃ z, z = rf_ds A3 O (nc + lc) := ⟨_, rfl⟩
    rw [← hA4] at hD r2
    have h4old : ∀ m, m ≠ nc + lc → m ≠ i + l → ∀ q, A4 q m = A3 q m := fun m m1 m2 q => by
      by_cases c12 : q = 12
      · rw [c12]; exact hD.2.2.2.2.2.2.1 m m2
      · by_cases c13 : q = 13
        · rw [c13]; exact hD.2.2.2.2.2.2.2.2 m m2
        · by_cases c14 : q = 14
          · rw [c14]; exact hD.2.2.1 m m1
          · by_cases c15 : q = 15
            · rw [c15]; exact hD.2.2.2.2.1 m m1
            · rw [hD.1 q c12 c13 c14 c15]
    have h4n : ∀ q, q ≠ 14 → q ≠ 15 → A4 q (nc + lc) = A3 q (nc + lc) := fun q q14 q15 => by
      by_cases c12 : q = 12
      · rw [c12]; exact hD.2.2.2.2.2.2.1 _ (by omega)
      · by_cases c13 : q = 13
        · rw [c13]; exact hD.2.2.2.2.2.2.2.2 _ (by omega)
        · rw [hD.1 q c12 c13 q14 q15]
    have h4u : ∀ q, q ≠ 12 → q ≠ 13 → A4 q (i + l) = A3 q (i + l) := fun q q12 q13 => by
      by_cases c14 : q = 14
      · rw [c14]; exact hD.2.2.1 _ (by omega)
      · by_cases c15 : q = 15
        · rw [c15]; exact hD.2.2.2.2.1 _ (by omega)
        · rw [hD.1 q q12 q13 c14 c15]
    have h3A : ∀ q, 1 ≤ q → q ≤ 15 → ∀ m, m < nc + lc → A3 q m = A q m := fun q q1 q2 m hm => kp3.2.1 q q1 q2 m hm
    refine ⟨A4, a3, r0.trans r2, s2, ?_, ?_, fun q q1 q2 m hm => ?_, fun q q1 q2 q12 q13 => ?_, fun q q1 q2 j hj => ?_⟩
    · rw [hD.1 0 (by decide) (by decide) (by decide) (by decide), kp3.1]; exact hA
    · have hag : agN C R CL RL A C1 (sT R1 i u (some nc)) CL1 RL1 A4 (i, l, nc, lc) := by
        refine ⟨⟨(hrK i 7 hxl.1).1, (hrK i 8 hxl.1).1, fun k hk => ?_⟩, fun k hk => ?_, fun q b1 b2 => ⟨(hrK q 7 b2).1, (hrK q 8 b2).1, fun k => ?_⟩, fun j b1 b2 => ⟨(hlK j 6 b2).1, (hlK j 7 b2).1, (hlK j 5 b2).2, (hlK j 8 b2).2⟩, fun m b1 b2 k k1 k2 => ?_⟩
        · exact (sT_ne (by rcases hcw with ⟨-, -, z⟩ | ⟨-, -, z⟩ <;> omega)).trans (hrK i k hxl.1).2
        · show A4 k (i + l) = A k (i + l)
          rw [h4u k (by omega) (by omega)]
          exact h3A k (by omega) (by omega) _ (by omega)
        · dsimp only at b1 b2
          exact (sT_ne (by omega)).trans (hrK q k b2).2
        · have b1 : i + 1 + l ≤ m := b1
          have b2 : m < nc + lc := b2
          rw [h4old m (by omega) (by omega)]
          exact h3A k k1 k2 m b2
      have hSB : SB (sT R1 i u (some nc)) A4 (SN C1 (sT R1 i u (some nc)) CL1 RL1 A4 (d + 1)) (i + l) 1 (nc, lc, nc1, lc1) := by
        obtain ⟨t2, -, -, -, q1, q2, -⟩ := rt2
        refine ⟨SN_mono _ _ _ _ _ (SN_ag (C := C1) (R := R1) (CL := CL1) (RL := RL1) (A := A3) d (nc, lc, nc1, lc1) n2 ⟨⟨rfl, rfl, fun k _ => sT_ne (by dsimp only; omega)⟩, fun k hk => h4n k (by omega) (by omega), fun q b1 b2 => ⟨rfl, rfl, fun k => sT_ne (by dsimp only at b1; omega)⟩, fun j b1 b2 => ⟨rfl, rfl, rfl, rfl⟩, fun m b1 b2 k k1 k2 => ?_⟩), ⟨(sT_ne (by dsimp only; omega)).trans q1.1, (sT_ne (by dsimp only; omega)).trans q1.2.1⟩, ⟨(h4n 12 (by decide) (by decide)).trans q2.2.1, (h4n 13 (by decide) (by decide)).trans q2.2.2.1⟩, hD.2.1, hD.2.2.2.1⟩
        have b1 : nc + 1 + lc ≤ m := b1
        exact h4old m (by omega) (by omega) k
      have hN := SI_new hS9 hag hSB
      rcases hcw with ⟨-, z2, z3⟩ | ⟨-, z2, z3⟩
      · subst z3
        refine hN.1 e sT_same ((sT_ne (by omega)).trans (hrK i 13 hxl.1).2) ?_ ?_
        · rw [hD.2.2.2.2.2.1, h316, if_pos z2]
        · rw [hD.2.2.2.2.2.2.2.1, h316, z2, if_neg (by decide)]; exact h3A 13 (by decide) (by decide) _ (by omega)
      · subst z3
        refine hN.2 e sT_same ((sT_ne (by omega)).trans (hrK i 12 hxl.1).2) ?_ ?_
        · rw [hD.2.2.2.2.2.2.2.1, h316, if_pos z2]
        · rw [hD.2.2.2.2.2.1, h316, z2, if_neg (by decide)]; exact h3A 12 (by decide) (by decide) _ (by omega)
    · rw [h4old m (by omega) (by omega)]; exact h3A q q1 q2 m (by omega)
    · rw [h4u q q12 q13]; exact h3A q q1 q2 _ (by omega)
    · rw [hD.1 q (by omega) (by omega) (by omega) (by omega)]; exact kp3.2.2 q q1 q2 j hj
/-- how many scripts may still come -/
def opn (o : Option Nat) : Nat := if o = none then 1 else 0
theorem scr_ok {f : Nat → Int32} {L d i l O : Nat} (hL9 : L ≤ 160) (hG : GN f L d) (hO : O + (d + 1) = 8) (hil : 0 < i + l) : ∀ (k nc lc a : Nat) (C : Nat → Nat → Int32) (R : Nat → Nat → Option Nat) (CL : Nat → Nat → Int32) (RL : Nat → Nat → Option Nat) (A : Nat → Nat → Int32) (a' : Nat), A 0 = f → rz_I L (A, a', 0, nc + lc, nc, O) → nc ≤ 60 → lc ≤ 161 → lc ≤ a + 1 → a ≤ L → sk f L a' = sk f L a → A 16 (O - 1) ≤ 3 → A 19 (O - 1) = nI (i + l) → SI R A (SN C R CL RL A (d + 1)) (i, l, nc, lc) → opn (R i 12) + opn (R i 13) ≤ k →
    (pScr f L (pN f L d) i k (nc, lc, a, C, R, CL, RL) = none → Bad L (A, a', 0, nc + lc, nc, O)) ∧ ∀ (nc1 lc1 a1 : Nat) (C1 : Nat → Nat → Int32) (R1 : Nat → Nat → Option Nat) (CL1 : Nat → Nat → Int32) (RL1 : Nat → Nat → Option Nat), pScr f L (pN f L d) i k (nc, lc, a, C, R, CL, RL) = some (nc1, lc1, a1, C1, R1, CL1, RL1) → ∃ (A1 : Nat → Nat → Int32) (a2 : Nat), Rch L (A, a', 0, nc + lc, nc, O) (A1, a2, 0, nc1 + lc1, nc1, O) ∧ sk f L a2 = sk f L a1 ∧ A1 0 = f ∧ SI R1 A1 (SN C1 R1 CL1 RL1 A1 (d + 1)) (i, l, nc1, lc1) ∧ (∀ q, 1 ≤ q → q ≤ 15 → ∀ m, m < i + l → A1 q m = A q m) ∧ (∀ q, 1 ≤ q → q ≤ 15 → q ≠ 12 → q ≠ 13 → A1 q (i + l) = A q (i + l)) ∧ (∀ q, 16 ≤ q → q ≤ 19 → ∀ j, j < O → A1 q j = A q j) ∧ (hre f L (sk f L a1) = 94 → ¬ R1 i 12 = none) ∧ (hre f L (sk f L a1) = 95 → ¬ R1 i 13 = none)
  | 0, nc, lc, a, C, R, CL, RL, A, a', hA, hI, hn, hlc, hla, ha, hs, h16, h19, hS, hk => by
    refine ⟨fun e => (nomatch e), fun nc1 lc1 a1 C1 R1 CL1 RL1 e => ?_⟩
    cases e
    unfold opn at hk
    refine ⟨A, a', Rch.refl _, hs, hA, hS, fun _ _ _ _ _ => rfl, fun _ _ _ _ _ => rfl, fun _ _ _ _ _ => rfl, fun _ z => ?_, fun _ z => ?_⟩
    · rw [if_pos z] at hk; omega
    · rw [if_pos z] at hk; omega
  | k + 1, nc, lc, a, C, R, CL, RL, A, a', hA, hI, hn, hlc, hla, ha, hs, h16, h19, hS, hk => by
    have hle := SN_le (C := C) (R := R) (CL := CL) (RL := RL) (A := A) (d + 1)
    have hxl := SI_le hle hS
    dsimp only at hxl
    have hO1 : 1 ≤ O := (rz_I_to hI).1.1
    have key : ∀ (c w : Int32) (u u2 : Nat), ((c = 94 ∧ w = 6 ∧ u = 12) ∨ (c = 95 ∧ w = 7 ∧ u = 13)) → u + u2 = 25 → hre f L (sk f L a) = c → pScr f L (pN f L d) i (k + 1) (nc, lc, a, C, R, CL, RL) = (if R i u = none then (pN f L d (nc, lc, sk f L a + 1, C, R, CL, RL)).bind fun (nc1, lc1, a1, C1, R1, CL1, RL1) => pScr f L (pN f L d) i k (nc1, lc1, a1, C1, sT R1 i u (some nc), CL1, RL1) else none) →
      (pScr f L (pN f L d) i (k + 1) (nc, lc, a, C, R, CL, RL) = none → Bad L (A, a', 0, nc + lc, nc, O)) ∧ ∀ (nc1 lc1 a1 : Nat) (C1 : Nat → Nat → Int32) (R1 : Nat → Nat → Option Nat) (CL1 : Nat → Nat → Int32) (RL1 : Nat → Nat → Option Nat), pScr f L (pN f L d) i (k + 1) (nc, lc, a, C, R, CL, RL) = some (nc1, lc1, a1, C1, R1, CL1, RL1) → ∃ (A1 : Nat → Nat → Int32) (a2 : Nat), Rch L (A, a', 0, nc + lc, nc, O) (A1, a2, 0, nc1 + lc1, nc1, O) ∧ sk f L a2 = sk f L a1 ∧ A1 0 = f ∧ SI R1 A1 (SN C1 R1 CL1 RL1 A1 (d + 1)) (i, l, nc1, lc1) ∧ (∀ q, 1 ≤ q → q ≤ 15 → ∀ m, m < i + l → A1 q m = A q m) ∧ (∀ q, 1 ≤ q → q ≤ 15 → q ≠ 12 → q ≠ 13 → A1 q (i + l) = A q (i + l)) ∧ (∀ q, 16 ≤ q → q ≤ 19 → ∀ j, j < O → A1 q j = A q j) ∧ (hre f L (sk f L a1) = 94 → ¬ R1 i 12 = none) ∧ (hre f L (sk f L a1) = 95 → ¬ R1 i 13 = none) := by
      intro c w u u2 hcw hu2 hc ep
      obtain ⟨B1, B2⟩ := scr_one hL9 hG hO hA hI hn hlc hla hs h16 h19 hil hS c w u hcw hc
      have hlt : sk f L a < L := hre_lt (by rw [hc]; rcases hcw with ⟨z, -⟩ | ⟨z, -⟩ <;> rw [z] <;> decide)
      rw [ep]
      by_cases eR : R i u = none
      · rw [if_pos eR]
        obtain ⟨B3, B4⟩ := B2 eR
        rcases e : pN f L d (nc, lc, sk f L a + 1, C, R, CL, RL) with _ | ⟨nc1, lc1, a1, C1, R1, CL1, RL1⟩
        · exact ⟨fun _ => B3 e, fun _ _ _ _ _ _ _ z => by cases z⟩
        · rw [Option.bind_some]
          obtain ⟨A1, a2, r1, s1, z1, I1, k1, k2, k3⟩ := B4 nc1 lc1 a1 C1 R1 CL1 RL1 e
          have hkeep := (pN_gK f L d).1 _ _ (show nc ≤ 60 from hn) (show lc ≤ 161 from hlc) (show sk f L a + 1 ≤ L from hlt) e
          have hR1 : R1 i u2 = R i u2 := (hkeep.2.2.2.2.2.1 i u2 hxl.1 (fun z => z)).2
          have hk' : opn (sT R1 i u (some nc) i 12) + opn (sT R1 i u (some nc) i 13) ≤ k := by
            rcases hcw with ⟨-, -, z⟩ | ⟨-, -, z⟩
            · have z2 : u2 = 13 := by omega
              subst z; subst z2
              rw [sT_same, sT_ne (by omega), hR1]
              rw [eR] at hk
              have q1 : opn (none : Option Nat) = 1 := rfl
              have q2 : opn (some nc) = 0 := rfl
              omega
            · have z2 : u2 = 12 := by omega
              subst z; subst z2
              rw [sT_same, sT_ne (by omega), hR1]
              rw [eR] at hk
              have q1 : opn (none : Option Nat) = 1 := rfl
              have q2 : opn (some nc) = 0 := rfl
              omega
          obtain ⟨I3, I4⟩ := scr_ok hL9 hG hO hil k nc1 lc1 a1 C1 (sT R1 i u (some nc)) CL1 RL1 A1 a2 z1 (r1.I (rz_J_ok hL9) hI) hkeep.2.1 hkeep.2.2.2.1 (by have q0 := pN_gA f L d _ _ e; have q2 := sk_g f L a; dsimp only at q0; omega) hkeep.2.2.2.2.1 s1 (by rw [k3 16 (by decide) (by decide) _ (by omega)]; exact h16) (by rw [k3 19 (by decide) (by decide) _ (by omega)]; exact h19) I1 hk'
          refine ⟨fun z => r1.bad (I3 z), fun nc2 lc2 b2 C2 R2 CL2 RL2 z => ?_⟩
          obtain ⟨A5, a5, r5, s5, z5, I5, m1, m2, m3, m4, m5⟩ := I4 nc2 lc2 b2 C2 R2 CL2 RL2 z
          exact ⟨A5, a5, r1.trans r5, s5, z5, I5, fun q q1 q2 m hm => (m1 q q1 q2 m hm).trans (k1 q q1 q2 m hm), fun q q1 q2 q3 q4 => (m2 q q1 q2 q3 q4).trans (k2 q q1 q2 q3 q4), fun q q1 q2 j hj => (m3 q q1 q2 j hj).trans (k3 q q1 q2 j hj), m4, m5⟩
      · rw [if_neg eR]
        exact ⟨fun _ => B1 eR, fun _ _ _ _ _ _ _ z => by cases z⟩
    by_cases q : hre f L (sk f L a) = 94
    · exact key 94 6 12 13 (Or.inl ⟨rfl, rfl, rfl⟩) rfl q (by rw [pScr, if_pos q])
    · by_cases q2 : hre f L (sk f L a) = 95
      · exact key 95 7 13 12 (Or.inr ⟨rfl, rfl, rfl⟩) rfl q2 (by rw [pScr, if_neg q, if_pos q2])
      · have ep : pScr f L (pN f L d) i (k + 1) (nc, lc, a, C, R, CL, RL) = some (nc, lc, sk f L a, C, R, CL, RL) := by rw [pScr, if_neg q, if_neg q2]
        rw [ep]
        refine ⟨fun e => (nomatch e), fun nc1 lc1 a1 C1 R1 CL1 RL1 e => ?_⟩
        cases e
        have es : sk f L (sk f L a) = sk f L a := sk_id f L _ a rfl
        exact ⟨A, a', Rch.refl _, by rw [es]; exact hs, hA, hS, fun _ _ _ _ _ => rfl, fun _ _ _ _ _ => rfl, fun _ _ _ _ _ => rfl, fun z => absurd (by rw [es] at z; exact z) q, fun z => absurd (by rw [es] at z; exact z) q2⟩
