/-! Pure: the class's setting against the reference's arrays: groups and sides. By hand. -/
section
variable {C0 : Nat → Nat → Int32} {R : Nat → Nat → Option Nat} {CL0 : Nat → Nat → Int32} {RL : Nat → Nat → Option Nat} {B X : Nat → Nat → Int32} {N s0 : Nat}
theorem k_grp {d : Nat} (hR : RLd C0 CL0 X B R RL N d) (hF : FINX X B N s0) (hN9 : N ≤ 221) {x : XT} {t : TS} {si cr k : Nat} (h1 : X 1 (xn x) = 3) (hx0 : 0 < xn x) (hN : x.2.2.1 + x.2.2.2 ≤ N) (h10 : B 10 (xn x) = nI (xn x + 1)) (h11 : B 11 (xn x) = 0) (gL : SL R RL B (SN C0 R CL0 RL B d) (x.1 + 1, x.2.1, x.2.2.1, x.2.2.2)) (g14 : B 14 (xn x + 1) = nI (xn x)) (g15 : B 15 (xn x + 1) = 0) (h20 : X 20 (xn x) = nI si) (hs : si < 4) (h21 : X 21 (xn x) = nI cr) (hcr : cr < 2) (hk : 3 * (d + 1) ≤ k + 1) (hc : t.1 + 2 * (x.2.2.1 - x.1) ≤ 120) (hI : tI C0 CL0 t) : RK C0 CL0 X k x t (sGrp (sL R RL d) x.1 x.2.1 si cr t) := by
  have hle := SN_le (C := C0) (R := R) (CL := CL0) (RL := RL) (A := B) d
  have l1 := SL_le hle gL
  dsimp only at l1
  have en : xn (x.1 + 1, x.2.1, x.2.2.1, x.2.2.2) = xn x + 1 := by show (x.1 + 1) + x.2.1 = x.1 + x.2.1 + 1; omega
  have hn : xn x < N := by show x.1 + x.2.1 < N; omega
  have hn1 : xn x + 1 < N := by show x.1 + x.2.1 + 1 < N; omega
  obtain ⟨q20, q21, EH, E⟩ := hF.2.1 (xn x) hn
  have esi : ixI (X 20 (xn x)) = si := by rw [h20]; exact nI_clamp (by omega)
  have eo : ixI (X 10 (xn x)) = xn x + 1 := by rw [hF.1 10 (by decide), h10]; exact nI_clamp (show x.1 + x.2.1 + 1 < _ by omega)
  have EH5 := EH.2.2.2.2.1 (Or.inl h1)
  rw [eo, esi, h21] at EH5
  have P := hR (x.1 + 1, x.2.1, x.2.2.1, x.2.2.2) t si cr k gL hN (by rw [en]; exact EH5.1) hs (by rw [en]; exact EH5.2) hcr (by omega) (by dsimp only; omega) hI
  dsimp only at P
  unfold RLn at P
  rw [en] at P
  obtain ⟨⟨p1, p2, p3, p4, p5⟩, ⟨p6, p7, p8⟩, p9, p10⟩ := P
  dsimp only at p2 p6 p7 p8 p9 p10
  have E1 := E.1
  unfold EB at E1
  rw [h1, if_neg (by decide), if_neg (by decide), if_neg (by decide), if_pos rfl, eo] at E1
  obtain ⟨f22, f23, f24, f29, f30⟩ := E1
  have xy := exy_p hF hN9 hn (Nat.succ_pos _) hn1 g14 g15 (by rw [h1]; decide)
  rw [f29, f30] at xy
  have hwo : wo X k (xn x) = wl X k (xn x + 1) := by
    rw [wo_part (by rw [h1]; decide) eo (by omega) (by rw [hF.1 11 (by decide)]; exact h11), esi]
    have e1 : sayB X (xn x) si = [] := by
      unfold sayB
      rw [h1, if_neg (by decide), if_neg (by decide), if_neg (by decide), if_neg (by decide)]
    have e2 : sayH X (xn x) si = [] := by
      unfold sayH
      rw [h1, if_neg (by decide), if_neg (by decide), if_neg (by decide), if_neg (by decide)]
    rw [e1, e2, List.nil_append, List.append_nil]
  obtain ⟨ta, hta⟩ : ∃ z, z = sL R RL d t x.2.1 si cr := ⟨_, rfl⟩
  rw [← hta] at p1 p3 p4 p5 p6 p7 p8 p9 p10
  have eG : sGrp (sL R RL d) x.1 x.2.1 si cr t = (ta.1, ta.2.1, ta.2.2.1, ta.2.2.2.1, ta.2.2.2.2.1, ta.2.2.2.2.2.1, ta.2.2.2.2.2.2.1, meas (tC ta) x.1 (tL ta x.2.1 0) (tL ta x.2.1 1) (tL ta x.2.1 2), tL ta) := by
    unfold sGrp
    rw [← hta]
  rw [eG]
  unfold RK RG
  rw [hwo]
  refine ⟨⟨p1, by omega, ⟨p3.1, fun q j hq => ?_, fun j q hq => p3.2.2.1 j q hq, p3.2.2.2⟩, ⟨meas_5 p4.1, p4.2⟩, REL_e p5 ?_ ?_⟩, ⟨meas_v.1.trans ?_, meas_v.2.1.trans ?_, meas_v.2.2.1.trans ?_⟩, ?_⟩
  · show meas (tC ta) x.1 _ _ _ q j = tC t q j
    rw [meas_n (by omega)]; exact p3.2.1 q j (by dsimp only; omega)
  · rw [xy.1]; grind
  · rw [xy.2]; grind
  · rw [p6, f22]
  · rw [p7, f23]
  · rw [p8, f24]
  · show meas (tC ta) x.1 _ _ _ x.1 3 = tC t x.1 3
    rw [meas_v.2.2.2 3 (Nat.le_refl _)]; exact p3.2.1 x.1 3 (by dsimp only; omega)
theorem k_side {d : Nat} (hR : RLd C0 CL0 X B R RL N d) (hF : FINX X B N s0) (hN9 : N ≤ 221) {x : XT} {t : TS} {si cr k : Nat} (h1 : X 1 (xn x) = 8) (hx0 : 0 < xn x) (hN : x.2.2.1 + x.2.2.2 ≤ N) (h10 : B 10 (xn x) = nI (xn x + 1)) (h11 : B 11 (xn x) = 0) (gL : SL R RL B (SN C0 R CL0 RL B d) (x.1 + 1, x.2.1, x.2.2.1, x.2.2.2)) (g14 : B 14 (xn x + 1) = nI (xn x)) (g15 : B 15 (xn x + 1) = 0) (g2 : X 2 (xn x) = C0 x.1 7) (g3 : X 3 (xn x) = C0 x.1 8) (h20 : X 20 (xn x) = nI si) (hs : si < 4) (h21 : X 21 (xn x) = nI cr) (hcr : cr < 2) (hk : 3 * (d + 1) ≤ k + 1) (hc : t.1 + 2 * (x.2.2.1 - x.1) ≤ 120) (hI : tI C0 CL0 t) : RK C0 CL0 X k x t (sSide (sL R RL d) x.1 x.2.1 si cr t) := by
  have hle := SN_le (C := C0) (R := R) (CL := CL0) (RL := RL) (A := B) d
  have l1 := SL_le hle gL
  dsimp only at l1
  have en : xn (x.1 + 1, x.2.1, x.2.2.1, x.2.2.2) = xn x + 1 := by show (x.1 + 1) + x.2.1 = x.1 + x.2.1 + 1; omega
  have hn : xn x < N := by show x.1 + x.2.1 < N; omega
  have hn1 : xn x + 1 < N := by show x.1 + x.2.1 + 1 < N; omega
  obtain ⟨q20, q21, EH, E⟩ := hF.2.1 (xn x) hn
  have esi : ixI (X 20 (xn x)) = si := by rw [h20]; exact nI_clamp (by omega)
  have eo : ixI (X 10 (xn x)) = xn x + 1 := by rw [hF.1 10 (by decide), h10]; exact nI_clamp (show x.1 + x.2.1 + 1 < _ by omega)
  have EH5 := EH.2.2.2.2.1 (Or.inr h1)
  rw [eo, esi, h21] at EH5
  obtain ⟨c, F, W, H, D, ro, co, C, CL⟩ := t
  have hc : c + 2 * (x.2.2.1 - x.1) ≤ 120 := hc
  have e7 : C x.1 7 = X 2 (xn x) := by rw [g2]; exact hI.1 x.1 7 (by decide)
  have e8 : C x.1 8 = X 3 (xn x) := by rw [g3]; exact hI.1 x.1 8 (by decide)
  -- before the list
  obtain ⟨la, hla⟩ : ∃ z : List PT, z = sayB X (xn x) si := ⟨_, rfl⟩
  have ela : la = if X 2 (xn x) = 46 then [] else [(2, X 2 (xn x), X 31 (xn x) + X 28 (xn x), X 32 (xn x) + X 35 (xn x), X 34 (xn x), 4 * yS si)] := by
    rw [hla]; unfold sayB
    rw [h1, if_neg (by decide), if_neg (by decide), if_neg (by decide), if_pos rfl]
  obtain ⟨lb, hlb⟩ : ∃ z : List PT, z = sayH X (xn x) si := ⟨_, rfl⟩
  have elb : lb = if X 3 (xn x) = 46 then [] else [(2, X 3 (xn x), X 31 (xn x) + X 28 (xn x) + X 22 (xn x) - 4 * yS si, X 32 (xn x) + X 35 (xn x), X 34 (xn x), 4 * yS si)] := by
    rw [hlb]; unfold sayH
    rw [h1, if_neg (by decide), if_neg (by decide), if_neg (by decide), if_pos rfl]
  have nla : la.length ≤ 1 ∧ (X 2 (xn x) = 46 → la.length = 0) ∧ (¬ X 2 (xn x) = 46 → la.length = 1) := by
    rw [ela]
    by_cases c7 : X 2 (xn x) = 46
    · rw [if_pos c7]; exact ⟨by decide, fun _ => rfl, fun z => absurd c7 z⟩
    · rw [if_neg c7]; exact ⟨Nat.le_refl _, fun z => absurd z c7, fun _ => rfl⟩
  have nlb : lb.length ≤ 1 ∧ (X 3 (xn x) = 46 → lb.length = 0) ∧ (¬ X 3 (xn x) = 46 → lb.length = 1) := by
    rw [elb]
    by_cases c7 : X 3 (xn x) = 46
    · rw [if_pos c7]; exact ⟨by decide, fun _ => rfl, fun z => absurd c7 z⟩
    · rw [if_neg c7]; exact ⟨Nat.le_refl _, fun z => absurd z c7, fun _ => rfl⟩
  have ec0 : (if ¬ C x.1 7 = 46 then rsv c else c) = c + la.length := by
    rw [e7]
    by_cases c7 : X 2 (xn x) = 46
    · rw [if_neg (fun z => z c7), nla.2.1 c7]; rfl
    · rw [if_pos c7, nla.2.2 c7]; exact rsv_1 (by omega)
  obtain ⟨t0, ht0⟩ : ∃ z : TS, z = (if ¬ C x.1 7 = 46 then rsv c else c, F, W, H, D, ro, co, C, CL) := ⟨_, rfl⟩
  have ht01 : t0.1 = c + la.length := by rw [ht0]; exact ec0
  have P := hR (x.1 + 1, x.2.1, x.2.2.1, x.2.2.2) t0 si cr k gL hN (by rw [en]; exact EH5.1) hs (by rw [en]; exact EH5.2) hcr (by omega) (by dsimp only; omega) (by rw [ht0]; exact hI)
  dsimp only at P
  unfold RLn at P
  rw [en] at P
  obtain ⟨⟨p1, p2, p3, p4, p5⟩, ⟨p6, p7, p8⟩, p9, p10⟩ := P
  dsimp only at p2 p6 p7 p8 p9 p10
  obtain ⟨ta, hta⟩ : ∃ z, z = sL R RL d t0 x.2.1 si cr := ⟨_, rfl⟩
  rw [← hta] at p1 p3 p4 p5 p6 p7 p8 p9 p10
  have E1 := E.1
  unfold EB at E1
  rw [h1, if_neg (by decide), if_neg (by decide), if_neg (by decide), if_neg (by decide), if_neg (by decide), if_neg (by decide), if_pos rfl, eo, esi] at E1
  have n1213 : X 25 (xn x + 1) = X 22 (xn x + 1) ∧ X 26 (xn x + 1) = X 23 (xn x + 1) ∧ X 27 (xn x + 1) = X 24 (xn x + 1) ∧ X 28 (xn x + 1) = 0 := by
    have a := gL.1
    rw [en] at a
    exact no_sc (hF.2.1 (xn x + 1) hn1).2.2.2 (by rw [hF.1 12 (by decide)]; exact a.2.2.2.1) (by rw [hF.1 13 (by decide)]; exact a.2.2.2.2)
  rw [n1213.1, n1213.2.1, n1213.2.2.1] at E1
  obtain ⟨f34, f35, f29, f30, f22, f23, f24⟩ := E1
  have xy := exy_p hF hN9 hn (Nat.succ_pos _) hn1 g14 g15 (by rw [h1]; decide)
  rw [f30] at xy
  have hwo : wo X k (xn x) = la ++ wl X k (xn x + 1) ++ lb := by
    rw [wo_part (by rw [h1]; decide) eo (by omega) (by rw [hF.1 11 (by decide)]; exact h11), esi, hla, hlb]
  obtain ⟨lf, hlf⟩ : ∃ z : Int32, z = if ¬ C x.1 7 = 46 then 4 * yS si else 0 := ⟨_, rfl⟩
  have elf : lf = X 29 (xn x + 1) := by
    rw [hlf, f29, e7]
    by_cases c7 : X 2 (xn x) = 46
    · rw [if_neg (fun z => z c7), if_pos c7]
    · rw [if_pos c7, if_neg c7]
  obtain ⟨T, hT⟩ : ∃ z, z = sdT si (tL ta x.2.1 1) (tL ta x.2.1 2) := ⟨_, rfl⟩
  have eT : T = X 34 (xn x) := by rw [hT, p7, p8, f34]
  obtain ⟨G, hG⟩ : ∃ z : Nat → Int32, z = if ¬ C x.1 7 = 46 then putF ta.2.1 c 2 (tC ta x.1 7) 0 (yX si - T / 2) T (4 * yS si) else ta.2.1 := ⟨_, rfl⟩
  obtain ⟨G2, hG2⟩ : ∃ z : Nat → Int32, z = mvN G (tL ta) x.2.1 lf 0 := ⟨_, rfl⟩
  obtain ⟨G3, hG3⟩ : ∃ z : Nat → Int32, z = if ¬ C x.1 8 = 46 then putF G2 ta.1 2 (tC ta x.1 8) (lf + tL ta x.2.1 0) (yX si - T / 2) T (4 * yS si) else G2 := ⟨_, rfl⟩
  obtain ⟨wd, hwd⟩ : ∃ z : Int32, z = if ¬ C x.1 8 = 46 then lf + tL ta x.2.1 0 + 4 * yS si else lf + tL ta x.2.1 0 := ⟨_, rfl⟩
  obtain ⟨Cf, hCf⟩ : ∃ z : Nat → Nat → Int32, z = (if ¬ C x.1 7 = 46 ∨ ¬ C x.1 8 = 46 then sT (sT (meas (tC ta) x.1 wd (tL ta x.2.1 1) (tL ta x.2.1 2)) x.1 1 (mx (tL ta x.2.1 1) (yX si + T / 2))) x.1 2 (mx (tL ta x.2.1 2) (T / 2 - yX si)) else meas (tC ta) x.1 wd (tL ta x.2.1 1) (tL ta x.2.1 2)) := ⟨_, rfl⟩
  have eS : sSide (sL R RL d) x.1 x.2.1 si cr (c, F, W, H, D, ro, co, C, CL) = (if ¬ C x.1 8 = 46 then rsv ta.1 else ta.1, G3, ta.2.2.1, ta.2.2.2.1, ta.2.2.2.2.1, ta.2.2.2.2.2.1, ta.2.2.2.2.2.2.1, Cf, tL ta) := by
    have e0 : sL R RL d (if ¬ C x.1 7 = 46 then rsv c else c, F, W, H, D, ro, co, C, CL) x.2.1 si cr = ta := by rw [hta, ht0]
    unfold sSide
    dsimp only
    rw [e0, hCf, hwd, hG3, hG2, hG, hlf, hT]
    by_cases c8 : C x.1 8 = 46
    · by_cases c7 : C x.1 7 = 46
      · simp only [c7, c8, not_true, if_false, or_self]
      · simp only [c7, c8, not_true, not_false_eq_true, if_true, if_false, true_or]
    · by_cases c7 : C x.1 7 = 46
      · simp only [c7, c8, not_true, not_false_eq_true, if_true, if_false, or_true]
      · simp only [c7, c8, not_false_eq_true, if_true, or_self]
  rw [eS]
  have hlen : (wl X k (xn x + 1)).length ≤ 2 * (x.2.2.1 - (x.1 + 1)) := p2
  have ep3 : ixI (tL ta x.2.1 3) = c + la.length := by rw [p9, ht01]; exact nI_clamp (by omega)
  have ep4 : ixI (tL ta x.2.1 4) = ta.1 := by rw [p10]; exact nI_clamp (by omega)
  have ecF : (if ¬ C x.1 8 = 46 then rsv ta.1 else ta.1) = ta.1 + lb.length := by
    rw [e8]
    by_cases c8 : X 3 (xn x) = 46
    · rw [if_neg (fun z => z c8), nlb.2.1 c8]; rfl
    · rw [if_pos c8, nlb.2.2 c8]; exact rsv_1 (by omega)
  have t0F : t0.2.1 = F := by rw [ht0]
  have c7' : tC ta x.1 7 = X 2 (xn x) := by rw [g2]; exact p4.1 x.1 7 (by decide)
  have c8' : tC ta x.1 8 = X 3 (xn x) := by rw [g3]; exact p4.1 x.1 8 (by decide)
  -- pieces other than those that are put
  have gG : ∀ p, (X 2 (xn x) = 46 ∨ p ≠ c) → getP G p = getP ta.2.1 p := fun p hp => by
    rw [hG, e7]
    by_cases c7 : X 2 (xn x) = 46
    · rw [if_neg (fun z => z c7)]
    · rw [if_pos c7, getP_putn (hp.resolve_left c7)]
  have gG2 : ∀ p, ¬ (c + la.length ≤ p ∧ p < ta.1) → getP G2 p = getP G p := fun p hp => by
    rw [hG2]; unfold mvN; rw [getP_mv, ep3, ep4, if_neg hp]
  have gG3 : ∀ p, p < ta.1 → getP G3 p = getP G2 p := fun p hp => by
    rw [hG3]
    split
    · exact getP_putn (by omega)
    · rfl
  have Cf0 : Cf x.1 0 = wd ∧ (∀ q j, q ≠ x.1 → Cf q j = tC ta q j) ∧ (∀ j, 3 ≤ j → Cf x.1 j = tC ta x.1 j) ∧ (∀ q j, 5 ≤ j → Cf q j = C0 q j) := by
    rw [hCf]
    split
    · refine ⟨?_, fun q j hq => ?_, fun j hj => ?_, sT_5 (sT_5 (meas_5 p4.1) (by decide)) (by decide)⟩
      · rw [sT_ne (by omega), sT_ne (by omega)]; exact meas_v.1
      · rw [sT_ne (by omega), sT_ne (by omega)]; exact meas_n hq
      · rw [sT_ne (by omega), sT_ne (by omega)]; exact meas_v.2.2.2 j hj
    · exact ⟨meas_v.1, fun q j hq => meas_n hq, fun j hj => meas_v.2.2.2 j hj, meas_5 p4.1⟩
  have Cf12 : Cf x.1 1 = X 23 (xn x) ∧ Cf x.1 2 = X 24 (xn x) := by
    rw [hCf, f23, f24, e7, e8, eT, p7, p8]
    by_cases cb : X 2 (xn x) = 46 ∧ X 3 (xn x) = 46
    · rw [if_neg (fun z => z.elim (fun w => w cb.1) (fun w => w cb.2)), if_pos cb, if_pos cb]
      exact ⟨meas_v.2.1, meas_v.2.2.1⟩
    · have cb' : ¬ X 2 (xn x) = 46 ∨ ¬ X 3 (xn x) = 46 := by
        by_cases z : X 2 (xn x) = 46
        · exact Or.inr (fun w => cb ⟨z, w⟩)
        · exact Or.inl z
      rw [if_pos cb', if_neg cb, if_neg cb]
      exact ⟨by rw [sT_ne (by omega)]; exact sT_same, sT_same⟩
  unfold RK RG
  rw [hwo]
  refine ⟨⟨?_, ?_, ⟨?_, fun q j hq => ?_, fun j q hq => ?_, fun p hp => ?_⟩, ⟨Cf0.2.2.2, p4.2⟩, REL_app (REL_app ?_ ?_) ?_⟩, ⟨?_, Cf12.1, Cf12.2⟩, ?_⟩
  · show (if ¬ C x.1 8 = 46 then rsv ta.1 else ta.1) = c + _
    rw [ecF, p1, ht01, List.length_append, List.length_append]; omega
  · rw [List.length_append, List.length_append]; omega
  · show c ≤ (if ¬ C x.1 8 = 46 then rsv ta.1 else ta.1)
    rw [ecF]; omega
  · show Cf q j = C q j
    rw [Cf0.2.1 q j (by omega), p3.2.1 q j (by dsimp only; omega), ht0]
  · show tL ta j q = CL j q
    rw [p3.2.2.1 j q hq, ht0]
  · have hp : p < c := hp
    show getP G3 p = getP F p
    rw [gG3 p (by omega), gG2 p (by omega), gG p (Or.inr (by omega)), p3.2.2.2 p (by omega), t0F]
  · show REL G3 c la _ _
    rw [ela]
    by_cases c7 : X 2 (xn x) = 46
    · rw [if_pos c7]; exact REL_0
    · rw [if_neg c7]
      have l7 := nla.2.2 c7
      refine REL_1 ?_
      rw [gG3 c (by omega), gG2 c (by omega), hG, e7, if_pos c7, getP_put (by omega), mvP_y, c7', eT, f35]
  · show REL G3 (c + la.length) _ _ _
    rw [ht01] at p5
    have a := REL_ag p5 (F' := G) (fun p h1 h2 => gG p (by
      by_cases c7 : X 2 (xn x) = 46
      · exact Or.inl c7
      · have := nla.2.2 c7
        exact Or.inr (by omega)))
    have b := REL_mv0 (a := c + la.length) (e := ta.1) (r := lf) (u := 0) a (Nat.le_refl _) (by omega) (by rw [elf]; exact xy.1) xy.2
    refine REL_ag b (fun p h1 h2 => ?_)
    rw [gG3 p (by omega), hG2]; unfold mvN; rw [ep3, ep4]
  · show REL G3 (c + _) lb _ _
    rw [show c + (la ++ wl X k (xn x + 1)).length = ta.1 by rw [List.length_append]; omega, elb]
    by_cases c8 : X 3 (xn x) = 46
    · rw [if_pos c8]; exact REL_0
    · rw [if_neg c8]
      have l8 := nlb.2.2 c8
      refine REL_1 ?_
      rw [hG3, e8, if_pos c8, getP_put (by omega), c8', eT, p6, elf, f22, f35]
      unfold mvP
      dsimp only
      rw [if_neg c8, ← f29]
      have a1 : X 31 (xn x) + X 28 (xn x) + (X 29 (xn x + 1) + X 22 (xn x + 1) + 4 * yS si) - 4 * yS si + -(X 31 (xn x) + X 28 (xn x)) = X 29 (xn x + 1) + X 22 (xn x + 1) := by grind
      rw [a1, neg_add_z]
  · show Cf x.1 0 = _
    rw [Cf0.1, hwd, f22, e8, p6, elf, ← f29]
    by_cases c8 : X 3 (xn x) = 46
    · rw [if_neg (fun z => z c8), if_pos c8, Int32.add_zero]
    · rw [if_pos c8, if_neg c8]
  · show Cf x.1 3 = C x.1 3
    rw [Cf0.2.2.1 3 (Nat.le_refl _), p3.2.1 x.1 3 (by dsimp only; omega), ht0]
end
