/-! Pure: the class's setting against the reference's arrays: roots, fractions, groups, sides. By hand. -/
section
variable {C0 : Nat → Nat → Int32} {R : Nat → Nat → Option Nat} {CL0 : Nat → Nat → Int32} {RL : Nat → Nat → Option Nat} {B X : Nat → Nat → Int32} {N s0 : Nat}
theorem k_root {d : Nat} (hR : RNd C0 CL0 X B R RL N d) (hF : FINX X B N s0) (hN9 : N ≤ 221) {x : XT} {t : TS} {si k : Nat} (h1 : X 1 (xn x) = 5) (hx0 : 0 < xn x) (hN : x.2.2.1 + x.2.2.2 ≤ N) (h10 : B 10 (xn x) = nI (xn x + 1)) (h11 : B 11 (xn x) = 0) (gA : SB R B (SN C0 R CL0 RL B d) (xn x) 0 (x.1 + 1, x.2.1, x.2.2.1, x.2.2.2)) (h20 : X 20 (xn x) = nI si) (hs : si < 4) (hk : 3 * (d + 1) ≤ k + 1) (hc : t.1 + 2 * (x.2.2.1 - x.1) ≤ 120) (hI : tI C0 CL0 t) : RK C0 CL0 X k x t (sRoot (sN R RL d) x.1 (x.1 + 1) si t) := by
  have l1 := SN_le _ _ _ _ _ gA.1
  dsimp only at l1
  have en : xn (x.1 + 1, x.2.1, x.2.2.1, x.2.2.2) = xn x + 1 := by show (x.1 + 1) + x.2.1 = x.1 + x.2.1 + 1; omega
  have hn : xn x < N := by show x.1 + x.2.1 < N; omega
  have hn1 : xn x + 1 < N := by show x.1 + x.2.1 + 1 < N; omega
  obtain ⟨q20, q21, EH, E⟩ := hF.2.1 (xn x) hn
  have esi : ixI (X 20 (xn x)) = si := by rw [h20]; exact nI_clamp (by omega)
  have eo : ixI (X 10 (xn x)) = xn x + 1 := by rw [hF.1 10 (by decide), h10]; exact nI_clamp (show x.1 + x.2.1 + 1 < _ by omega)
  have EH6 := EH.2.2.2.2.2 (Or.inl h1)
  rw [eo, esi] at EH6
  obtain ⟨c, F, W, H, D, ro, co, C, CL⟩ := t
  have hc : c + 2 * (x.2.2.1 - x.1) ≤ 120 := hc
  have er1 : rsv c = c + 1 := rsv_1 (by omega)
  have er2 : rsv (rsv c) = c + 2 := by rw [er1]; exact rsv_1 (by omega)
  obtain ⟨t0, ht0⟩ : ∃ z : TS, z = (rsv (rsv c), F, W, H, D, ro, co, C, CL) := ⟨_, rfl⟩
  have ht01 : t0.1 = c + 2 := by rw [ht0]; exact er2
  have P := r_part hR hF hN9 (t := t0) (k := k) (si := si) (cr := 1) gA (by rw [en]; omega) hN (by rw [en]; exact EH6.1) hs (by rw [en]; exact EH6.2) (by decide) (by omega) (by dsimp only; omega) (by rw [ht0]; exact hI)
  rw [show sN R RL d t0 (x.1 + 1, x.2.1, x.2.2.1, x.2.2.2).1 si 1 = sN R RL d t0 (x.1 + 1) si 1 from rfl] at P
  unfold RI at P
  rw [en] at P
  obtain ⟨⟨p1, p2, p3, p4, p5⟩, ⟨p6, p7, p8⟩, p9, p10⟩ := P
  dsimp only at p2 p6 p7 p8 p9 p10
  have E1 := E.1
  unfold EB at E1
  rw [h1, if_neg (by decide), if_neg (by decide), if_neg (by decide), if_neg (by decide), if_neg (by decide), if_pos rfl, eo, esi] at E1
  obtain ⟨f34, f23, f35, f24, f22, f29, f30⟩ := E1
  have xy := exy_p hF hN9 hn (Nat.succ_pos _) hn1 (by have := gA.2.2.2.1; rw [en] at this; exact this) (by have := gA.2.2.2.2; rw [en] at this; exact this) (by rw [h1]; decide)
  rw [f29, f30] at xy
  have hwo : wo X k (xn x) = [(2, 35, X 31 (xn x) + X 28 (xn x), X 32 (xn x) + X 35 (xn x), X 34 (xn x), 5 * yS si), (1, 0, X 31 (xn x) + X 28 (xn x) + 5 * yS si, X 32 (xn x) + X 23 (xn x) - yT si, yT si, X 22 (xn x) - 5 * yS si)] ++ wl X k (xn x + 1) := by
    rw [wo_part (by rw [h1]; decide) eo (by omega) (by rw [hF.1 11 (by decide)]; exact h11), esi]
    have e1 : sayH X (xn x) si = [] := by
      unfold sayH
      rw [h1, if_neg (by decide), if_neg (by decide), if_neg (by decide), if_neg (by decide)]
    rw [e1, List.append_nil]
    unfold sayB
    rw [h1, if_neg (by decide), if_neg (by decide), if_pos rfl]
  obtain ⟨ta, hta⟩ : ∃ z, z = sN R RL d t0 (x.1 + 1) si 1 := ⟨_, rfl⟩
  rw [← hta] at p1 p3 p4 p5 p6 p7 p8 p9 p10
  have e2 : sRoot (sN R RL d) x.1 (x.1 + 1) si (c, F, W, H, D, ro, co, C, CL) = (ta.1, mvN (putF (putF ta.2.1 c 2 35 0 (rtY si (tC ta (x.1 + 1) 1) + yT si - rtT si (tC ta (x.1 + 1) 1) (tC ta (x.1 + 1) 2)) (rtT si (tC ta (x.1 + 1) 1) (tC ta (x.1 + 1) 2)) (5 * yS si)) (rsv c) 1 0 (5 * yS si) (rtY si (tC ta (x.1 + 1) 1)) (yT si) (tC ta (x.1 + 1) 0)) (tC ta) (x.1 + 1) (5 * yS si) 0, ta.2.2.1, ta.2.2.2.1, ta.2.2.2.2.1, ta.2.2.2.2.2.1, ta.2.2.2.2.2.2.1, meas (tC ta) x.1 (5 * yS si + tC ta (x.1 + 1) 0) (rtY si (tC ta (x.1 + 1) 1) + yT si) (mx (tC ta (x.1 + 1) 2) (rtT si (tC ta (x.1 + 1) 1) (tC ta (x.1 + 1) 2) - (rtY si (tC ta (x.1 + 1) 1) + yT si))), tL ta) := by
    have e0 : sN R RL d (rsv (rsv c), F, W, H, D, ro, co, C, CL) (x.1 + 1) si 1 = ta := by rw [hta, ht0]
    unfold sRoot
    dsimp only
    rw [e0]
  rw [e2, p6, p7, p8]
  have ep3 : ixI (tC ta (x.1 + 1) 3) = c + 2 := by rw [p9, ht01]; exact nI_clamp (by omega)
  have hlen : (wl X k (xn x + 1)).length ≤ 2 * (x.2.2.1 - (x.1 + 1)) := p2
  have ep4 : ixI (tC ta (x.1 + 1) 4) = ta.1 := by rw [p10]; exact nI_clamp (by omega)
  have p3b := p3.2.2.2
  rw [ht01] at p3b
  have t0F : t0.2.1 = F := by rw [ht0]
  unfold RK RG
  rw [hwo]
  refine ⟨⟨?_, ?_, ⟨?_, fun q j hq => ?_, fun j q hq => ?_, fun p hp => ?_⟩, ⟨meas_5 p4.1, p4.2⟩, ?_⟩, ⟨meas_v.1.trans ?_, meas_v.2.1.trans ?_, meas_v.2.2.1.trans ?_⟩, ?_⟩
  · show ta.1 = c + _
    rw [p1, ht01, List.length_append]
    show c + 2 + _ = c + (2 + _)
    omega
  · rw [List.length_append]
    show 2 + _ ≤ _
    omega
  · show c ≤ ta.1; omega
  · show meas (tC ta) x.1 _ _ _ q j = C q j
    rw [meas_n (by omega), p3.2.1 q j (by dsimp only; omega), ht0]
  · show tL ta j q = CL j q
    rw [p3.2.2.1 j q (by dsimp only; omega), ht0]
  · have hp : p < c := hp
    show getP (mvN _ (tC ta) (x.1 + 1) _ _) p = getP F p
    unfold mvN
    rw [getP_mv, ep3, if_neg (by omega), getP_putn (by omega), getP_putn (by omega), p3b p (by omega), t0F]
  · show REL (mvN _ (tC ta) (x.1 + 1) _ _) c _ _ _
    unfold mvN
    rw [ep3, ep4]
    refine REL_app ?_ ?_
    · show [getP _ c, getP _ (c + 1)] = [_, _]
      rw [getP_mv, if_neg (by omega), getP_putn (by omega), getP_put (by omega), getP_mv, if_neg (by omega), er1, getP_put (by omega), mvP_y, f35, f34, f23, f22]
      congr 1
      unfold mvP
      dsimp only
      rw [neg_add_z]
      have a1 : X 32 (xn x) + (rtY si (X 26 (xn x + 1)) + yT si) - yT si + -X 32 (xn x) = rtY si (X 26 (xn x + 1)) := by grind
      have a2 : 5 * yS si + X 25 (xn x + 1) - 5 * yS si = X 25 (xn x + 1) := by grind
      rw [a1, a2]
    · show REL _ (c + 2) _ _ _
      rw [ht01] at p5
      refine REL_mv0 (REL_ag p5 (fun q h1 h2 => ?_)) (Nat.le_refl _) (by omega) xy.1 (by rw [xy.2])
      rw [getP_putn (by omega), getP_putn (by omega)]
  · rw [f22]
  · rw [f23]
  · rw [f24, f34, f23]
  · show meas (tC ta) x.1 _ _ _ x.1 3 = C x.1 3
    rw [meas_v.2.2.2 3 (Nat.le_refl _), p3.2.1 x.1 3 (by dsimp only; omega), ht0]
theorem k_frac {d : Nat} (hR : RNd C0 CL0 X B R RL N d) (hF : FINX X B N s0) (hN9 : N ≤ 221) {x : XT} {t : TS} {si cr k i1 l1 : Nat} (h1 : X 1 (xn x) = 4) (hx0 : 0 < xn x) (hN : x.2.2.1 + x.2.2.2 ≤ N) (h10 : B 10 (xn x) = nI (xn x + 1)) (h11 : B 11 (xn x) = nI (i1 + l1)) (gA : SB R B (SN C0 R CL0 RL B d) (xn x) 0 (x.1 + 1, x.2.1, i1, l1)) (gB : SB R B (SN C0 R CL0 RL B d) (xn x) 0 (i1, l1, x.2.2.1, x.2.2.2)) (h20 : X 20 (xn x) = nI si) (hs : si < 4) (h21 : X 21 (xn x) = nI cr) (hcr : cr < 2) (hk : 3 * (d + 1) ≤ k + 1) (hc : t.1 + 2 * (x.2.2.1 - x.1) ≤ 120) (hI : tI C0 CL0 t) : RK C0 CL0 X k x t (sFrac (sN R RL d) x.1 (x.1 + 1) i1 si cr t) := by
  have la := SN_le _ _ _ _ _ gA.1
  have lb := SN_le _ _ _ _ _ gB.1
  dsimp only at la lb
  have en : xn (x.1 + 1, x.2.1, i1, l1) = xn x + 1 := by show (x.1 + 1) + x.2.1 = x.1 + x.2.1 + 1; omega
  have en2 : xn (i1, l1, x.2.2.1, x.2.2.2) = i1 + l1 := rfl
  have hn : xn x < N := by show x.1 + x.2.1 < N; omega
  have hn1 : xn x + 1 < N := by show x.1 + x.2.1 + 1 < N; omega
  have hn2 : i1 + l1 < N := by omega
  obtain ⟨q20, q21, EH, E⟩ := hF.2.1 (xn x) hn
  have esi : ixI (X 20 (xn x)) = si := by rw [h20]; exact nI_clamp (by omega)
  have eo : ixI (X 10 (xn x)) = xn x + 1 := by rw [hF.1 10 (by decide), h10]; exact nI_clamp (show x.1 + x.2.1 + 1 < _ by omega)
  have et : ixI (X 11 (xn x)) = i1 + l1 := by rw [hF.1 11 (by decide), h11]; exact nI_clamp (by omega)
  have EH3 := EH.2.2.1 h1
  rw [eo, esi, et, h21] at EH3
  have hPa : yPa si < 4 := by unfold yPa; split <;> (try split) <;> omega
  have PA := r_part hR hF hN9 (t := t) (k := k) (si := yPa si) (cr := cr) gA (by rw [en]; omega) (by dsimp only; omega) (by rw [en]; exact EH3.1.1) hPa (by rw [en]; exact EH3.1.2) hcr (by omega) (by dsimp only; omega) hI
  rw [show sN R RL d t (x.1 + 1, x.2.1, i1, l1).1 (yPa si) cr = sN R RL d t (x.1 + 1) (yPa si) cr from rfl] at PA
  unfold RI at PA
  rw [en] at PA
  obtain ⟨⟨p1, p2, p3, p4, p5⟩, ⟨p6, p7, p8⟩, p9, p10⟩ := PA
  dsimp only at p2 p6 p7 p8 p9 p10
  obtain ⟨ta, hta⟩ : ∃ z, z = sN R RL d t (x.1 + 1) (yPa si) cr := ⟨_, rfl⟩
  rw [← hta] at p1 p3 p4 p5 p6 p7 p8 p9 p10
  have er1 : rsv ta.1 = ta.1 + 1 := rsv_1 (by omega)
  obtain ⟨t0, ht0⟩ : ∃ z : TS, z = (rsv ta.1, ta.2) := ⟨_, rfl⟩
  have ht01 : t0.1 = ta.1 + 1 := by rw [ht0]; exact er1
  have ht02 : t0.2 = ta.2 := by rw [ht0]
  have PB := r_part hR hF hN9 (t := t0) (k := k) (si := yPa si) (cr := 1) gB (by rw [en2]; omega) hN (by rw [en2]; exact EH3.2.1) hPa (by rw [en2]; exact EH3.2.2) (by decide) (by omega) (by dsimp only; omega) (by rw [ht0]; exact p4)
  rw [show sN R RL d t0 (i1, l1, x.2.2.1, x.2.2.2).1 (yPa si) 1 = sN R RL d t0 i1 (yPa si) 1 from rfl] at PB
  unfold RI at PB
  rw [en2] at PB
  obtain ⟨⟨b1, b2, b3, b4, b5⟩, ⟨b6, b7, b8⟩, b9, b10⟩ := PB
  dsimp only at b2 b6 b7 b8 b9 b10
  obtain ⟨tb, htb⟩ : ∃ z, z = sN R RL d t0 i1 (yPa si) 1 := ⟨_, rfl⟩
  rw [← htb] at b1 b3 b4 b5 b6 b7 b8 b9 b10
  have E1 := E.1
  unfold EB at E1
  rw [h1, if_neg (by decide), if_neg (by decide), if_neg (by decide), if_neg (by decide), if_pos rfl, eo, esi, et] at E1
  obtain ⟨f22, f29a, f29b, f30a, f30b, f35, f23, f24⟩ := E1
  have xya := exy_p hF hN9 hn (Nat.succ_pos _) hn1 (by have := gA.2.2.2.1; rw [en] at this; exact this) (by have := gA.2.2.2.2; rw [en] at this; exact this) (by rw [h1]; decide)
  have xyb := exy_p hF hN9 hn (by omega) hn2 gB.2.2.2.1 gB.2.2.2.2 (by rw [h1]; decide)
  have hwo : wo X k (xn x) = wl X k (xn x + 1) ++ ([(1, 0, X 31 (xn x) + X 28 (xn x), X 32 (xn x) + X 35 (xn x), yT si, X 22 (xn x))] ++ wl X k (i1 + l1)) := by
    unfold wo
    rw [if_neg (by rw [h1]; decide), eo, et, if_neg (by omega), if_neg (by omega), esi]
    have e1 : sayB X (xn x) si = [] := by
      unfold sayB
      rw [h1, if_neg (by decide), if_neg (by decide), if_neg (by decide), if_neg (by decide)]
    rw [e1, List.nil_append, List.append_assoc]
    unfold sayH
    rw [if_pos h1]
  have hla : (wl X k (xn x + 1)).length ≤ 2 * (i1 - (x.1 + 1)) := p2
  have hlb : (wl X k (i1 + l1)).length ≤ 2 * (x.2.2.1 - i1) := b2
  -- the first part's row stays
  have ka : ∀ j, tC tb (x.1 + 1) j = tC ta (x.1 + 1) j := fun j => by
    rw [b3.2.1 (x.1 + 1) j (by dsimp only; omega), ht0]
  have e2 : sFrac (sN R RL d) x.1 (x.1 + 1) i1 si cr t = (tb.1, putF (mvN (mvN tb.2.1 (tC tb) (x.1 + 1) ((frW si (tC tb (x.1 + 1) 0) (tC tb i1 0) - tC tb (x.1 + 1) 0) / 2) (frU si (tC tb (x.1 + 1) 2))) (tC tb) i1 ((frW si (tC tb (x.1 + 1) 0) (tC tb i1 0) - tC tb i1 0) / 2) (-(frD si (tC tb i1 1)))) ta.1 1 0 0 (frY si) (yT si) (frW si (tC tb (x.1 + 1) 0) (tC tb i1 0)), tb.2.2.1, tb.2.2.2.1, tb.2.2.2.2.1, tb.2.2.2.2.2.1, tb.2.2.2.2.2.2.1, meas (tC tb) x.1 (frW si (tC tb (x.1 + 1) 0) (tC tb i1 0)) (frU si (tC tb (x.1 + 1) 2) + tC tb (x.1 + 1) 1) (frD si (tC tb i1 1) + tC tb i1 2), tL tb) := by
    have e0 : sN R RL d (rsv ta.1, ta.2.1, ta.2.2.1, ta.2.2.2.1, ta.2.2.2.2.1, ta.2.2.2.2.2.1, ta.2.2.2.2.2.2.1, ta.2.2.2.2.2.2.2.1, ta.2.2.2.2.2.2.2.2) i1 (yPa si) 1 = tb := by rw [htb, ht0]
    unfold sFrac
    rw [← hta]
    show (match sN R RL d (rsv ta.1, ta.2.1, ta.2.2.1, ta.2.2.2.1, ta.2.2.2.2.1, ta.2.2.2.2.2.1, ta.2.2.2.2.2.2.1, ta.2.2.2.2.2.2.2.1, ta.2.2.2.2.2.2.2.2) i1 (yPa si) 1 with | (c, F, W, H, D, ro, co, C, CL) => _) = _
    rw [e0]
  rw [e2, ka 0, ka 1, ka 2, p6, p7, p8, b6, b7, b8]
  have ea3 : ixI (tC tb (x.1 + 1) 3) = t.1 := by rw [ka 3, p9]; exact nI_clamp (by omega)
  have ea4 : ixI (tC tb (x.1 + 1) 4) = ta.1 := by rw [ka 4, p10]; exact nI_clamp (by omega)
  have eb3 : ixI (tC tb i1 3) = ta.1 + 1 := by rw [b9, ht01]; exact nI_clamp (by omega)
  have eb4 : ixI (tC tb i1 4) = tb.1 := by rw [b10]; exact nI_clamp (by omega)
  have fa : ∀ p, p < ta.1 → getP tb.2.1 p = getP ta.2.1 p := fun p hp => by rw [b3.2.2.2 p (by omega), ht02]
  unfold RK RG
  rw [hwo]
  refine ⟨⟨?_, ?_, ⟨?_, fun q j hq => ?_, fun j q hq => ?_, fun p hp => ?_⟩, ⟨meas_5 b4.1, b4.2⟩, ?_⟩, ⟨meas_v.1.trans ?_, meas_v.2.1.trans ?_, meas_v.2.2.1.trans ?_⟩, ?_⟩
  · show tb.1 = t.1 + _
    rw [b1, ht01, p1, List.length_append, List.length_append]
    show t.1 + _ + 1 + _ = t.1 + (_ + (1 + _))
    omega
  · rw [List.length_append, List.length_append]
    show _ + (1 + _) ≤ _
    omega
  · show t.1 ≤ tb.1; omega
  · show meas (tC tb) x.1 _ _ _ q j = tC t q j
    rw [meas_n (by omega), b3.2.1 q j (by dsimp only; omega), ht0]
    exact p3.2.1 q j (by dsimp only; omega)
  · show tL tb j q = tL t j q
    rw [b3.2.2.1 j q (by dsimp only; omega), ht0]
    exact p3.2.2.1 j q (by dsimp only; omega)
  · show getP (putF (mvN (mvN _ (tC tb) (x.1 + 1) _ _) (tC tb) i1 _ _) ta.1 1 0 0 _ _ _) p = getP t.2.1 p
    unfold mvN
    rw [getP_putn (by omega), getP_mv, eb3, if_neg (by omega), getP_mv, ea3, if_neg (by omega), fa p (by omega)]
    exact p3.2.2.2 p hp
  · show REL (putF (mvN (mvN _ (tC tb) (x.1 + 1) _ _) (tC tb) i1 _ _) ta.1 1 0 0 _ _ _) t.1 _ _ _
    unfold mvN
    rw [ea3, ea4, eb3, eb4]
    refine REL_app ?_ (REL_app ?_ ?_)
    · have g := REL_ag p5 (F' := tb.2.1) (fun q h1 h2 => fa q (by omega))
      have g2 := REL_mv0 (a := t.1) (e := ta.1) (r := (frW si (X 25 (xn x + 1)) (X 25 (i1 + l1)) - X 25 (xn x + 1)) / 2) (u := frU si (X 27 (xn x + 1))) g (Nat.le_refl _) (by omega) (by rw [xya.1, f29a, f22]) (by rw [xya.2, f30a])
      refine REL_ag g2 (fun q h1 h2 => ?_)
      rw [getP_putn (by omega), getP_mv, if_neg (by omega)]
    · rw [show t.1 + (wl X k (xn x + 1)).length = ta.1 by omega]
      refine REL_1 ?_
      rw [getP_put (by omega), mvP_y, f35, f22]
    · rw [show t.1 + (wl X k (xn x + 1)).length + ([(1, 0, X 31 (xn x) + X 28 (xn x), X 32 (xn x) + X 35 (xn x), yT si, X 22 (xn x))] : List PT).length = ta.1 + 1 by show t.1 + _ + 1 = _; omega]
      rw [ht01] at b5
      have g := REL_ag b5 (F' := mvF tb.2.1 t.1 ta.1 ((frW si (X 25 (xn x + 1)) (X 25 (i1 + l1)) - X 25 (xn x + 1)) / 2) (frU si (X 27 (xn x + 1)))) (fun q h1 h2 => by rw [getP_mv, if_neg (by omega)])
      have g2 := REL_mv0 (a := ta.1 + 1) (e := tb.1) (r := (frW si (X 25 (xn x + 1)) (X 25 (i1 + l1)) - X 25 (i1 + l1)) / 2) (u := -(frD si (X 26 (i1 + l1)))) g (Nat.le_refl _) (by omega) (by rw [xyb.1, f29b, f22]) (by rw [xyb.2, f30b])
      refine REL_ag g2 (fun q h1 h2 => ?_)
      rw [getP_putn (by omega)]
  · rw [f22]
  · rw [f23]
  · rw [f24]
  · show meas (tC tb) x.1 _ _ _ x.1 3 = tC t x.1 3
    rw [meas_v.2.2.2 3 (Nat.le_refl _), b3.2.1 x.1 3 (by dsimp only; omega), ht0]
    exact p3.2.1 x.1 3 (by dsimp only; omega)
end
