/-! Pure: the class's setting against the reference's arrays: all nuclei. By hand. -/
section
variable {C0 : Nat → Nat → Int32} {R : Nat → Nat → Option Nat} {CL0 : Nat → Nat → Int32} {RL : Nat → Nat → Option Nat} {B X : Nat → Nat → Int32} {N s0 : Nat}
theorem sMat_p {L1 : FN} {i si cr : Nat} {cs : List Nat} {t t' : TS} {g : GS} (h : cs.foldl (fun t l => L1 t l (yCe si) cr) t = t') (hg : g = gmM (tL t') t'.2.2.1 t'.2.2.2.1 t'.2.2.2.2.1 (yS si) cs) : sMat L1 i cs si cr t = (t'.1, cs.foldl (fun F l => mvN F (tL t') l (gX g.1 (tL t') (yS si) l) (yX si + (tpO g.2.1 g.2.2.1 (yS si) g.2.2.2.1 - yS si) / 2 - gY g.2.1 g.2.2.1 (tL t') (yS si) l)) t'.2.1, g.1, g.2.1, g.2.2.1, nI g.2.2.2.1, nI g.2.2.2.2, meas (tC t') i (lfO g.1 (yS si) g.2.2.2.2 - 4 * yS si) (yX si + (tpO g.2.1 g.2.2.1 (yS si) g.2.2.2.1 - yS si) / 2) (mx 0 (tpO g.2.1 g.2.2.1 (yS si) g.2.2.2.1 - yS si - (yX si + (tpO g.2.1 g.2.2.1 (yS si) g.2.2.2.1 - yS si) / 2))), tL t') := by
  unfold sMat
  rw [h, hg]
theorem k_mat {d : Nat} (hd7 : d ≤ 7) (hR : RLd C0 CL0 X B R RL N d) (hF : FINX X B N s0) (hN9 : N ≤ 221) {x : XT} {t : TS} {si cr k : Nat} (h1 : X 1 (xn x) = 9) (hx : x.1 < x.2.2.1) (hx0 : 0 < xn x) (hN : x.2.2.1 + x.2.2.2 ≤ N) {xs : List XT} (hne : ¬ xs = []) (g11 : R x.1 11 = some x.2.1) (g6 : B 6 (xn x) = nI (xn x + 1)) (gc : chn (x.1 + 1) x.2.1 xs x.2.2.1 x.2.2.2) (gl : lkL RL xs) (g7 : lkA (B 7) xs) (gS : ∀ q ∈ xs, SL R RL B (SN C0 R CL0 RL B d) q ∧ B 14 (xn q) = nI (xn x) ∧ B 15 (xn q) = 0 ∧ B 8 (xn q) = CL0 q.2.1 6 ∧ B 9 (xn q) = CL0 q.2.1 7) (gp : cpo CL0 0 0 xs) (h20 : X 20 (xn x) = nI si) (hs : si < 4) (h21 : X 21 (xn x) = nI cr) (hcr : cr < 2) (hk : 3 * (d + 1) ≤ k + 1) (hc : t.1 + 2 * (x.2.2.1 - x.1) ≤ 120) (hI : tI C0 CL0 t) : RK C0 CL0 X k x t (sMat (sL R RL d) x.1 (chX RL 8 162 (R x.1 11)) si cr t) := by
  have hle := SN_le (C := C0) (R := R) (CL := CL0) (RL := RL) (A := B) d
  have l1 : ∀ q ∈ xs, q.1 ≤ q.2.2.1 ∧ q.2.1 < q.2.2.2 := fun q hq => SL_le hle (gS q hq).1
  have hin := chn_in xs _ _ _ _ gc (fun q hq => by have := l1 q hq; omega)
  have hlen := chn_len2 xs _ _ _ _ gc (fun q hq => by have := l1 q hq; omega)
  have hl64 := cpo_len xs 0 0 (by decide) (by decide) gp
  have hn : xn x < N := by show x.1 + x.2.1 < N; omega
  have hh : nI (xo xs.head?) = nI (xn x + 1) ∧ xs.head?.map (fun z => z.2.1) = some x.2.1 := by
    cases xs with
    | nil => exact absurd rfl hne
    | cons q t =>
      have e1 := gc.1
      have e2 := gc.2.1
      exact ⟨congrArg nI (show q.1 + q.2.1 = x.1 + x.2.1 + 1 by omega), congrArg some e2⟩
  have hch : chN X (xn x) = xs.map xn := by
    show chR (X 7) 400 (X 6 (xn x)) = _
    rw [hF.1 7 (by decide), hF.1 6 (by decide), g6, ← hh.1]
    exact (chR_xs xs 399 g7 (fun q hq => by
      have a1 := l1 q hq
      have a2 := hin q hq
      show 0 < q.1 + q.2.1 ∧ q.1 + q.2.1 < 400
      omega) (by omega)).1
  have ecs : chX RL 8 162 (R x.1 11) = xs.map (fun z => z.2.1) := by
    rw [g11, ← hh.2]
    exact lkL_ch xs 161 gl (by omega)
  rw [ecs]
  obtain ⟨q20, q21, EH, E⟩ := hF.2.1 (xn x) hn
  have esi : ixI (X 20 (xn x)) = si := by rw [h20]; exact nI_clamp (by omega)
  have EH4 := EH.2.2.2.1 h1
  rw [hch, esi, h21] at EH4
  have hCe : yCe si < 4 := by unfold yCe; split <;> omega
  obtain ⟨t', et', K1, K2, K3, K4⟩ := cells_go hR hCe hcr (k := k) (by omega) xs t (x.1 + 1) x.2.1 x.2.2.1 x.2.2.2 gc hN (fun q hq => ⟨(gS q hq).1, (EH4 (xn q) (List.mem_map.mpr ⟨q, hq, rfl⟩)).1, (EH4 (xn q) (List.mem_map.mpr ⟨q, hq, rfl⟩)).2⟩) (by omega) hI
  obtain ⟨g, hg⟩ : ∃ z : GS, z = gmM (tL t') t'.2.2.1 t'.2.2.2.1 t'.2.2.2.2.1 (yS si) (xs.map (fun z => z.2.1)) := ⟨_, rfl⟩
  rw [sMat_p et'.symm hg]
  have E1 := E.1
  unfold EB at E1
  rw [h1, if_neg (by decide), if_neg (by decide), if_neg (by decide), if_neg (by decide), if_neg (by decide), if_neg (by decide), if_neg (by decide), if_pos rfl, hch, esi] at E1
  obtain ⟨f9, g9, h9, Q1, Q2, Q3, Q4⟩ := E1
  -- the cells' rows
  have rows : ∀ (ys : List XT) (c c' : Nat), CRq X (tL t') t'.2.1 k c ys c' → ∀ q ∈ ys, tL t' q.2.1 0 = X 22 (xn q) ∧ tL t' q.2.1 1 = X 23 (xn q) ∧ tL t' q.2.1 2 = X 24 (xn q) := by
    intro ys
    induction ys with
    | nil => exact fun _ _ _ q hq => absurd hq List.not_mem_nil
    | cons p ys ih =>
      intro c c' h q hq
      rcases List.mem_cons.mp hq with rfl | hq
      · exact h.2.1
      · exact ih _ _ h.2.2.2 q hq
  have hP := b_N (C := C0) (R := R) (CL := CL0) (RL := RL) (B := B) (A := X) (N := N) hN9 d hd7
  have hcc := cc_7 d hd7
  have facts : ∀ q ∈ xs, (tL t' q.2.1 0 = X 22 (xn q) ∧ tL t' q.2.1 1 = X 23 (xn q) ∧ tL t' q.2.1 2 = X 24 (xn q)) ∧ (tL t' q.2.1 6 = CL0 q.2.1 6 ∧ tL t' q.2.1 7 = CL0 q.2.1 7) ∧ (X 8 (xn q) = CL0 q.2.1 6 ∧ X 9 (xn q) = CL0 q.2.1 7) ∧ 0 ≤ (X 22 (xn q)).toInt := fun q hq => by
    have a2 := hin q hq
    refine ⟨rows xs _ _ K4 q hq, ⟨K2.2 _ _ (by decide), K2.2 _ _ (by decide)⟩, ⟨?_, ?_⟩, ?_⟩
    · rw [hF.1 8 (by decide)]; exact (gS q hq).2.2.2.1
    · rw [hF.1 9 (by decide)]; exact (gS q hq).2.2.2.2
    · exact (b_L (K := cc d) (by omega) hN9 hP hle (gS q hq).1 (by omega) (mz_F hF (by omega))).1.1
  have G0 : GI (fiF t'.2.2.1 0 8, fiF t'.2.2.2.1 (5 * yS si) 8, fiF t'.2.2.2.2.1 (2 * yS si) 8, 0, 0) (fil f9 (-1) 8, fil g9 (5 * yS si) 8, fil h9 (2 * yS si) 8, 0) 0 0 := by
    refine ⟨fun j hj => ⟨?_, ?_⟩, fun j hj => absurd hj (Nat.not_lt_zero j), fun j _ hj => ⟨if_pos hj, if_pos hj⟩, rfl, Nat.zero_le _, Nat.le_refl _, Or.inl rfl, Nat.zero_le _⟩
    · show fiF _ _ 8 j = fil _ _ 8 j
      unfold fiF fil; rw [if_pos hj, if_pos hj]
    · show fiF _ _ 8 j = fil _ _ 8 j
      unfold fiF fil; rw [if_pos hj, if_pos hj]
  obtain ⟨r', c', J1, J2, J3, J4⟩ := grid_rel (CLf := tL t') xs 0 0 _ _ gp facts G0
  have eg : (xs.map (fun z => z.2.1)).foldl (gmS (tL t')) (fiF t'.2.2.1 0 8, fiF t'.2.2.2.1 (5 * yS si) 8, fiF t'.2.2.2.2.1 (2 * yS si) 8, 0, 0) = g := hg.symm
  rw [eg] at J1 J2 J3 J4
  generalize (xs.map xn).foldl (mcF X) (fil f9 (-1) 8, fil g9 (5 * yS si) 8, fil h9 (2 * yS si) 8, 0) = p at J1 Q1 Q2 Q3 Q4
  obtain ⟨i1, i2, i3, i4, i5, -, -, i8⟩ := J1
  have hpos : 1 ≤ g.2.2.2.2 ∧ 1 ≤ g.2.2.2.1 := by
    cases xs with
    | nil => exact absurd rfl hne
    | cons q ys =>
      have := J4 q List.mem_cons_self
      omega
  have z0 : (0 : Int32).toInt = 0 := by decide
  have ecw : cwc p.1 8 0 = g.2.2.2.2 := by
    refine cwc_eq (fun j hj w => ?_) ?_ i5
    · have a := (i2 j hj).2
      have b := Int32.lt_iff_toInt_lt.mp w
      rw [z0] at b
      omega
    · by_cases z : g.2.2.2.2 = 8
      · exact Or.inl z
      · right
        rw [(i3 g.2.2.2.2 (Nat.le_refl _) (by omega)).1]
        decide
  obtain ⟨co, hco⟩ : ∃ z, g.2.2.2.2 = z + 1 := ⟨g.2.2.2.2 - 1, by omega⟩
  obtain ⟨ro, hro⟩ : ∃ z, g.2.2.2.1 = z + 1 := ⟨g.2.2.2.1 - 1, by omega⟩
  have eW : lfO g.1 (yS si) g.2.2.2.2 - 4 * yS si = X 22 (xn x) := by
    rw [Q1, ecw, hco]
    exact lf_mWd co (fun j hj => (i2 j (by omega)).1)
  have eA : tpO g.2.1 g.2.2.1 (yS si) g.2.2.2.1 - yS si = mAl p.2.1 p.2.2.1 (yS si) p.2.2.2 := by
    rw [← i4, hro]
    exact tp_mAl ro (fun j hj => i1 j (by omega))
  rw [eA, eW, ← Q2]
  have e24 : mx 0 (mAl p.2.1 p.2.2.1 (yS si) p.2.2.2 - X 23 (xn x)) = X 24 (xn x) := by rw [Q3, ms_mx]
  rw [e24]
  have mv := cells_mv (F := tL t') (rx := gX g.1 (tL t') (yS si)) (ry := fun l => X 23 (xn x) - gY g.2.1 g.2.2.1 (tL t') (yS si) l) (bx := X 31 (xn x) + X 28 (xn x)) (bY := X 32 (xn x)) xs t'.2.1 t.1 t'.1 (by omega) K4 (fun _ _ _ => rfl) (fun q hq => by
    have a2 := hin q hq
    have a1 := l1 q hq
    obtain ⟨⟨d0, d1, d2⟩, ⟨d6, d7⟩, ⟨d8, d9⟩, -⟩ := facts q hq
    have xy := exy_p hF hN9 hn (c := xn q) (by show 0 < q.1 + q.2.1; omega) (by show q.1 + q.2.1 < N; omega) (gS q hq).2.1 (gS q hq).2.2.1 (by rw [h1]; decide)
    have q4 := Q4 (xn q) (List.mem_map.mpr ⟨q, hq, rfl⟩)
    have j4 := J4 q hq
    rw [d8, d9] at q4
    refine ⟨?_, ?_⟩
    · rw [xy.1, q4.1]
      unfold gX
      rw [d7, d0, lf_mLf _ (fun j hj => (i2 j (by omega)).1), (i2 _ j4.1).1]
    · show X 32 (xn q) = X 32 (xn x) + (X 23 (xn x) - gY g.2.1 g.2.2.1 (tL t') (yS si) q.2.1)
      rw [xy.2, q4.2]
      unfold gY
      rw [d6, mBs_tp (H := g.2.1) (D := g.2.2.1) _ (fun j hj => i1 j (by omega)), (i1 _ (by omega)).1]
      grind)
  have hwo : wo X k (xn x) = (xs.map xn).flatMap (wl X k) := by
    unfold wo
    rw [if_pos (Or.inr h1), hch]
  have hcl := CRq_le xs _ _ K4
  unfold RK RG
  rw [hwo]
  refine ⟨⟨hcl.2, ?_, ⟨K1.1, fun q j hq => ?_, fun j q hq => K1.2.2.1 j q hq, fun q hq => ?_⟩, ⟨meas_5 K2.1, K2.2⟩, mv.1⟩, ⟨meas_v.1, meas_v.2.1, meas_v.2.2.1⟩, ?_⟩
  · omega
  · show meas (tC t') x.1 _ _ _ q j = tC t q j
    rw [meas_n (by omega)]; exact K1.2.1 q j (by dsimp only; omega)
  · exact (mv.2 q (Or.inl hq)).trans (K1.2.2.2 q hq)
  · show meas (tC t') x.1 _ _ _ x.1 3 = tC t x.1 3
    rw [meas_v.2.2.2 3 (Nat.le_refl _)]; exact K1.2.1 x.1 3 (by dsimp only; omega)
theorem sN_s {d i si cr : Nat} {t : TS} : sN R RL (d + 1) t i si cr = fin4 i (if (R i 5).getD 0 = 0 then sChar i si (in3 i t) else if (R i 5).getD 0 = 1 then (R i 11).elim (in3 i t) (fun l => sGrp (sL R RL d) i l si cr (in3 i t)) else if (R i 5).getD 0 < 5 then sOper i si (in3 i t) else if (R i 5).getD 0 = 5 then (R i 9).elim (in3 i t) (fun a => (R i 10).elim (in3 i t) (fun b => sFrac (sN R RL d) i a b si cr (in3 i t))) else if (R i 5).getD 0 = 6 then (R i 9).elim (in3 i t) (fun u => sRoot (sN R RL d) i u si (in3 i t)) else if (R i 5).getD 0 = 7 then (R i 9).elim (in3 i t) (fun u => sHat (sN R RL d) i u si (in3 i t)) else if (R i 5).getD 0 = 8 then (R i 9).elim (in3 i t) (fun u => sBar (sN R RL d) i u si (in3 i t)) else if (R i 5).getD 0 = 9 then (R i 11).elim (in3 i t) (fun l => sSide (sL R RL d) i l si cr (in3 i t)) else sMat (sL R RL d) i (chX RL 8 162 (R i 11)) si cr (in3 i t)) := rfl
theorem rn_all (hF : FINX X B N s0) (hN9 : N ≤ 221) : ∀ (d : Nat), d ≤ 7 → RNd C0 CL0 X B R RL N d
  | 0, _ => fun _ _ _ _ _ h => h.elim
  | d + 1, hd => by
    have IH := rn_all hF hN9 d (by omega)
    have IL := r_line (by omega) IH hF hN9
    intro x t si cr k h hx0 hN h20 hs h21 hcr hk hc hI
    have hle := SN_le (C := C0) (R := R) (CL := CL0) (RL := RL) (A := B) d
    have hl9 := SN_le _ _ _ _ _ h
    obtain ⟨v, hv, h5, ⟨h1, -⟩, h2, hok, h⟩ := h
    have hn : xn x < N := by show x.1 + x.2.1 < N; omega
    have h1 : X 1 (xn x) = kR v := by rw [hF.1 1 (by decide)]; exact h1
    have h2 : X 2 (xn x) = C0 x.1 7 := by rw [hF.1 2 (by decide)]; exact h2
    have esi : ixI (X 20 (xn x)) = si := by rw [h20]; exact nI_clamp (by omega)
    have E := (hF.2.1 (xn x) hn).2.2.2
    have hI3 := in3_I (i := x.1) hI
    have hc3 : (in3 x.1 t).1 + 2 * (x.2.2.1 - x.1) ≤ 120 := hc
    rw [sN_s]
    refine fin_N hl9.1 ?_
    have ev : (R x.1 5).getD 0 = v := by rw [h5]; rfl
    rw [ev]
    unfold SK at h
    by_cases c1 : v = 0 ∨ (2 ≤ v ∧ v ≤ 4)
    · rw [if_pos c1] at h
      obtain ⟨-, -, g10, g11, g7⟩ := h
      have e10 : X 10 (xn x) = 0 := by rw [hF.1 10 (by decide)]; exact g10
      have e11 : X 11 (xn x) = 0 := by rw [hF.1 11 (by decide)]; exact g11
      by_cases c0 : v = 0
      · rw [if_pos c0]
        subst c0
        exact k_char h1 e10 e11 h2 esi E hI3 hl9.1 hc3
      · have c4 := c1.resolve_left c0
        rw [if_neg c0, if_neg (by omega), if_pos (by omega)]
        have e2 : kR v = 2 := by rcases (by omega : v = 2 ∨ v = 3 ∨ v = 4) with rfl | rfl | rfl <;> rfl
        rw [e2] at h1
        exact k_oper hs c4 h1 e10 e11 h2 (g7.resolve_left c0) esi E hI3 hl9.1 hc3
    · rw [if_neg c1] at h
      by_cases c2 : v = 1 ∨ v = 9
      · rw [if_pos c2] at h
        obtain ⟨g11, g10, g11', gL, g14, g15, g9⟩ := h
        dsimp only at g11 gL
        rcases c2 with rfl | rfl
        · rw [if_neg (by decide), if_pos rfl, g11]
          exact k_grp IL hF hN9 h1 hx0 hN g10 g11' gL g14 g15 h20 hs h21 hcr hk hc3 hI3
        · rw [if_neg (by decide), if_neg (by decide), if_neg (by decide), if_neg (by decide), if_neg (by decide), if_neg (by decide), if_neg (by decide), if_pos rfl, g11]
          exact k_side IL hF hN9 h1 hx0 hN g10 g11' gL g14 g15 h2 (by rw [hF.1 3 (by decide)]; exact (g9 rfl).1) h20 hs h21 hcr hk hc3 hI3
      · rw [if_neg c2] at h
        by_cases c3 : v = 5
        · rw [if_pos c3] at h
          subst c3
          obtain ⟨i1, l1, r9, r10, g10, g11, gA, gB⟩ := h
          dsimp only at r9 r10
          rw [if_neg (by decide), if_neg (by decide), if_neg (by decide), if_pos rfl, r9, r10]
          exact k_frac IH hF hN9 h1 hx0 hN g10 g11 gA gB h20 hs h21 hcr hk hc3 hI3
        · rw [if_neg c3] at h
          by_cases c4 : v < 9
          · rw [if_pos c4] at h
            obtain ⟨r9, g10, g11, gA⟩ := h
            dsimp only at r9
            rcases (by omega : v = 6 ∨ v = 7 ∨ v = 8) with rfl | rfl | rfl
            · rw [if_neg (by decide), if_neg (by decide), if_neg (by decide), if_neg (by decide), if_pos rfl, r9]
              exact k_root IH hF hN9 h1 hx0 hN g10 g11 gA h20 hs hk hc3 hI3
            · rw [if_neg (by decide), if_neg (by decide), if_neg (by decide), if_neg (by decide), if_neg (by decide), if_pos rfl, r9]
              exact k_acc IH hF hN9 (v := 6) (Or.inl rfl) h1 hx0 hN g10 g11 gA h20 hs hk hc3 hI3
            · rw [if_neg (by decide), if_neg (by decide), if_neg (by decide), if_neg (by decide), if_neg (by decide), if_neg (by decide), if_pos rfl, r9]
              exact k_acc IH hF hN9 (v := 7) (Or.inr rfl) h1 hx0 hN g10 g11 gA h20 hs hk hc3 hI3
          · rw [if_neg c4] at h
            have c10 : v = 10 := by omega
            subst c10
            obtain ⟨xs, hne, r11, -, -, g6, gc, gl, g7, gS, gp⟩ := h
            dsimp only at r11 gc
            rw [if_neg (by decide), if_neg (by decide), if_neg (by decide), if_neg (by decide), if_neg (by decide), if_neg (by decide), if_neg (by decide), if_neg (by decide)]
            exact k_mat (by omega) IL hF hN9 h1 hl9.1 hx0 hN hne r11 g6 gc gl g7 gS gp h20 hs h21 hcr hk hc3 hI3
end
