/-! Pure: the class's setting against the reference's arrays: an item, whole. By hand. -/
theorem mvF_0 {F : Nat → Int32} {a e : Nat} : mvF F a e 0 0 = F := by
  funext q
  unfold mvF
  rw [Int32.add_zero]
  split
  · split
    · rfl
    · split <;> rfl
  · rfl
theorem sLim_p {R : Nat → Nat → Option Nat} {i si c : Nat} {F W H D : Nat → Int32} {ro co : Int32} {C CL : Nat → Nat → Int32} {w : Int32} (hw : w = pwW (pwW (C i 0) ((R i 12).map (fun u => C u 0))) ((R i 13).map (fun l => C l 0))) : sLim R i si (c, F, W, H, D, ro, co, C, CL) = (c, (R i 13).elim ((R i 12).elim (mvN F C i ((w - C i 0) / 2) 0) (fun u => mvN (mvN F C i ((w - C i 0) / 2) 0) C u ((w - C u 0) / 2) (C i 1 + 2 * yT si + C u 2))) (fun l => mvN ((R i 12).elim (mvN F C i ((w - C i 0) / 2) 0) (fun u => mvN (mvN F C i ((w - C i 0) / 2) 0) C u ((w - C u 0) / 2) (C i 1 + 2 * yT si + C u 2))) C l ((w - C l 0) / 2) (-(C i 2 + 2 * yT si + C l 1))), W, H, D, ro, co, meas C i w ((R i 12).elim (C i 1) (fun u => C i 1 + 2 * yT si + C u 2 + C u 1)) ((R i 13).elim (C i 2) (fun l => C i 2 + 2 * yT si + C l 1 + C l 2)), CL) := by
  rw [hw]
  unfold sLim
  dsimp only
theorem sScr_p {R : Nat → Nat → Option Nat} {i si cr c : Nat} {F W H D : Nat → Int32} {ro co : Int32} {C CL : Nat → Nat → Int32} {up lx : Int32} {dn : Nat → Int32} (hup : up = (R i 12).elim 0 (fun u => raO si cr (C u 2) (C i 1))) (hdn : dn = fun l => (R i 12).elim (drO si (C l 1) (C i 2)) (fun u => drU si (C l 1) (C i 2) up (C u 2))) (hlx : lx = if R i 5 = some 4 then C i 0 - yS si else C i 0) : sScr R i si cr (c, F, W, H, D, ro, co, C, CL) = (c, (R i 13).elim ((R i 12).elim F (fun u => mvN F C u (C i 0) up)) (fun l => mvN ((R i 12).elim F (fun u => mvN F C u (C i 0) up)) C l lx (-(dn l))), W, H, D, ro, co, meas C i ((R i 13).elim ((R i 12).elim (C i 0) (fun u => mx (C i 0) (C i 0 + C u 0))) (fun l => mx ((R i 12).elim (C i 0) (fun u => mx (C i 0) (C i 0 + C u 0))) (lx + C l 0)) + yS si / 2) ((R i 12).elim (C i 1) (fun u => mx (C i 1) (up + C u 1))) ((R i 13).elim (C i 2) (fun l => mx (C i 2) (dn l + C l 2))), CL) := by
  rw [hdn, hlx, hup]
  unfold sScr
  dsimp only
section
variable {C0 : Nat → Nat → Int32} {R : Nat → Nat → Option Nat} {CL0 : Nat → Nat → Int32} {RL : Nat → Nat → Option Nat} {B X : Nat → Nat → Int32} {N s0 : Nat}
theorem r_item {d : Nat} (hd7 : d ≤ 7) (hR : RNd C0 CL0 X B R RL N d) (hF : FINX X B N s0) (hN9 : N ≤ 221) {x : XT} {t : TS} {si cr k : Nat} (h : SI R B (SN C0 R CL0 RL B d) x) (hx0 : 0 < xn x) (hN : x.2.2.1 + x.2.2.2 ≤ N) (h20 : X 20 (xn x) = nI si) (hs : si < 4) (h21 : X 21 (xn x) = nI cr) (hcr : cr < 2) (hk : 3 * d + 1 ≤ k) (hc : t.1 + 2 * (x.2.2.1 - x.1) ≤ 120) (hI : tI C0 CL0 t) : RI C0 CL0 X k x t (sItem R (sN R RL d) t x.1 si cr) := by
  have hle := SN_le (C := C0) (R := R) (CL := CL0) (RL := RL) (A := B) d
  have hP := b_N (C := C0) (R := R) (CL := CL0) (RL := RL) (B := B) (A := X) (N := N) hN9 d hd7
  obtain ⟨i1, l1, ou, ol, h1, h2, h3, h4, h5, h6, h7, ys, hy, hy2⟩ := h
  have le1 := hle _ _ _ _ h1
  obtain ⟨k, rfl⟩ : ∃ z, k = z + 1 := ⟨k - 1, by omega⟩
  have hn : xn x < N := by show x.1 + x.2.1 < N; omega
  have hRN := hR (x.1, x.2.1, i1, l1) t si cr k h1 hx0 (by dsimp only; omega) h20 hs h21 hcr (by omega) (by dsimp only; omega) hI
  dsimp only at hRN
  obtain ⟨t1, ht1⟩ : ∃ z, z = sN R RL d t x.1 si cr := ⟨_, rfl⟩
  rw [← ht1] at hRN
  obtain ⟨q20, q21, EH, E⟩ := hF.2.1 (xn x) hn
  have esi : ixI (X 20 (xn x)) = si := by rw [h20]; exact nI_clamp (by omega)
  have bq : ∀ q, ou = some q ∨ ol = some q → (i1 ≤ q.1 ∧ l1 ≤ q.2.1 ∧ q.2.2.1 ≤ x.2.2.1 ∧ q.2.2.2 ≤ x.2.2.2 ∧ q.1 < q.2.2.1 ∧ q.2.1 ≤ q.2.2.2) ∧ xn q ≠ 0 ∧ 0 < xn q ∧ xn q < N := fun q hq => by
    rcases hq with hq | hq
    · obtain ⟨q1, q2⟩ := h5 q hq
      have := hle _ _ _ _ q1.1
      refine ⟨⟨q2.1, q2.2.1, q2.2.2.1, q2.2.2.2, this.1, this.2⟩, ?_, ?_, ?_⟩
      · show q.1 + q.2.1 ≠ 0; omega
      · show 0 < q.1 + q.2.1; omega
      · show q.1 + q.2.1 < N; omega
    · obtain ⟨q1, q2⟩ := h6 q hq
      have := hle _ _ _ _ q1.1
      refine ⟨⟨q2.1, q2.2.1, q2.2.2.1, q2.2.2.2, this.1, this.2⟩, ?_, ?_, ?_⟩
      · show q.1 + q.2.1 ≠ 0; omega
      · show 0 < q.1 + q.2.1; omega
      · show q.1 + q.2.1 < N; omega
  have hu12 : ixI (X 12 (xn x)) = xo ou := by
    rw [hF.1 12 (by decide), h4.1]
    refine nI_clamp ?_
    cases ou with
    | none => decide
    | some q => have := (bq q (Or.inl rfl)).2.2.2; show xn q < _; omega
  have hl13 : ixI (X 13 (xn x)) = xo ol := by
    rw [hF.1 13 (by decide), h4.2]
    refine nI_clamp ?_
    cases ol with
    | none => decide
    | some q => have := (bq q (Or.inr rfl)).2.2.2; show xn q < _; omega
  have hES := E.2
  rw [hu12, hl13, esi] at hES
  have hv0 : ¬ X 1 (xn x) = 0 := by
    cases d with
    | zero => exact h1.elim
    | succ d =>
      obtain ⟨v, hv, -, ⟨w, -⟩, -⟩ := h1
      rw [hF.1 1 (by decide)]
      have w : B 1 (xn x) = kR v := w
      rw [w]
      rcases (by omega : v = 0 ∨ v = 1 ∨ v = 2 ∨ v = 3 ∨ v = 4 ∨ v = 5 ∨ v = 6 ∨ v = 7 ∨ v = 8 ∨ v = 9 ∨ v = 10) with rfl | rfl | rfl | rfl | rfl | rfl | rfl | rfl | rfl | rfl | rfl <;> decide
  have EH2 := EH.2.1 hv0
  rw [hu12, hl13, esi, h21] at EH2
  have hSc : ySc si < 4 := by unfold ySc; split <;> omega
  by_cases c0 : ou = none ∧ ol = none
  · -- no scripts
    obtain ⟨rfl, rfl⟩ := c0
    have e12 : R x.1 12 = none := h3.1
    have e13 : R x.1 13 = none := h3.2
    have hys : ys = [] := by rcases hy2 with e | e <;> exact e
    rw [hys] at hy
    have ei := hy.1
    have el := hy.2
    have eI : sItem R (sN R RL d) t x.1 si cr = t1 := by
      unfold sItem
      rw [if_pos ⟨e12, e13⟩, ht1]
    rw [eI]
    unfold EQ at E
    unfold ES at hES
    rw [if_pos ⟨rfl, rfl⟩] at hES
    have ewl : wl X (k + 1) (xn x) = wo X k (xn x) := by
      rw [wl_s, hu12, hl13, if_pos (show xo none = 0 from rfl), List.append_nil, List.append_nil]
    unfold RI
    rw [ewl, hES.1, hES.2.1, hES.2.2.1]
    rw [ei, el] at hRN
    obtain ⟨⟨g1, g2, g3, g4, g5⟩, g6, g7⟩ := hRN
    exact ⟨⟨g1, g2, g3, g4, REL_e g5 (by rw [hES.2.2.2]; exact Int32.add_zero _) rfl⟩, g6, g7⟩
  · obtain ⟨t2, ht2⟩ : ∃ z, z = ou.elim t1 (fun q => sN R RL d t1 q.1 (ySc si) cr) := ⟨_, rfl⟩
    obtain ⟨t3, ht3⟩ : ∃ z, z = ol.elim t2 (fun q => sN R RL d t2 q.1 (ySc si) 1) := ⟨_, rfl⟩
    have n1 : t1.1 = t.1 + (wo X k (xn x)).length := hRN.1.1
    have n2 : (wo X k (xn x)).length ≤ 2 * (i1 - x.1) := hRN.1.2.1
    have hsz : (i1 - x.1) + ou.elim 0 (fun q => q.2.2.1 - q.1) + ol.elim 0 (fun q => q.2.2.1 - q.1) ≤ x.2.2.1 - x.1 := by
      cases ou with
      | none =>
        cases ol with
        | none => show _ + 0 + 0 ≤ _; omega
        | some p => have := (bq p (Or.inr rfl)).1; show _ + 0 + (p.2.2.1 - p.1) ≤ _; omega
      | some q =>
        have a := (bq q (Or.inl rfl)).1
        cases ol with
        | none => show _ + (q.2.2.1 - q.1) + 0 ≤ _; omega
        | some p =>
          have b := (bq p (Or.inr rfl)).1
          have := h7 q p rfl rfl
          show _ + (q.2.2.1 - q.1) + (p.2.2.1 - p.1) ≤ _
          omega
    have hu1 : ∀ q, ou = some q → RI C0 CL0 X k q t1 t2 := fun q hq => by
      rw [hq] at ht2 hsz
      have hsz : (i1 - x.1) + (q.2.2.1 - q.1) + ol.elim 0 (fun q => q.2.2.1 - q.1) ≤ x.2.2.1 - x.1 := hsz
      rw [hq] at EH2
      have e := EH2.1 (bq q (Or.inl hq)).2.1
      have b := bq q (Or.inl hq)
      rw [ht2]
      exact r_part hR hF hN9 (h5 q hq).1 b.2.2.1 (by omega) e.1 hSc e.2 hcr (by omega) (by omega) hRN.1.2.2.2.1
    have hu0 : ou = none → t2 = t1 := fun hq => by rw [ht2, hq]; rfl
    have t2f : t2.1 ≤ t1.1 + 2 * ou.elim 0 (fun q => q.2.2.1 - q.1) ∧ tI C0 CL0 t2 := by
      cases ou with
      | none => rw [hu0 rfl]; exact ⟨by omega, hRN.1.2.2.2.1⟩
      | some q =>
        obtain ⟨⟨g1, g2, g3, g4, g5⟩, -⟩ := hu1 q rfl
        exact ⟨by show _ ≤ t1.1 + 2 * (q.2.2.1 - q.1); omega, g4⟩
    have hl1 : ∀ q, ol = some q → RI C0 CL0 X k q t2 t3 := fun q hq => by
      rw [hq] at ht3 hsz
      have hsz : (i1 - x.1) + ou.elim 0 (fun q => q.2.2.1 - q.1) + (q.2.2.1 - q.1) ≤ x.2.2.1 - x.1 := hsz
      rw [hq] at EH2
      have e := EH2.2 (bq q (Or.inr hq)).2.1
      have b := bq q (Or.inr hq)
      rw [ht3]
      exact r_part hR hF hN9 (h6 q hq).1 b.2.2.1 (by omega) e.1 hSc e.2 (by decide) (by omega) (by omega) t2f.2
    have hl0 : ol = none → t3 = t2 := fun hq => by rw [ht3, hq]; rfl
    -- values of the rows
    have cx : ∀ j, tC t3 x.1 j = tC t1 x.1 j := fun j => by
      have a : tC t3 x.1 j = tC t2 x.1 j := by
        cases ol with
        | none => rw [hl0 rfl]
        | some q => have b := (bq q (Or.inr rfl)).1; exact (hl1 q rfl).1.2.2.1.2.1 x.1 j (by omega)
      have b : tC t2 x.1 j = tC t1 x.1 j := by
        cases ou with
        | none => rw [hu0 rfl]
        | some q => have b := (bq q (Or.inl rfl)).1; exact (hu1 q rfl).1.2.2.1.2.1 x.1 j (by omega)
      exact a.trans b
    have v0 : tC t3 x.1 0 = X 22 (xn x) := (cx 0).trans hRN.2.1.1
    have v1 : tC t3 x.1 1 = X 23 (xn x) := (cx 1).trans hRN.2.1.2.1
    have v2 : tC t3 x.1 2 = X 24 (xn x) := (cx 2).trans hRN.2.1.2.2
    have vu : ∀ q, ou = some q → tC t3 q.1 0 = X 25 (xn q) ∧ tC t3 q.1 1 = X 26 (xn q) ∧ tC t3 q.1 2 = X 27 (xn q) := fun q hq => by
      have s : ∀ j, tC t3 q.1 j = tC t2 q.1 j := fun j => by
        cases ol with
        | none => rw [hl0 rfl]
        | some p =>
          have a := (bq q (Or.inl hq)).1
          have b := (bq p (Or.inr rfl)).1
          have c := h7 q p hq rfl
          exact (hl1 p rfl).1.2.2.1.2.1 q.1 j (by omega)
      rw [s 0, s 1, s 2]
      exact (hu1 q hq).2.1
    have vl : ∀ q, ol = some q → tC t3 q.1 0 = X 25 (xn q) ∧ tC t3 q.1 1 = X 26 (xn q) ∧ tC t3 q.1 2 = X 27 (xn q) := fun q hq => (hl1 q hq).2.1
    have e12 : R x.1 12 = ou.map (fun z => z.1) := h3.1
    have e13 : R x.1 13 = ol.map (fun z => z.1) := h3.2
    -- bounds
    have hcc := cc_7 d hd7
    have bnd : ∀ z, z ≤ 221 → cc d * z ≤ 17000000 := fun z hz => by
      have := Nat.mul_le_mul hcc hz
      omega
    have b22 := hP (x.1, x.2.1, i1, l1) h1 (by dsimp only; omega) (mz_F hF (by dsimp only; omega))
    have bb22 := bnd (sz (x.1, x.2.1, i1, l1)) (by show i1 + l1 - _ ≤ _; omega)
    have b22 : bd3 (X 22 (xn x)) (X 23 (xn x)) (X 24 (xn x)) 17000000 := bd3_w b22 bb22
    have bs : ∀ q, ou = some q ∨ ol = some q → bd3 (X 25 (xn q)) (X 26 (xn q)) (X 27 (xn q)) 17000000 := fun q hq => by
      have b := bq q hq
      have hb2 := bnd (sz q) (by show q.2.2.1 + q.2.2.2 - _ ≤ _; omega)
      rcases hq with hq | hq
      · exact bd3_w (b_B hP hle (h5 q hq).1 (by omega) (mz_F hF (by omega))) hb2
      · exact bd3_w (b_B hP hle (h6 q hq).1 (by omega) (mz_F hF (by omega))) hb2
    unfold bd3 at b22
    obtain ⟨lim1, lim2⟩ := SN_lim (x := (x.1, x.2.1, i1, l1)) h1 hF si
    dsimp only at lim1 lim2
    have lim1 : (si = 0 ∧ (R x.1 5 = some 2 ∨ R x.1 5 = some 3)) ↔ (X 1 (xn x) = 2 ∧ ¬ X 2 (xn x) = 73 ∧ si = 0) := lim1
    have lim2 : R x.1 5 = some 4 ↔ (X 1 (xn x) = 2 ∧ X 2 (xn x) = 73) := lim2
    obtain ⟨t4, ht4⟩ : ∃ z, z = (if si = 0 ∧ (R x.1 5 = some 2 ∨ R x.1 5 = some 3) then sLim R x.1 si t3 else sScr R x.1 si cr t3) := ⟨_, rfl⟩
    have eI : sItem R (sN R RL d) t x.1 si cr = fin4 x.1 t4 := by
      have hne : ¬ (R x.1 12 = none ∧ R x.1 13 = none) := fun z => c0 ⟨by rw [e12] at z; exact Option.map_eq_none_iff.mp z.1, by rw [e13] at z; exact Option.map_eq_none_iff.mp z.2⟩
      unfold sItem
      rw [if_neg hne]
      have a1 : (R x.1 12).elim (sN R RL d t x.1 si cr) (fun u => sN R RL d (sN R RL d t x.1 si cr) u (ySc si) cr) = t2 := by
        rw [e12, ← ht1, ht2]; cases ou <;> rfl
      have a2 : (R x.1 13).elim t2 (fun l => sN R RL d t2 l (ySc si) 1) = t3 := by
        rw [e13, ht3]; cases ol <;> rfl
      dsimp only
      rw [a1, a2, ← ht4]
      rfl
    rw [eI]
    have fin : ∀ (w h dd : Int32), t4.1 = t3.1 → t4.2.1 = mo1 (mo1 (mvN t3.2.1 (tC t3) x.1 (X 28 (xn x)) 0) (tC t3) ou (fun q => X 29 (xn q)) (fun q => X 30 (xn q))) (tC t3) ol (fun q => X 29 (xn q)) (fun q => X 30 (xn q)) → tC t4 = meas (tC t3) x.1 w h dd → tL t4 = tL t3 → w = X 25 (xn x) → h = X 26 (xn x) → dd = X 27 (xn x) → RI C0 CL0 X (k + 1) x t (fin4 x.1 t4) := fun w h dd a1 a2 a3 a4 a5 a6 a7 =>
      r_move (ou := ou) (ol := ol) hF hN9 hN hx0 hc ⟨le1.1, le1.2, h2.1, h2.2⟩ hRN hu0 (fun q hq => ⟨hu1 q hq, (bq q (Or.inl hq)).1, (h5 q hq).1.2.2.2.1, (h5 q hq).1.2.2.2.2⟩) hl0 (fun q hq => ⟨hl1 q hq, (bq q (Or.inr hq)).1, (h6 q hq).1.2.2.2.1, (h6 q hq).1.2.2.2.2⟩) h7 hsz hu12 hl13 (fun q hq => (bq q (Or.inl hq)).2.1) (fun q hq => (bq q (Or.inr hq)).2.1) t4 w h dd a1 a2 a3 a4 a5 a6 a7
    have u00 : ∀ q, ou = some q → ¬ xo ou = 0 := fun q hq => by rw [hq]; exact (bq q (Or.inl hq)).2.1
    have l00 : ∀ q, ol = some q → ¬ xo ol = 0 := fun q hq => by rw [hq]; exact (bq q (Or.inr hq)).2.1
    unfold ES at hES
    rw [if_neg (fun z => c0 ⟨by
      cases ou with
      | none => rfl
      | some q => exact absurd z.1 (u00 q rfl), by
      cases ol with
      | none => rfl
      | some q => exact absurd z.2 (l00 q rfl)⟩)] at hES
    obtain ⟨c3, F3, W3, H3, D3, ro3, co3, C3, CL3⟩ := t3
    dsimp only [tC] at v0 v1 v2 vu vl
    by_cases cl : si = 0 ∧ (R x.1 5 = some 2 ∨ R x.1 5 = some 3)
    · -- limits
      rw [if_pos cl] at ht4
      rw [if_pos (lim1.mp cl)] at hES
      obtain ⟨s1, s2, s3, s4, s5, s6⟩ := hES
      obtain ⟨w, hw⟩ : ∃ z, z = pwW (pwW (C3 x.1 0) ((R x.1 12).map (fun u => C3 u 0))) ((R x.1 13).map (fun l => C3 l 0)) := ⟨_, rfl⟩
      have ew : w = X 25 (xn x) := by
        rw [hw, e_lim (by rw [v0]; omega) _ _ (fun z => c0 ⟨by
          have := Option.map_eq_none_iff.mp z.1
          rw [e12] at this
          exact Option.map_eq_none_iff.mp this, by
          have := Option.map_eq_none_iff.mp z.2
          rw [e13] at this
          exact Option.map_eq_none_iff.mp this⟩), s1, v0, e12, e13]
        have a1 : ((ou.map (fun z => z.1)).map (fun u => C3 u 0)).elim 0 id = if xo ou = 0 then 0 else X 25 (xo ou) := by
          cases ou with
          | none => rfl
          | some q => rw [if_neg (u00 q rfl)]; exact (vu q rfl).1
        have a2 : ((ol.map (fun z => z.1)).map (fun u => C3 u 0)).elim 0 id = if xo ol = 0 then 0 else X 25 (xo ol) := by
          cases ol with
          | none => rfl
          | some q => rw [if_neg (l00 q rfl)]; exact (vl q rfl).1
        rw [a1, a2]
      refine fin w ((R x.1 12).elim (C3 x.1 1) (fun u => C3 x.1 1 + 2 * yT si + C3 u 2 + C3 u 1)) ((R x.1 13).elim (C3 x.1 2) (fun l => C3 x.1 2 + 2 * yT si + C3 l 1 + C3 l 2)) ?_ ?_ ?_ ?_ ew ?_ ?_
      · rw [ht4, sLim_p hw]
      · have e0 : t4.2.1 = (R x.1 13).elim ((R x.1 12).elim (mvN F3 C3 x.1 ((w - C3 x.1 0) / 2) 0) (fun u => mvN (mvN F3 C3 x.1 ((w - C3 x.1 0) / 2) 0) C3 u ((w - C3 u 0) / 2) (C3 x.1 1 + 2 * yT si + C3 u 2))) (fun l => mvN ((R x.1 12).elim (mvN F3 C3 x.1 ((w - C3 x.1 0) / 2) 0) (fun u => mvN (mvN F3 C3 x.1 ((w - C3 x.1 0) / 2) 0) C3 u ((w - C3 u 0) / 2) (C3 x.1 1 + 2 * yT si + C3 u 2))) C3 l ((w - C3 l 0) / 2) (-(C3 x.1 2 + 2 * yT si + C3 l 1))) := by rw [ht4, sLim_p hw]
        rw [e0, e12, e13, ew, v0, v1, v2, ← s2]
        have a1 : (ou.map (fun z => z.1)).elim (mvN F3 C3 x.1 (X 28 (xn x)) 0) (fun u => mvN (mvN F3 C3 x.1 (X 28 (xn x)) 0) C3 u ((X 25 (xn x) - C3 u 0) / 2) (X 23 (xn x) + 2 * yT si + C3 u 2)) = mo1 (mvN F3 C3 x.1 (X 28 (xn x)) 0) C3 ou (fun q => X 29 (xn q)) (fun q => X 30 (xn q)) := by
          cases ou with
          | none => rfl
          | some q =>
            have g := s3 (u00 q rfl)
            show mvN _ C3 q.1 ((X 25 (xn x) - C3 q.1 0) / 2) (X 23 (xn x) + 2 * yT si + C3 q.1 2) = mvN _ C3 q.1 (X 29 (xn q)) (X 30 (xn q))
            rw [(vu q rfl).1, (vu q rfl).2.2]
            have g1 : X 29 (xn q) = (X 25 (xn x) - X 25 (xn q)) / 2 := g.1
            have g2 : X 30 (xn q) = X 23 (xn x) + 2 * yT si + X 27 (xn q) := g.2
            rw [g1, g2]
        rw [a1]
        cases ol with
        | none => rfl
        | some q =>
          have g := s5 (l00 q rfl)
          have g1 : X 29 (xn q) = (X 25 (xn x) - X 25 (xn q)) / 2 := g.1
          have g2 : X 30 (xn q) = -(X 24 (xn x) + 2 * yT si + X 26 (xn q)) := g.2
          show mvN _ C3 q.1 ((X 25 (xn x) - C3 q.1 0) / 2) (-(X 24 (xn x) + 2 * yT si + C3 q.1 1)) = mvN _ C3 q.1 (X 29 (xn q)) (X 30 (xn q))
          rw [(vl q rfl).1, (vl q rfl).2.1, g1, g2]
      · rw [ht4, sLim_p hw]
      · rw [ht4, sLim_p hw]
      · rw [s4, e12, v1]
        cases ou with
        | none => rfl
        | some q =>
          rw [if_neg (u00 q rfl)]
          show X 23 (xn x) + 2 * yT si + C3 q.1 2 + C3 q.1 1 = X 23 (xn x) + 2 * yT si + X 27 (xn q) + X 26 (xn q)
          rw [(vu q rfl).2.1, (vu q rfl).2.2]
      · rw [s6, e13, v2]
        cases ol with
        | none => rfl
        | some q =>
          rw [if_neg (l00 q rfl)]
          show X 24 (xn x) + 2 * yT si + C3 q.1 1 + C3 q.1 2 = X 27 (xn q) - -(X 24 (xn x) + 2 * yT si + X 26 (xn q))
          rw [(vl q rfl).2.1, (vl q rfl).2.2]
          grind
    · -- scripts
      rw [if_neg cl] at ht4
      rw [if_neg (fun z => cl (lim1.mpr z))] at hES
      obtain ⟨s1, s2, s3, s4, s5, s6⟩ := hES
      have eup : ∀ q, ou = some q → raO si cr (C3 q.1 2) (C3 x.1 1) = vUp si (X 21 (xn x)) (X 23 (xn x)) (X 27 (xn q)) := fun q hq => by
        rw [(vu q hq).2.2, v1]; exact e_up hcr h21
      obtain ⟨up, hup⟩ : ∃ z, z = (R x.1 12).elim 0 (fun u => raO si cr (C3 u 2) (C3 x.1 1)) := ⟨_, rfl⟩
      have hupq : ∀ q, ou = some q → up = vUp si (X 21 (xn x)) (X 23 (xn x)) (X 27 (xn q)) := fun q hq => by
        rw [hup, e12, hq]; exact eup q hq
      obtain ⟨dn, hdn⟩ : ∃ z : Nat → Int32, z = fun l => (R x.1 12).elim (drO si (C3 l 1) (C3 x.1 2)) (fun u => drU si (C3 l 1) (C3 x.1 2) up (C3 u 2)) := ⟨_, rfl⟩
      obtain ⟨lx, hlx⟩ : ∃ z, z = if R x.1 5 = some 4 then C3 x.1 0 - yS si else C3 x.1 0 := ⟨_, rfl⟩
      have elx : lx = vLx X (xn x) si := by
        rw [hlx, v0]
        unfold vLx
        by_cases c : R x.1 5 = some 4
        · rw [if_pos c, if_pos (lim2.mp c)]
        · rw [if_neg c, if_neg (fun z => c (lim2.mpr z))]
      have edn : ∀ p, ol = some p → dn p.1 = if xo ou = 0 then vD0 si (X 24 (xn x)) (X 26 (xn p)) else vDn si (vUp si (X 21 (xn x)) (X 23 (xn x)) (X 27 (xo ou))) (X 27 (xo ou)) (X 26 (xn p)) (vD0 si (X 24 (xn x)) (X 26 (xn p))) := fun p hp => by
        have bp := bs p (Or.inr hp)
        unfold bd3 at bp
        rw [hdn]
        show (R x.1 12).elim (drO si (C3 p.1 1) (C3 x.1 2)) (fun u => drU si (C3 p.1 1) (C3 x.1 2) up (C3 u 2)) = _
        rw [e12, (vl p hp).2.1, v2]
        cases hou : ou with
        | none =>
          rw [if_pos (show xo none = 0 from rfl)]
          exact e_d0
        | some q =>
          have b := bs q (Or.inl hou)
          unfold bd3 at b
          rw [if_neg (by have := u00 q hou; rw [hou] at this; exact this)]
          show drU si (X 26 (xn p)) (X 24 (xn x)) up (C3 q.1 2) = vDn si (vUp si (X 21 (xn x)) (X 23 (xn x)) (X 27 (xn q))) (X 27 (xn q)) (X 26 (xn p)) (vD0 si (X 24 (xn x)) (X 26 (xn p)))
          rw [(vu q hou).2.2, hupq q hou]
          have fu := v_up hs (cr := X 21 (xn x)) (h := X 23 (xn x)) (ud := X 27 (xn q)) (by omega) (by omega)
          exact e_dn hs (by omega) (by omega) (by omega) (by omega)
      have em0 : mvN F3 C3 x.1 (X 28 (xn x)) 0 = F3 := by
        rw [s1]; unfold mvN; exact mvF_0
      have eF : t4.2.1 = (R x.1 13).elim ((R x.1 12).elim F3 (fun u => mvN F3 C3 u (C3 x.1 0) up)) (fun l => mvN ((R x.1 12).elim F3 (fun u => mvN F3 C3 u (C3 x.1 0) up)) C3 l lx (-(dn l))) := by rw [ht4, sScr_p hup hdn hlx]
      have eC : tC t4 = meas C3 x.1 ((R x.1 13).elim ((R x.1 12).elim (C3 x.1 0) (fun u => mx (C3 x.1 0) (C3 x.1 0 + C3 u 0))) (fun l => mx ((R x.1 12).elim (C3 x.1 0) (fun u => mx (C3 x.1 0) (C3 x.1 0 + C3 u 0))) (lx + C3 l 0)) + yS si / 2) ((R x.1 12).elim (C3 x.1 1) (fun u => mx (C3 x.1 1) (up + C3 u 1))) ((R x.1 13).elim (C3 x.1 2) (fun l => mx (C3 x.1 2) (dn l + C3 l 2))) := by rw [ht4, sScr_p hup hdn hlx]
      refine fin _ _ _ ?_ ?_ eC ?_ ?_ ?_ ?_
      · rw [ht4, sScr_p hup hdn hlx]
      · rw [eF, e12, e13, v0]
        show _ = mo1 (mo1 (mvN F3 C3 x.1 (X 28 (xn x)) 0) C3 ou (fun q => X 29 (xn q)) (fun q => X 30 (xn q))) C3 ol (fun q => X 29 (xn q)) (fun q => X 30 (xn q))
        rw [em0]
        have a1 : (ou.map (fun z => z.1)).elim F3 (fun u => mvN F3 C3 u (X 22 (xn x)) up) = mo1 F3 C3 ou (fun q => X 29 (xn q)) (fun q => X 30 (xn q)) := by
          cases hou : ou with
          | none => rfl
          | some q =>
            have g := s2 (u00 q hou)
            rw [hou] at g
            have g1 : X 29 (xn q) = X 22 (xn x) := g.1
            have g2 : X 30 (xn q) = vUp si (X 21 (xn x)) (X 23 (xn x)) (X 27 (xn q)) := g.2
            show mvN F3 C3 q.1 (X 22 (xn x)) up = mvN F3 C3 q.1 (X 29 (xn q)) (X 30 (xn q))
            rw [g1, g2, hupq q hou]
        rw [a1]
        cases hol : ol with
        | none => rfl
        | some q =>
          have g := s4 (l00 q hol)
          rw [hol] at g
          have g1 : X 29 (xn q) = vLx X (xn x) si := g.1
          have g2 : X 30 (xn q) = -(if xo ou = 0 then vD0 si (X 24 (xn x)) (X 26 (xn q)) else vDn si (vUp si (X 21 (xn x)) (X 23 (xn x)) (X 27 (xo ou))) (X 27 (xo ou)) (X 26 (xn q)) (vD0 si (X 24 (xn x)) (X 26 (xn q)))) := g.2
          show mvN _ C3 q.1 lx (-(dn q.1)) = mvN _ C3 q.1 (X 29 (xn q)) (X 30 (xn q))
          rw [g1, g2, elx, edn q hol]
      · rw [ht4, sScr_p hup hdn hlx]
      · rw [s6, e12, e13, v0]
        have a1 : (ou.map (fun z => z.1)).elim (X 22 (xn x)) (fun u => mx (X 22 (xn x)) (X 22 (xn x) + C3 u 0)) = if xo ou = 0 then X 22 (xn x) else X 22 (xn x) + X 25 (xo ou) := by
          cases hou : ou with
          | none => rw [if_pos (show xo none = 0 from rfl)]; rfl
          | some q =>
            have b := bs q (Or.inl hou)
            unfold bd3 at b
            rw [if_neg (by have := u00 q hou; rw [hou] at this; exact this)]
            show mx (X 22 (xn x)) (X 22 (xn x) + C3 q.1 0) = X 22 (xn x) + X 25 (xn q)
            rw [(vu q hou).1]
            exact e_w1 (by omega) (by omega)
        rw [a1]
        cases hol : ol with
        | none =>
          have hou : ¬ xo ou = 0 := by
            cases hou : ou with
            | none => exact absurd ⟨hou, hol⟩ c0
            | some q => have := u00 q hou; rw [hou] at this; exact this
          rw [if_neg hou, if_pos (show xo none = 0 from rfl)]
          show X 22 (xn x) + X 25 (xo ou) + yS si / 2 = X 22 (xn x) + X 25 (xo ou) + yS si / 2
          exact rfl
        | some q =>
          rw [if_neg (show ¬ xo (some q) = 0 by have := l00 q hol; rw [hol] at this; exact this)]
          show mx (if xo ou = 0 then X 22 (xn x) else X 22 (xn x) + X 25 (xo ou)) (lx + C3 q.1 0) + yS si / 2 = _
          rw [elx, (vl q hol).1]
          by_cases c : xo ou = 0
          · rw [if_pos c, if_pos c, ms_mx, show xo (some q) = xn q from rfl]
          · rw [if_neg c, if_neg c, ms_mx, show xo (some q) = xn q from rfl]
      · rw [s3, e12, v1]
        cases hou : ou with
        | none => rw [if_pos (show xo none = 0 from rfl)]; rfl
        | some q =>
          rw [if_neg (by have := u00 q hou; rw [hou] at this; exact this)]
          show mx (X 23 (xn x)) (up + C3 q.1 1) = ms (X 23 (xn x)) (vUp si (X 21 (xn x)) (X 23 (xn x)) (X 27 (xn q)) + X 26 (xn q))
          rw [ms_mx, hupq q hou, (vu q hou).2.1]
      · rw [s5, e13, v2]
        cases hol : ol with
        | none => rw [if_pos (show xo none = 0 from rfl)]; rfl
        | some q =>
          rw [if_neg (by have := l00 q hol; rw [hol] at this; exact this)]
          show mx (X 24 (xn x)) (dn q.1 + C3 q.1 2) = ms (X 24 (xn x)) ((if xo ou = 0 then vD0 si (X 24 (xn x)) (X 26 (xn q)) else vDn si (vUp si (X 21 (xn x)) (X 23 (xn x)) (X 27 (xo ou))) (X 27 (xo ou)) (X 26 (xn q)) (vD0 si (X 24 (xn x)) (X 26 (xn q)))) + X 27 (xn q))
          rw [ms_mx, edn q hol, (vl q hol).2.2]
end
