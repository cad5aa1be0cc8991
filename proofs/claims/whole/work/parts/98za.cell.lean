/-! Pure: the cells of a matrix. By hand. -/
/-- a line's row keeps all but where its items begin -/
theorem ln_row {f : Nat → Int32} {L : Nat} {N N1 : RT → Option RT} {j : Nat} (hN : gK L N) (hN1 : gK L N1) : ∀ (t : Nat) (its : List Nat) (S S' : RT), S.1 ≤ 60 → S.2.1 ≤ 161 → S.2.2.1 ≤ L → j < S.2.1 → pLine f L N N1 j t its S = some S' → ∀ c, c ≠ 5 → S'.2.2.2.2.2.2 j c = S.2.2.2.2.2.2 j c
  | 0, _, _, _, _, _, _, _, e, _, _ => nomatch e
  | t + 1, its, (nc, lc, a, C, R, CL, RL), S', h1, h2, h3, hj, e, c, hc => by
    unfold pLine at e
    dsimp only at h1 h2 h3 hj ⊢
    have hs := sk_L (f := f) h3
    by_cases q : lend f L (sk f L a)
    · rw [if_pos q] at e
      obtain rfl := Option.some.inj e
      rfl
    · rw [if_neg q] at e
      rcases e1 : N (nc, lc, sk f L a, C, R, CL, RL) with _ | S1
      · rw [e1] at e; exact absurd e (by simp)
      · rw [e1, Option.bind_some] at e
        have k1 := hN _ _ (show nc ≤ 60 from h1) (show lc ≤ 161 from h2) (show sk f L a ≤ L from hs) e1
        rcases e2 : pScr f L N1 nc 2 S1 with _ | ⟨nc2, lc2, a2, C2, R2, CL2, RL2⟩
        · rw [e2] at e; exact absurd e (by simp)
        · rw [e2, Option.bind_some] at e
          have k2 := kp_scr (f := f) (E := kF) (S0 := (nc, lc, sk f L a, C, R, CL, RL)) (i := nc) hN1 (Or.inl (Nat.le_refl _)) 2 S1 _ k1 e2
          have hn2 : nc2 ≤ 60 := k2.1.2.1
          have hl2 : lc2 ≤ 161 := k2.1.2.2.2.1
          have ha2 : a2 ≤ L := k2.1.2.2.2.2.1
          have hll : lc ≤ lc2 := k2.1.2.2.1
          have hr : RL2 j c = RL j c := (k2.1.2.2.2.2.2.2 j c hj).2
          rcases hl : its.getLast? with _ | q9
          · rw [hl] at e
            rw [ln_row hN hN1 t _ _ _ hn2 hl2 ha2 (Nat.lt_of_lt_of_le hj hll) e c hc]
            exact (sT_ne (fun z => hc z.2)).trans hr
          · rw [hl] at e
            rw [ln_row hN hN1 t _ _ _ hn2 hl2 ha2 (Nat.lt_of_lt_of_le hj hll) e c hc]
            exact hr
theorem pL_8 {f : Nat → Int32} {L d nc lc a nc1 lc1 a1 : Nat} {C C1 : Nat → Nat → Int32} {R R1 : Nat → Nat → Option Nat} {CL CL1 : Nat → Nat → Int32} {RL RL1 : Nat → Nat → Option Nat} (hn : nc ≤ 60) (ha : a ≤ L) (e : pL f L d (nc, lc, a, C, R, CL, RL) = some (nc1, lc1, a1, C1, R1, CL1, RL1)) : RL1 lc 8 = none := by
  have e : pLn f L (pN f L d) (pN f L (d - 1)) (nc, lc, a, C, R, CL, RL) = some (nc1, lc1, a1, C1, R1, CL1, RL1) := e
  simp only [pLn] at e
  by_cases q : lc < 161
  · rw [if_pos q] at e
    have g := ln_row (pN_gK f L d).1 (pN_gK f L (d - 1)).1 61 [] _ _ (show nc ≤ 60 from hn) (show lc + 1 ≤ 161 by omega) (show a ≤ L from ha) (Nat.lt_succ_self lc) e 8 (by decide)
    exact g.trans (congrFun upT_same 8)
  · rw [if_neg q] at e; exact absurd e (by simp)
theorem ln_sk {f : Nat → Int32} {L : Nat} {N N1 : RT → Option RT} {j : Nat} : ∀ (t : Nat) (its : List Nat) (S S' : RT), pLine f L N N1 j t its S = some S' → sk f L S'.2.2.1 = S'.2.2.1
  | 0, _, _, _, e => nomatch e
  | t + 1, its, (nc, lc, a, C, R, CL, RL), S', e => by
    unfold pLine at e
    by_cases q : lend f L (sk f L a)
    · rw [if_pos q] at e
      obtain rfl := Option.some.inj e
      exact sk_id f L _ a rfl
    · rw [if_neg q] at e
      rcases e1 : N (nc, lc, sk f L a, C, R, CL, RL) with _ | S1
      · rw [e1] at e; exact absurd e (by simp)
      · rw [e1, Option.bind_some] at e
        rcases e2 : pScr f L N1 nc 2 S1 with _ | ⟨nc2, lc2, a2, C2, R2, CL2, RL2⟩
        · rw [e2] at e; exact absurd e (by simp)
        · rw [e2, Option.bind_some] at e
          exact ln_sk t _ _ _ e
theorem pL_sk {f : Nat → Int32} {L d nc lc a nc1 lc1 a1 : Nat} {C C1 : Nat → Nat → Int32} {R R1 : Nat → Nat → Option Nat} {CL CL1 : Nat → Nat → Int32} {RL RL1 : Nat → Nat → Option Nat} (e : pL f L d (nc, lc, a, C, R, CL, RL) = some (nc1, lc1, a1, C1, R1, CL1, RL1)) : sk f L a1 = a1 := by
  have e : pLn f L (pN f L d) (pN f L (d - 1)) (nc, lc, a, C, R, CL, RL) = some (nc1, lc1, a1, C1, R1, CL1, RL1) := e
  simp only [pLn] at e
  by_cases q : lc < 161
  · rw [if_pos q] at e
    exact ln_sk _ _ _ _ e
  · rw [if_neg q] at e; exact absurd e (by simp)
/-- where cells stand, from (r, c) to (r', c') -/
def cpq (CL : Nat → Nat → Int32) : Nat → Nat → List XT → Nat → Nat → Prop
  | r, c, [], r', c' => r = r' ∧ c = c'
  | r, c, q :: t, r', c' => r < 8 ∧ c < 8 ∧ CL q.2.1 6 = nI r ∧ CL q.2.1 7 = nI c ∧ (cpq CL r (c + 1) t r' c' ∨ cpq CL (r + 1) 0 t r' c')
theorem cpq_o {CL : Nat → Nat → Int32} : ∀ (xs : List XT) (r c r' c' : Nat), cpq CL r c xs r' c' → cpo CL r c xs
  | [], _, _, _, _, _ => trivial
  | _ :: t, _, _, _, _, h => ⟨h.1, h.2.1, h.2.2.1, h.2.2.2.1, h.2.2.2.2.imp (cpq_o t _ _ _ _) (cpq_o t _ _ _ _)⟩
theorem cpq_app {CL CL' : Nat → Nat → Int32} {n : XT} {r' c' r2 c2 : Nat} (h8 : r' < 8) (h9 : c' < 8) (hr : CL' n.2.1 6 = nI r') (hc : CL' n.2.1 7 = nI c') (h2 : (r2 = r' ∧ c2 = c' + 1) ∨ (r2 = r' + 1 ∧ c2 = 0)) : ∀ (xs : List XT) (r c : Nat), (∀ q ∈ xs, CL' q.2.1 6 = CL q.2.1 6 ∧ CL' q.2.1 7 = CL q.2.1 7) → cpq CL r c xs r' c' → cpq CL' r c (xs ++ [n]) r2 c2
  | [], r, c, _, h => by
    obtain ⟨rfl, rfl⟩ := h
    exact ⟨h8, h9, hr, hc, h2.imp (fun z => ⟨z.1.symm, z.2.symm⟩) (fun z => ⟨z.1.symm, z.2.symm⟩)⟩
  | q :: t, r, c, hk, h => by
    have k := hk q List.mem_cons_self
    have kt := fun p hp => hk p (List.mem_cons_of_mem q hp)
    exact ⟨h.1, h.2.1, k.1.trans h.2.2.1, k.2.trans h.2.2.2.1, h.2.2.2.2.imp (cpq_app h8 h9 hr hc h2 t _ _ kt) (cpq_app h8 h9 hr hc h2 t _ _ kt)⟩
theorem lkA_xn {f : Nat → Int32} : ∀ (xs ys : List XT), xs.map xn = ys.map xn → lkA f xs → lkA f ys
  | [], [], _, _ => trivial
  | [], _ :: _, e, _ => by cases e
  | _ :: _, [], e, _ => by cases e
  | x :: xs, y :: ys, e, h => by
    have e1 : xn x = xn y := (List.cons.inj e).1
    have e2 : xs.map xn = ys.map xn := (List.cons.inj e).2
    refine ⟨?_, lkA_xn xs ys e2 h.2⟩
    have h1 := h.1
    rw [e1] at h1
    rw [h1]
    cases xs with
    | nil => cases ys with
      | nil => rfl
      | cons _ _ => cases e2
    | cons p xs => cases ys with
      | nil => cases e2
      | cons q ys => exact congrArg nI (show xn p = xn q from (List.cons.inj e2).1)
/-- cells as far as they are read -/
def PCl (d i l0 n0 : Nat) (C : Nat → Nat → Int32) (R : Nat → Nat → Option Nat) (CL : Nat → Nat → Int32) (RL : Nat → Nat → Option Nat) (A : Nat → Nat → Int32) (nc lc row col : Nat) (xs : List XT) : Prop := chn (i + 1) l0 xs nc lc ∧ (∀ q ∈ xs, SL R RL A (SN C R CL RL A d) q ∧ A 14 (xn q) = nI n0 ∧ A 15 (xn q) = 0 ∧ A 8 (xn q) = CL q.2.1 6 ∧ A 9 (xn q) = CL q.2.1 7) ∧ lkL RL xs ∧ cpq CL 0 0 xs row col
theorem PCl_le {d i l0 n0 : Nat} {C : Nat → Nat → Int32} {R : Nat → Nat → Option Nat} {CL : Nat → Nat → Int32} {RL : Nat → Nat → Option Nat} {A : Nat → Nat → Int32} {nc lc row col : Nat} {xs : List XT} (h : PCl d i l0 n0 C R CL RL A nc lc row col xs) : (∀ q ∈ xs, q.1 ≤ q.2.2.1 ∧ q.2.1 < q.2.2.2) ∧ (∀ q ∈ xs, i + 1 ≤ q.1 ∧ l0 ≤ q.2.1 ∧ q.2.2.1 ≤ nc ∧ q.2.2.2 ≤ lc) ∧ xs.length + l0 ≤ lc ∧ i + 1 ≤ nc ∧ l0 ≤ lc := by
  have hle := SN_le (C := C) (R := R) (CL := CL) (RL := RL) (A := A) d
  have h1 : ∀ q ∈ xs, q.1 ≤ q.2.2.1 ∧ q.2.1 < q.2.2.2 := fun q hq => SL_le hle (h.2.1 q hq).1
  have h3 := chn_le hle xs _ _ _ _ h.1 (fun q hq => by have := h1 q hq; omega)
  exact ⟨h1, chn_in xs _ _ _ _ h.1 (fun q hq => by have := h1 q hq; omega), chn_lenL xs _ _ _ _ h.1 (fun q hq => (h1 q hq).2), h3.1, h3.2⟩
/-- the tables stay, the arrays change beyond, or at the last cell's link -/
theorem PCl_A {d i l0 n0 : Nat} {C : Nat → Nat → Int32} {R : Nat → Nat → Option Nat} {CL : Nat → Nat → Int32} {RL : Nat → Nat → Option Nat} {A A' : Nat → Nat → Int32} {nc lc row col : Nat} {xs : List XT} (h : PCl d i l0 n0 C R CL RL A nc lc row col xs) (hA : ∀ q ∈ xs, (∀ k, 1 ≤ k → k ≤ 15 → k ≠ 7 → A' k (xn q) = A k (xn q)) ∧ ∀ m, q.1 + (q.2.1 + 1) ≤ m → m < q.2.2.1 + q.2.2.2 → ∀ k, 1 ≤ k → k ≤ 15 → A' k m = A k m) : PCl d i l0 n0 C R CL RL A' nc lc row col xs := by
  obtain ⟨h1, h2, h3, h4⟩ := h
  refine ⟨h1, fun q hq => ?_, h3, h4⟩
  obtain ⟨s1, s2, s3, s4, s5⟩ := h2 q hq
  obtain ⟨g1, g2⟩ := hA q hq
  exact ⟨SL_ag (C := C) (CL := CL) (C' := C) (CL' := CL) (SN_le d) (fun x => SN_ag d x) s1 ⟨rfl, fun k hk => g1 k (by omega) (by omega) (by omega), fun _ _ _ => ⟨rfl, rfl, fun _ => rfl⟩, fun _ _ _ => ⟨rfl, rfl, rfl, rfl⟩, g2⟩, (g1 14 (by decide) (by decide) (by decide)).trans s2, (g1 15 (by decide) (by decide) (by decide)).trans s3, (g1 8 (by decide) (by decide) (by decide)).trans s4, (g1 9 (by decide) (by decide) (by decide)).trans s5⟩
theorem PCl_step {d i l0 n0 : Nat} {C : Nat → Nat → Int32} {R : Nat → Nat → Option Nat} {CL : Nat → Nat → Int32} {RL : Nat → Nat → Option Nat} {A C1 : Nat → Nat → Int32} {R1 : Nat → Nat → Option Nat} {CL1 : Nat → Nat → Int32} {RL1 : Nat → Nat → Option Nat} {A1 : Nat → Nat → Int32} {R' : Nat → Nat → Option Nat} {CL' : Nat → Nat → Int32} {RL' : Nat → Nat → Option Nat} {nc lc nc1 lc1 row col r2 c2 : Nat} {xs : List XT} (h : PCl d i l0 n0 C R CL RL A nc lc row col xs) (hS : SL R1 RL1 A1 (SN C1 R1 CL1 RL1 A1 d) (nc, lc, nc1, lc1)) (h8 : row < 8) (h9 : col < 8) (h2 : (r2 = row ∧ c2 = col + 1) ∨ (r2 = row + 1 ∧ c2 = 0))
    (kR : ∀ q c, q < nc → C1 q c = C q c ∧ R1 q c = R q c) (kL : ∀ q c, q < lc → CL1 q c = CL q c ∧ RL1 q c = RL q c) (kA : ∀ k, 1 ≤ k → k ≤ 15 → ∀ m, m < nc + lc → A1 k m = A k m) (hR' : ∀ q c, q ≠ i → R' q c = R1 q c) (hCL' : ∀ q c, q ≠ lc → CL' q c = CL1 q c) (h6 : CL' lc 6 = nI row) (h7 : CL' lc 7 = nI col) (hRL' : ∀ q c, (c ≠ 8 ∨ ∀ z, xs.getLast? = some z → q ≠ z.2.1) → RL' q c = RL1 q c) (hz : ∀ z, xs.getLast? = some z → RL' z.2.1 8 = some lc) (h18 : RL1 lc 8 = none) (a14 : A1 14 (nc + lc) = nI n0) (a15 : A1 15 (nc + lc) = 0) (a8 : A1 8 (nc + lc) = nI row) (a9 : A1 9 (nc + lc) = nI col) : PCl d i l0 n0 C1 R' CL' RL' A1 nc1 lc1 r2 c2 (xs ++ [(nc, lc, nc1, lc1)]) := by
  obtain ⟨b1, b2, b3, b4, b5⟩ := PCl_le h
  obtain ⟨h1, g2, g3, g4⟩ := h
  have hlast := chn_last xs _ _ _ _ h1 (fun q hq => by have := b1 q hq; omega)
  have hlc : ∀ z, xs.getLast? = some z → z.2.1 < lc := fun z hz => by
    have q1 := b1 z (List.mem_of_getLast? hz)
    have q2 := b2 z (List.mem_of_getLast? hz)
    omega
  have hC6 : ∀ q ∈ xs, ∀ c, CL' q.2.1 c = CL q.2.1 c := fun q hq c => by
    have q1 := b1 q hq
    have q2 := b2 q hq
    exact (hCL' _ c (by omega)).trans (kL _ c (by omega)).1
  refine ⟨chn_app xs _ _ _ _ _ _ h1, fun q hq => ?_, ?_, cpq_app h8 h9 h6 h7 h2 xs 0 0 (fun q hq => ⟨hC6 q hq 6, hC6 q hq 7⟩) g4⟩
  · rcases List.mem_append.mp hq with hq | hq
    · have q1 := b1 q hq
      have q2 := b2 q hq
      obtain ⟨s1, s2, s3, s4, s5⟩ := g2 q hq
      have hxq : ∀ k, 1 ≤ k → k ≤ 15 → A1 k (xn q) = A k (xn q) := fun k k1 k2 => kA k k1 k2 _ (by show q.1 + q.2.1 < _; omega)
      refine ⟨SL_ag (C := C) (CL := CL) (C' := C1) (CL' := CL') (SN_le d) (fun x => SN_ag d x) s1 ⟨(hRL' _ 5 (Or.inl (by decide))).trans (kL _ 5 (by omega)).2, fun k hk => hxq k (by omega) (by omega), fun p p1 p2 => ?_, fun p p1 p2 => ?_, fun m m1 m2 k k1 k2 => ?_⟩, (hxq 14 (by decide) (by decide)).trans s2, (hxq 15 (by decide) (by decide)).trans s3, ?_, ?_⟩
      · dsimp only at p1 p2
        exact ⟨(kR p 7 (by omega)).1, (kR p 8 (by omega)).1, fun k => (hR' p k (by omega)).trans (kR p k (by omega)).2⟩
      · dsimp only at p1 p2
        have hne : ∀ z, xs.getLast? = some z → p ≠ z.2.1 := fun z hz => by
          rcases hlast q hq z hz with rfl | g
          · omega
          · omega
        exact ⟨(hCL' p 6 (by omega)).trans (kL p 6 (by omega)).1, (hCL' p 7 (by omega)).trans (kL p 7 (by omega)).1, (hRL' p 5 (Or.inl (by decide))).trans (kL p 5 (by omega)).2, (hRL' p 8 (Or.inr hne)).trans (kL p 8 (by omega)).2⟩
      · have m2 : m < q.2.2.1 + q.2.2.2 := m2
        exact kA k k1 k2 m (by omega)
      · rw [hxq 8 (by decide) (by decide), hC6 q hq 6]; exact s4
      · rw [hxq 9 (by decide) (by decide), hC6 q hq 7]; exact s5
    · rw [List.mem_singleton.mp hq]
      refine ⟨SL_ag (C := C1) (CL := CL1) (C' := C1) (CL' := CL') (SN_le d) (fun x => SN_ag d x) hS ⟨hRL' _ 5 (Or.inl (by decide)), fun _ _ => rfl, fun p p1 p2 => ⟨rfl, rfl, fun k => hR' p k (by dsimp only at p1; omega)⟩, fun p p1 p2 => ?_, fun _ _ _ _ _ _ => rfl⟩, a14, a15, a8.trans h6.symm, a9.trans h7.symm⟩
      dsimp only at p1 p2
      exact ⟨hCL' p 6 (by omega), hCL' p 7 (by omega), hRL' p 5 (Or.inl (by decide)), hRL' p 8 (Or.inr fun z hz => by have := hlc z hz; omega)⟩
  · refine lkL_end ((hRL' lc 8 (Or.inr fun z hz => by have := hlc z hz; omega)).trans h18) xs g3 (chn_ndL xs _ _ _ _ h1 b1) (fun q hq hz => ?_) hz
    have q1 := b1 q hq
    have q2 := b2 q hq
    exact (hRL' _ 8 (Or.inr hz)).trans (kL _ 8 (by omega)).2
/-- what making a further cell changes -/
theorem cell_facts {A : Nat → Nat → Int32} {N O q : Nat} {rr cc : Int32} (hq : q ≠ N) : rf_cell A N O q rr cc 0 = A 0 ∧ (∀ m, m ≠ N → m ≠ q → ∀ k, k ≤ 15 → rf_cell A N O q rr cc k m = A k m) ∧ (∀ k, k ≤ 15 → k ≠ 7 → rf_cell A N O q rr cc k q = A k q) ∧ rf_cell A N O q rr cc 7 q = nI N ∧ (rf_cell A N O q rr cc 8 N = rr ∧ rf_cell A N O q rr cc 9 N = cc ∧ rf_cell A N O q rr cc 14 N = A 17 (O - 1)) ∧ (∀ k, k = 1 ∨ k = 6 ∨ k = 7 ∨ k = 10 ∨ k = 11 ∨ k = 12 ∨ k = 13 ∨ k = 15 → rf_cell A N O q rr cc k N = 0) ∧ (rf_cell A N O q rr cc 18 (O - 1) = nI N ∧ rf_cell A N O q rr cc 19 (O - 1) = 0) ∧ ∀ k j, 16 ≤ k → (k < 18 ∨ j ≠ O - 1) → rf_cell A N O q rr cc k j = A k j := by
  obtain ⟨o1, o2, o3, o4⟩ := ow_new (A := A) (N := N) (nn := A 17 (O - 1))
  have hk : ∀ k, k ≠ 8 → k ≠ 9 → k ≠ 7 → k ≠ 18 → k ≠ 19 → rf_cell A N O q rr cc k = rf_ow A N (A 17 (O - 1)) k := fun k h8 h9 h7 h18 h19 => by
    unfold rf_cell up2
    rw [if_neg h19, if_neg h18, if_neg h7, if_neg h9, if_neg h8]
  have e8 : rf_cell A N O q rr cc 8 = upd (rf_make A N 0 8) N rr := rfl
  have e9 : rf_cell A N O q rr cc 9 = upd (rf_make A N 0 9) N cc := rfl
  have e7 : rf_cell A N O q rr cc 7 = upd (rf_make A N 0 7) q (nI N) := rfl
  have e18 : rf_cell A N O q rr cc 18 = upd (A 18) (O - 1) (nI N) := rfl
  have e19 : rf_cell A N O q rr cc 19 = upd (A 19) (O - 1) 0 := rfl
  have hold : ∀ m, m ≠ N → m ≠ q → ∀ k, k ≤ 15 → rf_cell A N O q rr cc k m = A k m := fun m h1 h2 k hk15 => by
    by_cases c8 : k = 8
    · rw [c8, e8, upd_n h1]; exact make_old h1 8
    · by_cases c9 : k = 9
      · rw [c9, e9, upd_n h1]; exact make_old h1 9
      · by_cases c7 : k = 7
        · rw [c7, e7, upd_n h2]; exact make_old h1 7
        · rw [hk k c8 c9 c7 (by omega) (by omega)]; exact ow_old h1 k
  refine ⟨?_, hold, fun k hk15 h7 => ?_, ?_, ⟨?_, ?_, ?_⟩, fun k hk9 => ?_, ⟨?_, ?_⟩, fun k j h16 h => ?_⟩
  · rw [hk 0 (by decide) (by decide) (by decide) (by decide) (by decide)]; exact o4
  · by_cases c8 : k = 8
    · rw [c8, e8, upd_n hq]; exact make_old hq 8
    · by_cases c9 : k = 9
      · rw [c9, e9, upd_n hq]; exact make_old hq 9
      · rw [hk k c8 c9 h7 (by omega) (by omega)]; exact ow_old hq k
  · rw [e7]; exact upd_s
  · rw [e8]; exact upd_s
  · rw [e9]; exact upd_s
  · rw [hk 14 (by decide) (by decide) (by decide) (by decide) (by decide)]; exact o1
  · by_cases c7 : k = 7
    · rw [c7, e7, upd_n (Ne.symm hq)]
      exact o2 7 (by omega)
    · rw [hk k (by omega) (by omega) c7 (by omega) (by omega)]; exact o2 k (by omega)
  · rw [e18]; exact upd_s
  · rw [e19]; exact upd_s
  · by_cases c18 : k = 18
    · rw [c18, e18]; exact upd_n (h.elim (fun z => absurd z (by omega)) id)
    · by_cases c19 : k = 19
      · rw [c19, e19]; exact upd_n (h.elim (fun z => absurd z (by omega)) id)
      · rw [hk k (by omega) (by omega) (by omega) c18 c19, o3 k h16]
/-- what holds when all cells of node n0 are read: its frame is still open -/
def CE (f : Nat → Int32) (L d i l0 n0 O : Nat) (z : RS) (A : Nat → Nat → Int32) (T : Option RT) : Prop := (T = none → Bad L z) ∧ ∀ (nc1 lc1 a1 : Nat) (C1 : Nat → Nat → Int32) (R1 : Nat → Nat → Option Nat) (CL1 : Nat → Nat → Int32) (RL1 : Nat → Nat → Option Nat), T = some (nc1, lc1, a1, C1, R1, CL1, RL1) → ∃ (A1 : Nat → Nat → Int32) (xs : List XT), Rch L z ((rf_del O A1 n0).1, a1, 0, nc1 + lc1, nc1, (rf_del O A1 n0).2) ∧ A1 0 = f ∧ (∀ k, 1 ≤ k → k ≤ 15 → ∀ m, m ≤ n0 → A1 k m = A k m) ∧ (∀ k, 16 ≤ k → k ≤ 19 → ∀ j, j < O → A1 k j = A k j) ∧ ¬ xs = [] ∧ (∃ row col, PCl d i l0 n0 C1 R1 CL1 RL1 A1 nc1 lc1 row col xs) ∧ lkA (A1 7) xs ∧ R1 i 11 = some l0
theorem cell_ok {f : Nat → Int32} {L d O i l0 n0 : Nat} (hL9 : L ≤ 160) (hG : GN f L d) (hG1 : GN f L (d - 1)) (hO : O + (d + 1) = 8) (hO1 : 1 ≤ O) (hn0 : n0 = i + l0) : ∀ (t row col nc lc a : Nat) (C : Nat → Nat → Int32) (R : Nat → Nat → Option Nat) (CL : Nat → Nat → Int32) (RL : Nat → Nat → Option Nat) (A : Nat → Nat → Int32) (a' : Nat) (xs : List XT), A 0 = f → rz_I L (A, a', 0, nc + (lc + 1), nc, O + 1) → nc ≤ 60 → lc ≤ a → a ≤ L → sk f L a' = sk f L a → (A 16 O = 3 ∧ A 17 O = nI n0 ∧ A 18 O = nI (nc + lc) ∧ A 19 O = 0) → (A 1 (nc + lc) = 0 ∧ A 10 (nc + lc) = 0 ∧ A 11 (nc + lc) = 0 ∧ A 12 (nc + lc) = 0 ∧ A 13 (nc + lc) = 0) → A 6 (nc + lc) = 0 → (A 7 (nc + lc) = 0 ∧ A 8 (nc + lc) = nI row ∧ A 9 (nc + lc) = nI col ∧ A 14 (nc + lc) = nI n0 ∧ A 15 (nc + lc) = 0) → row < 8 → col < 8 → PCl d i l0 n0 C R CL RL A nc lc row col xs → lkA (A 7) (xs ++ [(nc, lc, 0, 0)]) → (¬ xs = [] → R i 11 = some l0) → xs.length + t = 161 →
    CE f L d i l0 n0 O (A, a', 0, nc + (lc + 1), nc, O + 1) A (pCell f L (pL f L d) i t row col (xs.getLast?.map (fun z => z.2.1)) (nc, lc, a, C, R, CL, RL))
  | 0, row, col, nc, lc, a, C, R, CL, RL, A, a', xs, hA, hI, hn, hla, ha, hs, hfr, hu, hu6, hu7, hr8, hc8, hP, hlk, h11, hk => by
    have := (PCl_le hP).2.2.1
    omega
  | t + 1, row, col, nc, lc, a, C, R, CL, RL, A, a', xs, hA, hI, hn, hla, ha, hs, hfr, hu, hu6, hu7, hr8, hc8, hP, hlk, h11, hk => by
    obtain ⟨b1, b2, b3, b4, b5⟩ := PCl_le hP
    obtain ⟨G1, G2⟩ := line_all (C := C) (R := R) (CL := CL) (RL := RL) hL9 hG hG1 (show O + 1 + d = 8 by omega) hA hI hn hla ha hs (by rw [Nat.add_sub_cancel, hfr.1]; decide) (by rw [Nat.add_sub_cancel]; exact hfr.2.2.1) (by rw [Nat.add_sub_cancel]; exact hfr.2.2.2) hu hu6
    have ep : pCell f L (pL f L d) i (t + 1) row col (xs.getLast?.map (fun z => z.2.1)) (nc, lc, a, C, R, CL, RL) = (pL f L d (nc, lc, a, C, R, CL, RL)).bind fun (nc1, lc1, a1, C1, R1, CL1, RL1) =>
      if hre f L (sk f L a1) = 125 then some (nc1, lc1, sk f L a1 + 1, C1, (xs.getLast?.map (fun z => z.2.1)).elim (sT R1 i 11 (some lc)) (fun _ => R1), sT (sT CL1 lc 6 (nI row)) lc 7 (nI col), (xs.getLast?.map (fun z => z.2.1)).elim RL1 (fun q => sT RL1 q 8 (some lc)))
      else if hre f L (sk f L a1) = 38 then pCell f L (pL f L d) i t row (col + 1) (some lc) (nc1, lc1, sk f L a1 + 1, C1, (xs.getLast?.map (fun z => z.2.1)).elim (sT R1 i 11 (some lc)) (fun _ => R1), sT (sT CL1 lc 6 (nI row)) lc 7 (nI col), (xs.getLast?.map (fun z => z.2.1)).elim RL1 (fun q => sT RL1 q 8 (some lc)))
      else if hre f L (sk f L a1) = 92 ∧ hre f L (sk f L a1 + 1) = 92 then pCell f L (pL f L d) i t (row + 1) 0 (some lc) (nc1, lc1, sk f L a1 + 2, C1, (xs.getLast?.map (fun z => z.2.1)).elim (sT R1 i 11 (some lc)) (fun _ => R1), sT (sT CL1 lc 6 (nI row)) lc 7 (nI col), (xs.getLast?.map (fun z => z.2.1)).elim RL1 (fun q => sT RL1 q 8 (some lc)))
      else none := by rw [pCell, if_pos ⟨hr8, hc8⟩]
    rw [ep]
    rcases e : pL f L d (nc, lc, a, C, R, CL, RL) with _ | ⟨nc1, lc1, b, C1, R1, CL1, RL1⟩
    · exact ⟨fun _ => G1 e, fun _ _ _ _ _ _ _ z => by cases z⟩
    · rw [Option.bind_some]
      dsimp only
      obtain ⟨A1, a2, r1, s1, z1, I1, k1, k2, k3, le1⟩ := G2 nc1 lc1 b C1 R1 CL1 RL1 e
      rw [Nat.add_sub_cancel] at k3
      obtain ⟨hkeep, hll⟩ := kp_ln (pN_gK f L d).1 (pN_gK f L (d - 1)).1 _ _ (show nc ≤ 60 from hn) (show lc ≤ 161 by omega) (show a ≤ L from ha) e
      have hll : lc < lc1 := hll
      have hnn : nc ≤ nc1 := hkeep.1
      have hgA := pL_gA f L d _ _ e
      dsimp only at hgA
      have hrK : ∀ q c, q < nc → C1 q c = C q c ∧ R1 q c = R q c := fun q c hq => hkeep.2.2.2.2.2.1 q c hq (fun z => z)
      have hlK : ∀ q c, q < lc → CL1 q c = CL q c ∧ RL1 q c = RL q c := fun q c hq => hkeep.2.2.2.2.2.2 q c hq
      have hI1 := r1.I (rz_J_ok hL9) hI
      have hN1 := (rz_I_to hI1).2.2
      have f16 : A1 16 O = 3 := (k3 16 (by decide) (by decide) O (by omega) (Or.inl (by decide))).trans hfr.1
      have f17 : A1 17 O = nI n0 := (k3 17 (by decide) (by decide) O (by omega) (Or.inl (by decide))).trans hfr.2.1
      have f18 : A1 18 O = nI (nc + lc) := (k3 18 (by decide) (by decide) O (by omega) (Or.inl (by decide))).trans hfr.2.2.1
      have hn0l : n0 < nc + lc := by omega
      have hix0 : ixI (A1 17 O) = n0 := by rw [f17]; exact nI_clamp (by omega)
      have hixq : ixI (A1 18 O) = nc + lc := by rw [f18]; exact nI_clamp (by omega)
      obtain ⟨R', hR'⟩ : ∃ z, z = (xs.getLast?.map (fun z : XT => z.2.1)).elim (sT R1 i 11 (some lc)) (fun _ => R1) := ⟨_, rfl⟩
      obtain ⟨CL', hCL'⟩ : ∃ z, z = sT (sT CL1 lc 6 (nI row)) lc 7 (nI col) := ⟨_, rfl⟩
      obtain ⟨RL', hRL'⟩ : ∃ z, z = (xs.getLast?.map (fun z : XT => z.2.1)).elim RL1 (fun q => sT RL1 q 8 (some lc)) := ⟨_, rfl⟩
      rw [← hR', ← hCL', ← hRL']
      have eR : ∀ q c, q ≠ i → R' q c = R1 q c := fun q c h => by
        rw [hR']
        rcases xs.getLast? with _ | z
        · exact sT_ne (fun w => h w.1)
        · rfl
      have eR11 : R' i 11 = some l0 := by
        rw [hR']
        rcases hx : xs.getLast? with _ | z
        · have hx := List.getLast?_eq_none_iff.mp hx
          rw [hx] at hP
          have := hP.1.2
          show sT R1 i 11 (some lc) i 11 = some l0
          rw [sT_same, this]
        · have hne : ¬ xs = [] := fun w => by rw [w] at hx; cases hx
          show R1 i 11 = some l0
          rw [(hrK i 11 (by omega)).2]; exact h11 hne
      have eCL : ∀ q c, q ≠ lc → CL' q c = CL1 q c := fun q c h => by
        rw [hCL', sT_ne (fun w => h w.1), sT_ne (fun w => h w.1)]
      have eRL : ∀ q c, (c ≠ 8 ∨ ∀ z, xs.getLast? = some z → q ≠ z.2.1) → RL' q c = RL1 q c := fun q c h => by
        rw [hRL']
        rcases hx : xs.getLast? with _ | z
        · rfl
        · rw [hx] at h
          exact sT_ne (fun w => h.elim (fun y => y w.2) (fun y => y z rfl w.1))
      have eRz : ∀ z, xs.getLast? = some z → RL' z.2.1 8 = some lc := fun z hz => by
        rw [hRL', hz]; exact sT_same
      have hP1 : ∀ r2 c2, (r2 = row ∧ c2 = col + 1) ∨ (r2 = row + 1 ∧ c2 = 0) → PCl d i l0 n0 C1 R' CL' RL' A1 nc1 lc1 r2 c2 (xs ++ [(nc, lc, nc1, lc1)]) := fun r2 c2 h2 =>
        PCl_step hP I1 hr8 hc8 h2 hrK hlK k1 eR eCL (by rw [hCL', sT_ne (by omega)]; exact sT_same) (by rw [hCL']; exact sT_same) eRL eRz (pL_8 hn ha e) ((k2 14 (by decide) (by decide) (by decide)).trans hu7.2.2.2.1) ((k2 15 (by decide) (by decide) (by decide)).trans hu7.2.2.2.2) ((k2 8 (by decide) (by decide) (by decide)).trans hu7.2.1) ((k2 9 (by decide) (by decide) (by decide)).trans hu7.2.2.1)
      have hne1 : ¬ xs ++ [((nc, lc, nc1, lc1) : XT)] = [] := fun w => by
        have := congrArg List.length w
        rw [List.length_append] at this
        simp at this
      have hlk1 : lkA (A1 7) (xs ++ [(nc, lc, nc1, lc1)]) := by
        refine lkA_xn (xs ++ [(nc, lc, 0, 0)]) _ (by rw [List.map_append, List.map_append]; rfl) (lkA_ag _ (fun q hq => ?_) hlk)
        rcases List.mem_append.mp hq with hq | hq
        · have q1 := b1 q hq
          have q2 := b2 q hq
          exact k1 7 (by decide) (by decide) _ (by show q.1 + q.2.1 < _; omega)
        · rw [List.mem_singleton.mp hq]
          exact k2 7 (by decide) (by decide) (by decide)
      have kA1 : ∀ k, 1 ≤ k → k ≤ 15 → ∀ m, m ≤ n0 → A1 k m = A k m := fun k q1 q2 m hm => k1 k q1 q2 m (by omega)
      have kF1 : ∀ k, 16 ≤ k → k ≤ 19 → ∀ j, j < O → A1 k j = A k j := fun k q1 q2 j hj => k3 k q1 q2 j (by omega) (Or.inr (by omega))
      have hlast : (xs ++ [((nc, lc, nc1, lc1) : XT)]).getLast? = some (nc, lc, nc1, lc1) := List.getLast?_concat
      have r0 : sk f L b < L → Rch L (A, a', 0, nc + (lc + 1), nc, O + 1) (rz_step L A1 (sk f L b) 0 (nc1 + lc1) nc1 (O + 1)) := fun hlt => by
        have r3 := Rch.step (L := L) (A := A1) (a := a2) (N := nc1 + lc1) (U := nc1) (O := O + 1) (by rw [z1, s1]; exact hlt)
        rw [z1, s1] at r3
        exact r1.trans r3
      have h163 : A1 16 (O + 1 - 1) ≤ 3 := by rw [Nat.add_sub_cancel, f16]; decide
      -- a further cell
      have go : ∀ (st r2 c2 : Nat) (rr cc : Int32), (r2 = row ∧ c2 = col + 1) ∨ (r2 = row + 1 ∧ c2 = 0) → rr = nI r2 → cc = nI c2 → 1 ≤ st → Rch L (A, a', 0, nc + (lc + 1), nc, O + 1) (rf_cell A1 (nc1 + lc1) (O + 1) (nc + lc) rr cc, sk f L b + st, rf_cw 0 rr cc, nc1 + lc1 + 1, nc1, O + 1) → CE f L d i l0 n0 O (A, a', 0, nc + (lc + 1), nc, O + 1) A (pCell f L (pL f L d) i t r2 c2 (some lc) (nc1, lc1, sk f L b + st, C1, R', CL', RL')) := by
        intro st r2 c2 rr cc h2 err ecc hst r4
        by_cases h88 : r2 < 8 ∧ c2 < 8
        · have hcw : rf_cw 0 rr cc = 0 := by
            unfold rf_cw
            rw [if_neg]
            rintro (q | q | q)
            · exact q rfl
            · rw [err] at q
              have := (nI_ltI (a := 7) (b := r2) (by decide) (by omega)).mp q
              omega
            · rw [ecc] at q
              have := (nI_ltI (a := 7) (b := c2) (by decide) (by omega)).mp q
              omega
          rw [hcw] at r4
          obtain ⟨c0, cO, cq, cq7, cN, cz, cf, ck⟩ := cell_facts (A := A1) (N := nc1 + lc1) (O := O + 1) (q := nc + lc) (rr := rr) (cc := cc) (by omega)
          obtain ⟨A5, hA5⟩ : ∃ z, z = rf_cell A1 (nc1 + lc1) (O + 1) (nc + lc) rr cc := ⟨_, rfl⟩
          rw [← hA5] at c0 cO cq cq7 cN cz cf ck r4
          rw [Nat.add_sub_cancel] at cN cf ck
          have hI5 := r4.I (rz_J_ok hL9) hI
          have hb5 := (rz_I_to hI5).2.2.2
          have hP5 : PCl d i l0 n0 C1 R' CL' RL' A5 nc1 lc1 r2 c2 (xs ++ [(nc, lc, nc1, lc1)]) := by
            have hPn := hP1 r2 c2 h2
            obtain ⟨y1, y2, -, -, -⟩ := PCl_le hPn
            have ydis := chn_dis _ _ _ _ _ hPn.1 (fun q hq => by have := y1 q hq; omega)
            refine PCl_A hPn (fun q hq => ⟨fun k k1' k2' k7 => ?_, fun m m1 m2 k k1' k2' => ?_⟩)
            · have q1 := y1 q hq
              have q2 := y2 q hq
              by_cases c : xn q = nc + lc
              · rw [c]; exact cq k k2' k7
              · exact cO _ (by show q.1 + q.2.1 ≠ _; omega) c k k2'
            · have q1 := y1 q hq
              have q2 := y2 q hq
              have q3 := ydis q hq (nc, lc, nc1, lc1) (List.mem_append.mpr (Or.inr List.mem_cons_self))
              refine cO m (by omega) ?_ k k2'
              rcases q3 with rfl | g | g
              · dsimp only at m1; omega
              · dsimp only at g; omega
              · dsimp only at g; omega
          have hlk5 : lkA (A5 7) ((xs ++ [(nc, lc, nc1, lc1)]) ++ [(nc1, lc1, 0, 0)]) := by
            have hPn := hP1 r2 c2 h2
            obtain ⟨y1, y2, -, -, -⟩ := PCl_le hPn
            refine lkA_end (n := (nc1, lc1, 0, 0)) (cz 7 (by omega)) _ hlk1 (chn_ndA _ _ _ _ _ hPn.1 (fun q hq => by have := y1 q hq; omega)) (fun q hq hz => ?_) (fun z hz => ?_)
            · have q1 := y1 q hq
              have q2 := y2 q hq
              exact cO _ (by show q.1 + q.2.1 ≠ _; omega) (hz _ hlast) 7 (by decide)
            · rw [hlast] at hz
              cases hz
              exact cq7
          have key := cell_ok hL9 hG hG1 hO hO1 hn0 t r2 c2 nc1 lc1 (sk f L b + st) C1 R' CL' RL' A5 (sk f L b + st) (xs ++ [(nc, lc, nc1, lc1)]) (c0.trans z1) hI5 hkeep.2.1 (by have := sk_g f L b; omega) hb5 rfl ⟨(ck 16 O (by decide) (Or.inl (by decide))).trans f16, (ck 17 O (by decide) (Or.inl (by decide))).trans f17, cf.1, cf.2⟩ ⟨cz 1 (by omega), cz 10 (by omega), cz 11 (by omega), cz 12 (by omega), cz 13 (by omega)⟩ (cz 6 (by omega)) ⟨cz 7 (by omega), cN.1.trans err, cN.2.1.trans ecc, cN.2.2.trans f17, cz 15 (by omega)⟩ h88.1 h88.2 hP5 hlk5 (fun _ => eR11) (by rw [List.length_append]; show xs.length + 1 + t = 161; omega)
          rw [hlast] at key
          obtain ⟨K1, K2⟩ := key
          refine ⟨fun z => r4.bad (K1 z), fun nc9 lc9 a9 C9 R9 CL9 RL9 z => ?_⟩
          obtain ⟨A9, ys, v1, v2, v3, v4, v5, v6, v7, v8⟩ := K2 nc9 lc9 a9 C9 R9 CL9 RL9 z
          refine ⟨A9, ys, r4.trans v1, v2, fun k q1 q2 m hm => ?_, fun k q1 q2 j hj => ?_, v5, v6, v7, v8⟩
          · rw [v3 k q1 q2 m hm, cO m (by omega) (by omega) k q2]; exact kA1 k q1 q2 m hm
          · rw [v4 k q1 q2 j hj, ck k j q1 (Or.inr (by omega))]; exact kF1 k q1 q2 j hj
        · have hcw : rf_cw 0 rr cc = 1 := by
            unfold rf_cw
            rw [if_pos]
            by_cases q : r2 < 8
            · refine Or.inr (Or.inr ?_)
              rw [ecc]
              exact (nI_ltI (a := 7) (b := c2) (by decide) (by omega)).mpr (by omega)
            · refine Or.inr (Or.inl ?_)
              rw [err]
              exact (nI_ltI (a := 7) (b := r2) (by decide) (by omega)).mpr (by omega)
          rw [hcw] at r4
          have en : pCell f L (pL f L d) i t r2 c2 (some lc) (nc1, lc1, sk f L b + st, C1, R', CL', RL') = none := by
            cases t with
            | zero => rfl
            | succ t => rw [pCell, if_neg h88]
          rw [en]
          exact ⟨fun _ => r4.bad (Bad.wrong rfl), fun _ _ _ _ _ _ _ z => by cases z⟩
      by_cases q1 : hre f L (sk f L b) = 125
      · rw [if_pos q1]
        refine ⟨fun e => (nomatch e), fun nc9 lc9 a9 C9 R9 CL9 RL9 e9 => ?_⟩
        cases e9
        have r3 := r0 (hre_lt (by rw [q1]; decide))
        rw [rz_step_in h163 (in_close z1 q1)] at r3
        unfold rz_close at r3
        rw [Nat.add_sub_cancel, f16, if_pos (Or.inr rfl), show rz_u A1 (O + 1) = n0 from hix0] at r3
        exact ⟨A1, xs ++ [(nc, lc, nc1, lc1)], r3, z1, kA1, kF1, hne1, ⟨_, _, hP1 row (col + 1) (Or.inl ⟨rfl, rfl⟩)⟩, hlk1, eR11⟩
      · rw [if_neg q1]
        have hq8 : A1 8 (nc + lc) = nI row := (k2 8 (by decide) (by decide) (by decide)).trans hu7.2.1
        have hq9 : A1 9 (nc + lc) = nI col := (k2 9 (by decide) (by decide) (by decide)).trans hu7.2.2.1
        have hcl : rz_cl A1 (O + 1) = 0 := by
          show (if A1 16 (O + 1 - 1) = 3 then (0 : Int32) else 1) = 0
          rw [Nat.add_sub_cancel, f16, if_pos rfl]
        by_cases q2 : hre f L (sk f L b) = 38
        · rw [if_pos q2]
          have r3 := r0 (hre_lt (by rw [q2]; decide))
          rw [rz_step_in h163 (in_amp z1 q2)] at r3
          unfold rz_amp at r3
          rw [show rz_q A1 (O + 1) = nc + lc from hixq, hcl, hq8, hq9] at r3
          exact go 1 row (col + 1) _ _ (Or.inl ⟨rfl, rfl⟩) rfl (nI_1 col) (Nat.le_refl _) r3
        · rw [if_neg q2]
          by_cases q3 : hre f L (sk f L b) = 92 ∧ hre f L (sk f L b + 1) = 92
          · rw [if_pos q3]
            have r3 := r0 (hre_lt (by rw [q3.1]; decide))
            rw [rz_step_in h163 (in_row z1 q3)] at r3
            unfold rz_row at r3
            rw [show rz_q A1 (O + 1) = nc + lc from hixq, hcl, hq8] at r3
            exact go 2 (row + 1) 0 _ _ (Or.inr ⟨rfl, rfl⟩) (nI_1 row) rfl (by decide) r3
          · rw [if_neg q3]
            exact ⟨fun _ => r1.bad (lend_bad (w := 3) z1 s1 (by rw [Nat.add_sub_cancel]; exact f16) (by decide) le1 (Or.inl (by omega)) (fun z => absurd z q1) (fun z => absurd z q2) (fun z => absurd z q3) (fun _ => by decide)), fun _ _ _ _ _ _ _ z => by cases z⟩
