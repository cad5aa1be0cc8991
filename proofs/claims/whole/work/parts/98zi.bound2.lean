/-! Pure: bounds of items, lines and matrices. By hand. -/
theorem v_up {s : Nat} (hs : s < 4) {cr h ud : Int32} (h1 : 0 ≤ h.toInt ∧ h.toInt ≤ 100000000) (h2 : 0 ≤ ud.toInt ∧ ud.toInt ≤ 100000000) : ud.toInt + 5 ≤ (vUp s cr h ud).toInt ∧ (vUp s cr h ud).toInt ≤ h.toInt + ud.toInt + 50 := by
  obtain ⟨c1, -, -, -, -, -, -, c8, c9, c10, -⟩ := cy s hs
  have e0 : ((if cr = 0 then 4 else 3) * yS s = 4 * yS s) ∨ ((if cr = 0 then 4 else 3) * yS s = 3 * yS s) := by split <;> simp
  have e1 : (h - 2 * yS s).toInt = h.toInt - (2 * yS s).toInt := tS (by omega) (by omega)
  have e2 : (ud + yS s).toInt = ud.toInt + (yS s).toInt := tA (by omega) (by omega)
  unfold vUp
  rw [ms_mx, ms_mx, mx_toInt, mx_toInt, e1, e2]
  rcases e0 with e0 | e0 <;> rw [e0] <;> (constructor <;> (repeat' split) <;> omega)
theorem v_d0 {s : Nat} (hs : s < 4) {d lh : Int32} (h1 : 0 ≤ d.toInt ∧ d.toInt ≤ 100000000) (h2 : 0 ≤ lh.toInt ∧ lh.toInt ≤ 100000000) : 0 ≤ (vD0 s d lh).toInt ∧ (vD0 s d lh).toInt ≤ d.toInt + lh.toInt + 30 ∧ lh.toInt - 40 ≤ (vD0 s d lh).toInt := by
  obtain ⟨-, -, -, -, -, -, -, c8, -, c10, -, -, -, c14, -⟩ := cy s hs
  have e1 : (d + yS s / 2).toInt = d.toInt + (yS s / 2).toInt := tA (by omega) (by omega)
  have e2 : (lh - 4 * yS s).toInt = lh.toInt - (4 * yS s).toInt := tS (by omega) (by omega)
  unfold vD0
  rw [ms_mx, ms_mx, mx_toInt, mx_toInt, e1, e2]
  refine ⟨?_, ?_, ?_⟩ <;> (repeat' split) <;> omega
theorem v_dn {s : Nat} (hs : s < 4) {up ud lh d0 : Int32} (h1 : 0 ≤ ud.toInt ∧ ud.toInt ≤ 100000000) (h2 : 0 ≤ lh.toInt ∧ lh.toInt ≤ 100000000) (h3 : ud.toInt + 5 ≤ up.toInt ∧ up.toInt ≤ 300000000) (h4 : 0 ≤ d0.toInt ∧ d0.toInt ≤ 300000000) : 0 ≤ (vDn s up ud lh d0).toInt ∧ (vDn s up ud lh d0).toInt ≤ d0.toInt + lh.toInt + 16 ∧ (vDn s up ud lh d0).toInt = (if (up.toInt - ud.toInt) - (lh.toInt - d0.toInt) < (4 * yT s).toInt then d0.toInt + (4 * yT s).toInt - ((up.toInt - ud.toInt) - (lh.toInt - d0.toInt)) else d0.toInt) := by
  obtain ⟨-, -, -, -, -, -, -, -, -, -, -, c12, -⟩ := cy s hs
  have e1 : (up - ud).toInt = up.toInt - ud.toInt := tS (by omega) (by omega)
  have e2 : (lh - d0).toInt = lh.toInt - d0.toInt := tS (by omega) (by omega)
  have e3 : ((up - ud) - (lh - d0)).toInt = (up - ud).toInt - (lh - d0).toInt := tS (by omega) (by omega)
  have e4 : (d0 + 4 * yT s).toInt = d0.toInt + (4 * yT s).toInt := tA (by omega) (by omega)
  have e5 : ((d0 + 4 * yT s) - ((up - ud) - (lh - d0))).toInt = (d0 + 4 * yT s).toInt - ((up - ud) - (lh - d0)).toInt := tS (by omega) (by omega)
  unfold vDn
  by_cases c : (up - ud) - (lh - d0) < 4 * yT s
  · have c' := Int32.lt_iff_toInt_lt.mp c
    rw [if_pos c, if_pos (by omega)]
    omega
  · have c' : ¬ _ := fun z => c (Int32.lt_iff_toInt_lt.mpr z)
    rw [if_neg c, if_neg (by omega)]
    omega
theorem v_lx {A : Nat → Nat → Int32} {n s : Nat} (hs : s < 4) (h : 0 ≤ (A 22 n).toInt ∧ (A 22 n).toInt ≤ 100000000) : -10 ≤ (vLx A n s).toInt ∧ (vLx A n s).toInt ≤ (A 22 n).toInt := by
  obtain ⟨c1, -⟩ := cy s hs
  unfold vLx
  split
  · have e1 : (A 22 n - yS s).toInt = (A 22 n).toInt - (yS s).toInt := tS (by omega) (by omega)
    omega
  · omega
theorem b_sc {A : Nat → Nat → Int32} {n s u lo M Mu Ml : Nat} (hs : s < 4) (E : ES A n s u lo) (h1 : M ≤ 30000000) (h2 : Mu ≤ 30000000) (h3 : Ml ≤ 30000000) (g : bd3 (A 22 n) (A 23 n) (A 24 n) M) (gu : u ≠ 0 → bd3 (A 25 u) (A 26 u) (A 27 u) Mu) (gl : lo ≠ 0 → bd3 (A 25 lo) (A 26 lo) (A 27 lo) Ml) : bd3 (A 25 n) (A 26 n) (A 27 n) (M + Mu + Ml + 120) := by
  obtain ⟨c1, c2, -, -, -, -, -, c8, -, c10, c11, -, -, c14, -⟩ := cy s hs
  unfold ES at E
  by_cases q0 : u = 0 ∧ lo = 0
  · rw [if_pos q0] at E
    rw [E.1, E.2.1, E.2.2.1]
    exact bd3_w g (by omega)
  · rw [if_neg q0] at E
    unfold bd3 at g
    by_cases q1 : A 1 n = 2 ∧ ¬ A 2 n = 73 ∧ s = 0
    · rw [if_pos q1] at E
      obtain ⟨e1, -, -, e4, -, e6⟩ := E
      have f23 : (A 23 n + 2 * yT s).toInt = (A 23 n).toInt + (2 * yT s).toInt := tA (by omega) (by omega)
      have f24 : (A 24 n + 2 * yT s).toInt = (A 24 n).toInt + (2 * yT s).toInt := tA (by omega) (by omega)
      have z0 : (0 : Int32).toInt = 0 := by decide
      have hw : 0 ≤ (A 25 n).toInt ∧ (A 25 n).toInt ≤ M + Mu + Ml + 120 := by
        rw [e1, ms_mx, ms_mx, mx_toInt, mx_toInt]
        have wu : 0 ≤ (if u = 0 then (0 : Int32) else A 25 u).toInt ∧ (if u = 0 then (0 : Int32) else A 25 u).toInt ≤ Mu := by
          by_cases qu : u = 0
          · rw [if_pos qu, z0]; omega
          · have := gu qu; unfold bd3 at this; rw [if_neg qu]; omega
        have wl : 0 ≤ (if lo = 0 then (0 : Int32) else A 25 lo).toInt ∧ (if lo = 0 then (0 : Int32) else A 25 lo).toInt ≤ Ml := by
          by_cases ql : lo = 0
          · rw [if_pos ql, z0]; omega
          · have := gl ql; unfold bd3 at this; rw [if_neg ql]; omega
        generalize (if u = 0 then (0 : Int32) else A 25 u).toInt = x at wu ⊢
        generalize (if lo = 0 then (0 : Int32) else A 25 lo).toInt = y at wl ⊢
        constructor <;> (repeat' split) <;> omega
      have hh : 0 ≤ (A 26 n).toInt ∧ (A 26 n).toInt ≤ (A 23 n).toInt + Mu + 20 := by
        rw [e4]
        by_cases qu : u = 0
        · rw [if_pos qu]; omega
        · have gu := gu qu; unfold bd3 at gu
          rw [if_neg qu]
          have f1 : (A 23 n + 2 * yT s + A 27 u).toInt = (A 23 n + 2 * yT s).toInt + (A 27 u).toInt := tA (by omega) (by omega)
          have f2 : (A 23 n + 2 * yT s + A 27 u + A 26 u).toInt = (A 23 n + 2 * yT s + A 27 u).toInt + (A 26 u).toInt := tA (by omega) (by omega)
          omega
      have hd : 0 ≤ (A 27 n).toInt ∧ (A 27 n).toInt ≤ (A 24 n).toInt + Ml + 20 := by
        rw [e6]
        by_cases ql : lo = 0
        · rw [if_pos ql]; omega
        · have gl := gl ql; unfold bd3 at gl
          rw [if_neg ql]
          have f1 : (A 24 n + 2 * yT s + A 26 lo).toInt = (A 24 n + 2 * yT s).toInt + (A 26 lo).toInt := tA (by omega) (by omega)
          have f2 : (-(A 24 n + 2 * yT s + A 26 lo)).toInt = -(A 24 n + 2 * yT s + A 26 lo).toInt := tN (by omega) (by omega)
          have f3 : (A 27 lo - -(A 24 n + 2 * yT s + A 26 lo)).toInt = (A 27 lo).toInt - (-(A 24 n + 2 * yT s + A 26 lo)).toInt := tS (by omega) (by omega)
          omega
      unfold bd3
      omega
    · rw [if_neg q1] at E
      obtain ⟨-, -, e4, -, e6, e7⟩ := E
      have lx := v_lx (A := A) (n := n) hs ⟨g.1, by omega⟩
      have hh : 0 ≤ (A 26 n).toInt ∧ (A 26 n).toInt ≤ (A 23 n).toInt + Mu + 50 := by
        rw [e4]
        by_cases qu : u = 0
        · rw [if_pos qu]; omega
        · have gu := gu qu; unfold bd3 at gu
          rw [if_neg qu, ms_mx, mx_toInt]
          have f1 := v_up hs (cr := A 21 n) (h := A 23 n) (ud := A 27 u) (by omega) (by omega)
          have f2 : (vUp s (A 21 n) (A 23 n) (A 27 u) + A 26 u).toInt = (vUp s (A 21 n) (A 23 n) (A 27 u)).toInt + (A 26 u).toInt := tA (by omega) (by omega)
          rw [f2]
          constructor <;> (repeat' split) <;> omega
      have hd : 0 ≤ (A 27 n).toInt ∧ (A 27 n).toInt ≤ (A 24 n).toInt + Ml + 50 := by
        rw [e6]
        by_cases ql : lo = 0
        · rw [if_pos ql]; omega
        · have gl := gl ql; unfold bd3 at gl
          rw [if_neg ql, ms_mx, mx_toInt]
          have f0 := v_d0 hs (d := A 24 n) (lh := A 26 lo) (by omega) (by omega)
          have fd : 0 ≤ (if u = 0 then vD0 s (A 24 n) (A 26 lo) else vDn s (vUp s (A 21 n) (A 23 n) (A 27 u)) (A 27 u) (A 26 lo) (vD0 s (A 24 n) (A 26 lo))).toInt ∧ (if u = 0 then vD0 s (A 24 n) (A 26 lo) else vDn s (vUp s (A 21 n) (A 23 n) (A 27 u)) (A 27 u) (A 26 lo) (vD0 s (A 24 n) (A 26 lo))).toInt ≤ (A 24 n).toInt + (A 26 lo).toInt + 30 := by
            by_cases qu : u = 0
            · rw [if_pos qu]; omega
            · rw [if_neg qu]
              have gu := gu qu; unfold bd3 at gu
              have f1 := v_up hs (cr := A 21 n) (h := A 23 n) (ud := A 27 u) (by omega) (by omega)
              have f2 := v_dn hs (up := vUp s (A 21 n) (A 23 n) (A 27 u)) (ud := A 27 u) (lh := A 26 lo) (d0 := vD0 s (A 24 n) (A 26 lo)) (by omega) (by omega) (by omega) (by omega)
              obtain ⟨-, -, -, -, -, -, -, -, -, -, -, c12, -⟩ := cy s hs
              rw [f2.2.2]
              constructor <;> split <;> omega
          generalize (if u = 0 then vD0 s (A 24 n) (A 26 lo) else vDn s (vUp s (A 21 n) (A 23 n) (A 27 u)) (A 27 u) (A 26 lo) (vD0 s (A 24 n) (A 26 lo))) = x at fd ⊢
          have f3 : (x + A 27 lo).toInt = x.toInt + (A 27 lo).toInt := tA (by omega) (by omega)
          rw [f3]
          constructor <;> (repeat' split) <;> omega
      have hw : 0 ≤ (A 25 n).toInt ∧ (A 25 n).toInt ≤ M + Mu + Ml + 10 := by
        rw [e7]
        by_cases ql : lo = 0
        · rw [if_pos ql]
          have qu : u ≠ 0 := fun z => q0 ⟨z, ql⟩
          have gu := gu qu; unfold bd3 at gu
          have f1 : (A 22 n + A 25 u).toInt = (A 22 n).toInt + (A 25 u).toInt := tA (by omega) (by omega)
          have f2 : (A 22 n + A 25 u + yS s / 2).toInt = (A 22 n + A 25 u).toInt + (yS s / 2).toInt := tA (by omega) (by omega)
          omega
        · rw [if_neg ql]
          have gl := gl ql; unfold bd3 at gl
          have f3 : (vLx A n s + A 25 lo).toInt = (vLx A n s).toInt + (A 25 lo).toInt := tA (by omega) (by omega)
          by_cases qu : u = 0
          · rw [if_pos qu]
            have f4 := mx_toInt (A 22 n) (vLx A n s + A 25 lo)
            rw [ms_mx]
            have f5 : (mx (A 22 n) (vLx A n s + A 25 lo) + yS s / 2).toInt = (mx (A 22 n) (vLx A n s + A 25 lo)).toInt + (yS s / 2).toInt := tA (by split at f4 <;> omega) (by split at f4 <;> omega)
            split at f4 <;> omega
          · rw [if_neg qu]
            have gu := gu qu; unfold bd3 at gu
            have f1 : (A 22 n + A 25 u).toInt = (A 22 n).toInt + (A 25 u).toInt := tA (by omega) (by omega)
            have f4 := mx_toInt (A 22 n + A 25 u) (vLx A n s + A 25 lo)
            rw [ms_mx]
            have f5 : (mx (A 22 n + A 25 u) (vLx A n s + A 25 lo) + yS s / 2).toInt = (mx (A 22 n + A 25 u) (vLx A n s + A 25 lo)).toInt + (yS s / 2).toInt := tA (by split at f4 <;> omega) (by split at f4 <;> omega)
            split at f4 <;> omega
      unfold bd3
      omega
theorem b_sp {s : Nat} (hs : s < 4) (v : Int32) : 0 ≤ (sp3 s v).toInt ∧ (sp3 s v).toInt ≤ 20 := by
  unfold sp3
  rcases (by omega : s = 0 ∨ s = 1 ∨ s = 2 ∨ s = 3) with rfl | rfl | rfl | rfl <;> (repeat' split) <;> decide
theorem b_li {A : Nat → Nat → Int32} {n s : Nat} (hs : s < 4) {Q : XT → Nat} : ∀ (t : List XT) (w h d : Int32) (M : Nat), bd3 w h d M → (∀ i ∈ t, bd3 (A 25 (xn i)) (A 26 (xn i)) (A 27 (xn i)) (Q i)) → M + (t.map (fun i => Q i + 20)).sum ≤ 30000000 → liE A n s (t.map xn) w h d → bd3 (A 22 n) (A 23 n) (A 24 n) (M + (t.map (fun i => Q i + 20)).sum)
  | [], w, h, d, M, g, _, _, E => by
    rw [E.1, E.2.1, E.2.2]
    exact bd3_w g (by omega)
  | i :: t, w, h, d, M, g, hQ, hM, E => by
    have gi := hQ i List.mem_cons_self
    have gs := b_sp hs (spv A (xn i) (t.map xn))
    rw [List.map_cons, List.sum_cons] at hM ⊢
    have e : M + (Q i + 20 + (t.map (fun i => Q i + 20)).sum) = (M + (Q i + 20)) + (t.map (fun i => Q i + 20)).sum := by omega
    rw [e]
    refine b_li hs t _ _ _ (M + (Q i + 20)) ?_ (fun q hq => hQ q (List.mem_cons_of_mem _ hq)) (by omega) E.2
    unfold bd3 at g gi ⊢
    have e1 : (A 25 (xn i) + sp3 s (spv A (xn i) (t.map xn))).toInt = (A 25 (xn i)).toInt + (sp3 s (spv A (xn i) (t.map xn))).toInt := tA (by omega) (by omega)
    have e2 : (w + (A 25 (xn i) + sp3 s (spv A (xn i) (t.map xn)))).toInt = w.toInt + (A 25 (xn i) + sp3 s (spv A (xn i) (t.map xn))).toInt := tA (by omega) (by omega)
    rw [ms_mx, ms_mx, mx_toInt, mx_toInt]
    refine ⟨?_, ?_, ?_, ?_, ?_⟩ <;> (repeat' split) <;> omega
