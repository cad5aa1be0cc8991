/-! Pure: bounds of a matrix. By hand. -/
def ps (x : Int) : Int := if x < 0 then 0 else x
def sm (f : Nat → Int32) : Nat → Int
  | 0 => 0
  | k + 1 => sm f k + ps (f k).toInt
theorem sm_nn (f : Nat → Int32) : ∀ k, 0 ≤ sm f k
  | 0 => Int.le_refl _
  | k + 1 => by
    have := sm_nn f k
    show 0 ≤ sm f k + ps (f k).toInt
    unfold ps
    split <;> omega
theorem sm_mono (f : Nat → Int32) {j : Nat} : ∀ k, j ≤ k → sm f j ≤ sm f k
  | 0, h => by rw [Nat.le_zero.mp h]; exact Int.le_refl _
  | k + 1, h => by
    by_cases e : j = k + 1
    · rw [e]; exact Int.le_refl _
    · have := sm_mono f k (show j ≤ k by omega)
      show sm f j ≤ sm f k + ps (f k).toInt
      unfold ps
      split <;> omega
theorem sm_upd (f : Nat → Int32) (c : Nat) (x : Int32) : ∀ k, sm (upd f c x) k = if c < k then sm f k - ps (f c).toInt + ps x.toInt else sm f k
  | 0 => by rw [if_neg (Nat.not_lt_zero c)]; rfl
  | k + 1 => by
    show sm (upd f c x) k + ps (upd f c x k).toInt = _
    rw [sm_upd f c x k]
    by_cases e : c = k
    · subst e
      rw [if_neg (Nat.lt_irrefl c), if_pos (Nat.lt_succ_self c), upd_s]
      show _ = sm f c + ps (f c).toInt - ps (f c).toInt + ps x.toInt
      omega
    · rw [upd_n (Ne.symm e)]
      show _ = if c < k + 1 then sm f k + ps (f k).toInt - ps (f c).toInt + ps x.toInt else sm f k + ps (f k).toInt
      by_cases h : c < k
      · rw [if_pos h, if_pos (by omega)]; omega
      · rw [if_neg h, if_neg (by omega)]
theorem sm_c {f : Nat → Int32} {v : Int32} (hv : 0 ≤ v.toInt ∧ v.toInt ≤ 50) : ∀ k, k ≤ 8 → sm (fil f v 8) k ≤ 50 * k
  | 0, _ => Int.le_refl _
  | k + 1, h => by
    have := sm_c (f := f) hv k (by omega)
    show sm (fil f v 8) k + ps (fil f v 8 k).toInt ≤ _
    have e : fil f v 8 k = v := if_pos (by omega)
    rw [e]
    unfold ps
    split <;> omega
theorem sm_m {f : Nat → Int32} : ∀ k, k ≤ 8 → sm (fil f (-1) 8) k = 0
  | 0, _ => rfl
  | k + 1, h => by
    show sm (fil f (-1) 8) k + ps (fil f (-1) 8 k).toInt = 0
    have e : fil f (-1) 8 k = -1 := if_pos (by omega)
    rw [sm_m k (by omega), e]
    decide
def mcI (p : MS) (x y : Int) : Prop := sm p.1 8 ≤ x ∧ sm p.2.1 8 + sm p.2.2.1 8 ≤ y ∧ (∀ r, r < 8 → 0 ≤ (p.2.1 r).toInt ∧ 0 ≤ (p.2.2.1 r).toInt) ∧ p.2.2.2 ≤ 8
theorem mc_b {A : Nat → Nat → Int32} {Q : XT → Nat} : ∀ (cs : List XT) (p : MS) (x y : Int), (∀ i ∈ cs, bd3 (A 22 (xn i)) (A 23 (xn i)) (A 24 (xn i)) (Q i) ∧ okw (A 9 (xn i)) ∧ okw (A 8 (xn i))) → mcI p x y → mcI ((cs.map xn).foldl (mcF A) p) (x + (cs.map Q).sum) (y + (cs.map Q).sum)
  | [], p, x, y, _, h => by
    rw [List.map_nil, List.foldl_nil]
    unfold mcI at h ⊢
    simp
    exact h
  | j :: t, p, x, y, hQ, h => by
    obtain ⟨g, q9, q8⟩ := hQ j List.mem_cons_self
    obtain ⟨i, hi⟩ : ∃ i, i = xn j := ⟨_, rfl⟩
    rw [← hi] at g q9 q8
    have e : mcI (mcF A p i) (x + Q j) (y + Q j) := by
      obtain ⟨h1, h2, h3, h4⟩ := h
      unfold bd3 at g
      have hr := h3 (ixI (A 8 i)) q8.2
      refine ⟨?_, ?_, fun r hr8 => ?_, ?_⟩
      · show sm (upd p.1 (ixI (A 9 i)) (ms (p.1 (ixI (A 9 i))) (A 22 i))) 8 ≤ _
        rw [sm_upd, if_pos q9.2, ms_mx, mx_toInt]
        unfold ps
        (repeat' split) <;> omega
      · show sm (upd p.2.1 (ixI (A 8 i)) (ms (p.2.1 (ixI (A 8 i))) (A 23 i))) 8 + sm (upd p.2.2.1 (ixI (A 8 i)) (ms (p.2.2.1 (ixI (A 8 i))) (A 24 i))) 8 ≤ _
        rw [sm_upd, sm_upd, if_pos q8.2, if_pos q8.2, ms_mx, ms_mx, mx_toInt, mx_toInt]
        unfold ps
        (repeat' split) <;> omega
      · show 0 ≤ (upd p.2.1 (ixI (A 8 i)) (ms (p.2.1 (ixI (A 8 i))) (A 23 i)) r).toInt ∧ 0 ≤ (upd p.2.2.1 (ixI (A 8 i)) (ms (p.2.2.1 (ixI (A 8 i))) (A 24 i)) r).toInt
        by_cases c : r = ixI (A 8 i)
        · rw [c, upd_s, upd_s, ms_mx, ms_mx, mx_toInt, mx_toInt]
          constructor <;> split <;> omega
        · rw [upd_n c, upd_n c]; exact h3 r hr8
      · show ixI (A 8 i) + 1 ≤ 8
        have := q8.2
        omega
    have g2 := mc_b t (mcF A p i) _ _ (fun q hq => hQ q (List.mem_cons_of_mem _ hq)) e
    rw [List.map_cons, List.foldl_cons, List.map_cons, List.sum_cons, ← hi]
    have e1 : x + ((Q j + (t.map Q).sum : Nat) : Int) = x + Q j + (t.map Q).sum := by omega
    have e2 : y + ((Q j + (t.map Q).sum : Nat) : Int) = y + Q j + (t.map Q).sum := by omega
    rw [e1, e2]
    exact g2
theorem mWd_b {f : Nat → Int32} {z : Int32} (hz : 0 ≤ (4 * z).toInt ∧ (4 * z).toInt ≤ 40) (hs : sm f 8 ≤ 100000000) : ∀ c, c ≤ 8 → (∀ j, j < c → 0 ≤ (f j).toInt) → 0 ≤ (mWd f z c).toInt ∧ (mWd f z c).toInt ≤ sm f c + 40 * c
  | 0, _, _ => by
    show 0 ≤ (0 : Int32).toInt ∧ (0 : Int32).toInt ≤ 0 + 40 * ((0 : Nat) : Int)
    decide
  | c + 1, hc, h => by
    have ih := mWd_b hz hs c (by omega) (fun j hj => h j (by omega))
    have m1 := sm_mono f 8 (show c + 1 ≤ 8 from hc)
    have hf := h c (Nat.lt_succ_self c)
    have e0 : sm f (c + 1) = sm f c + (f c).toInt := by
      show sm f c + ps (f c).toInt = _
      unfold ps
      rw [if_neg (by omega)]
    have z0 : (0 : Int32).toInt = 0 := by decide
    have e1 : 0 ≤ (if 0 < c then 4 * z else 0).toInt ∧ (if 0 < c then 4 * z else 0).toInt ≤ 40 := by
      split
      · exact hz
      · rw [z0]; omega
    have hn := sm_nn f c
    have e2 : (f c + (if 0 < c then 4 * z else 0)).toInt = (f c).toInt + (if 0 < c then 4 * z else 0).toInt := tA (by omega) (by omega)
    have e3 : (mWd f z (c + 1)).toInt = (mWd f z c).toInt + (f c + (if 0 < c then 4 * z else 0)).toInt := tA (by omega) (by omega)
    omega
theorem mAl_b {f g : Nat → Int32} {z : Int32} (hz : 0 ≤ z.toInt ∧ z.toInt ≤ 10) (hs : sm f 8 + sm g 8 ≤ 100000000) : ∀ c, c ≤ 8 → (∀ j, j < 8 → 0 ≤ (f j).toInt ∧ 0 ≤ (g j).toInt) → 0 ≤ (mAl f g z c).toInt ∧ (mAl f g z c).toInt ≤ sm f c + sm g c + 10 * c
  | 0, _, _ => by
    show 0 ≤ (0 : Int32).toInt ∧ (0 : Int32).toInt ≤ 0 + 0 + 10 * ((0 : Nat) : Int)
    decide
  | c + 1, hc, h => by
    have ih := mAl_b hz hs c (by omega) h
    have m1 := sm_mono f 8 (show c + 1 ≤ 8 from hc)
    have m2 := sm_mono g 8 (show c + 1 ≤ 8 from hc)
    have hf := h c (by omega)
    have e0 : sm f (c + 1) = sm f c + (f c).toInt := by
      show sm f c + ps (f c).toInt = _
      unfold ps
      rw [if_neg (by omega)]
    have e0' : sm g (c + 1) = sm g c + (g c).toInt := by
      show sm g c + ps (g c).toInt = _
      unfold ps
      rw [if_neg (by omega)]
    have z0 : (0 : Int32).toInt = 0 := by decide
    have e1 : 0 ≤ (if 0 < c then z else 0).toInt ∧ (if 0 < c then z else 0).toInt ≤ 10 := by
      split
      · exact hz
      · rw [z0]; omega
    have n1 := sm_nn f c
    have n2 := sm_nn g c
    have e2 : (f c + g c).toInt = (f c).toInt + (g c).toInt := tA (by omega) (by omega)
    have e3 : ((f c + g c) + (if 0 < c then z else 0)).toInt = (f c + g c).toInt + (if 0 < c then z else 0).toInt := tA (by omega) (by omega)
    have e4 : (mAl f g z (c + 1)).toInt = (mAl f g z c).toInt + ((f c + g c) + (if 0 < c then z else 0)).toInt := tA (by omega) (by omega)
    omega
theorem b_mt {A : Nat → Nat → Int32} {n s : Nat} (hs : s < 4) {Q : XT → Nat} {cs : List XT} (E : mtE A n s (cs.map xn)) (hQ : ∀ i ∈ cs, bd3 (A 22 (xn i)) (A 23 (xn i)) (A 24 (xn i)) (Q i) ∧ okw (A 9 (xn i)) ∧ okw (A 8 (xn i))) (hM : (cs.map Q).sum ≤ 30000000) : bd3 (A 22 n) (A 23 n) (A 24 n) ((cs.map Q).sum + 1000) := by
  obtain ⟨f, g, h, E1, E2, E3, -⟩ := E
  obtain ⟨c1, -, c3, -, -, -, c7, c8, -, c10, -⟩ := cy s hs
  have I0 : mcI (fil f (-1) 8, fil g (5 * yS s) 8, fil h (2 * yS s) 8, 0) 0 800 := by
    refine ⟨?_, ?_, fun r hr => ?_, Nat.zero_le _⟩
    · show sm (fil f (-1) 8) 8 ≤ 0
      rw [sm_m 8 (Nat.le_refl _)]; exact Int.le_refl _
    · show sm (fil g (5 * yS s) 8) 8 + sm (fil h (2 * yS s) 8) 8 ≤ 800
      have a1 := sm_c (f := g) (v := 5 * yS s) (by omega) 8 (Nat.le_refl _)
      have a2 := sm_c (f := h) (v := 2 * yS s) (by omega) 8 (Nat.le_refl _)
      omega
    · show 0 ≤ (fil g (5 * yS s) 8 r).toInt ∧ 0 ≤ (fil h (2 * yS s) 8 r).toInt
      have e1 : fil g (5 * yS s) 8 r = 5 * yS s := if_pos hr
      have e2 : fil h (2 * yS s) 8 r = 2 * yS s := if_pos hr
      rw [e1, e2]; omega
  have I := mc_b cs _ 0 800 hQ I0
  generalize (cs.map xn).foldl (mcF A) (fil f (-1) 8, fil g (5 * yS s) 8, fil h (2 * yS s) 8, 0) = p at I E1 E2 E3
  obtain ⟨I1, I2, I3, I4⟩ := I
  have cw := cwc_ok p.1 8 0 (fun j hj => absurd hj (Nat.not_lt_zero j))
  have bw := mWd_b (f := p.1) (z := yS s) (by omega) (by omega) (cwc p.1 8 0) (by omega) (fun j hj => by
    have := cw.2.1 j hj
    have z : ¬ (p.1 j).toInt < (0 : Int32).toInt := fun z => this (Int32.lt_iff_toInt_lt.mpr z)
    rw [show (0 : Int32).toInt = 0 from by decide] at z
    omega)
  have m1 := sm_mono p.1 8 (show cwc p.1 8 0 ≤ 8 by omega)
  have ba := mAl_b (f := p.2.1) (g := p.2.2.1) (z := yS s) (by omega) (by omega) p.2.2.2 I4 I3
  have m2 := sm_mono p.2.1 8 I4
  have m3 := sm_mono p.2.2.1 8 I4
  have t0 := tH ba.1
  have e1 : (A 23 n).toInt = (yX s).toInt + (mAl p.2.1 p.2.2.1 (yS s) p.2.2.2 / 2).toInt := by rw [E2]; exact tA (by omega) (by omega)
  have e2 : (mAl p.2.1 p.2.2.1 (yS s) p.2.2.2 - A 23 n).toInt = (mAl p.2.1 p.2.2.1 (yS s) p.2.2.2).toInt - (A 23 n).toInt := tS (by omega) (by omega)
  unfold bd3
  rw [E1, E3, ms_mx, mx_toInt, e2, show (0 : Int32).toInt = 0 from by decide]
  refine ⟨?_, ?_, ?_, ?_, ?_⟩ <;> (repeat' split) <;> omega
