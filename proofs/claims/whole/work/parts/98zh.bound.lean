/-! Pure: bounds. By hand. -/
theorem tA {a b : Int32} (h1 : -2000000000 ≤ a.toInt + b.toInt) (h2 : a.toInt + b.toInt ≤ 2000000000) : (a + b).toInt = a.toInt + b.toInt := by
  rw [Int32.toInt_add, Int.bmod_eq_of_le] <;> omega
theorem tS {a b : Int32} (h1 : -2000000000 ≤ a.toInt - b.toInt) (h2 : a.toInt - b.toInt ≤ 2000000000) : (a - b).toInt = a.toInt - b.toInt := by
  rw [Int32.toInt_sub, Int.bmod_eq_of_le] <;> omega
theorem tN {a : Int32} (h1 : -2000000000 ≤ a.toInt) (h2 : a.toInt ≤ 2000000000) : (-a).toInt = -a.toInt := by
  rw [Int32.toInt_neg, Int.bmod_eq_of_le] <;> omega
theorem tH {a : Int32} (h : 0 ≤ a.toInt) : (a / 2).toInt = a.toInt / 2 := by
  have h2 := Int32.toInt_lt a
  rw [Int32.toInt_div, show (2 : Int32).toInt = 2 from by decide, Int.tdiv_eq_ediv_of_nonneg h, Int.bmod_eq_of_le] <;> omega
theorem t2 {a : Int32} (h1 : -1000000000 ≤ a.toInt) (h2 : a.toInt ≤ 1000000000) : (2 * a).toInt = 2 * a.toInt := by
  rw [Int32.toInt_mul, show (2 : Int32).toInt = 2 from by decide, Int.bmod_eq_of_le] <;> omega
theorem vI_of {v : Int32} (h : 0 ≤ v.toInt) : v = nI v.toInt.toNat := by
  apply Int32.toInt_inj.mp
  have := Int32.toInt_lt v
  rw [nI_toInt (by omega)]
  omega
def bd3 (w h d : Int32) (M : Nat) : Prop := 0 ≤ w.toInt ∧ w.toInt ≤ M ∧ 0 ≤ h.toInt ∧ 0 ≤ d.toInt ∧ h.toInt + d.toInt ≤ M
theorem bd3_w {w h d : Int32} {M M' : Nat} (g : bd3 w h d M) (hM : M ≤ M') : bd3 w h d M' := by
  unfold bd3 at g ⊢
  omega
/-- constants of the styles -/
theorem cy : ∀ s, s < 4 → (5 ≤ (yS s).toInt ∧ (yS s).toInt ≤ 10) ∧ (2 ≤ (yT s).toInt ∧ (yT s).toInt ≤ 4) ∧ (12 ≤ (yX s).toInt ∧ (yX s).toInt ≤ 25) ∧ (20 ≤ (frL s).toInt ∧ (frL s).toInt ≤ 70) ∧ (2 ≤ (frC s).toInt ∧ (frC s).toInt ≤ 12) ∧ (11 ≤ (frY s).toInt ∧ (frY s).toInt ≤ 23) ∧ (25 ≤ (5 * yS s).toInt ∧ (5 * yS s).toInt ≤ 50) ∧ (20 ≤ (4 * yS s).toInt ∧ (4 * yS s).toInt ≤ 40) ∧ (15 ≤ (3 * yS s).toInt ∧ (3 * yS s).toInt ≤ 30) ∧ (10 ≤ (2 * yS s).toInt ∧ (2 * yS s).toInt ≤ 20) ∧ (4 ≤ (2 * yT s).toInt ∧ (2 * yT s).toInt ≤ 8) ∧ (8 ≤ (4 * yT s).toInt ∧ (4 * yT s).toInt ≤ 16) ∧ (6 ≤ (3 * yT s).toInt ∧ (3 * yT s).toInt ≤ 12) ∧ (2 ≤ (yS s / 2).toInt ∧ (yS s / 2).toInt ≤ 5) ∧ (2 ≤ (if s = 0 then yS s else yT s).toInt ∧ (if s = 0 then yS s else yT s).toInt ≤ 10) ∧ (0 ≤ (sgH 94 (yS s)).toInt ∧ (sgH 94 (yS s)).toInt ≤ 70) ∧ (4 ≤ (if s = 0 then yT s + yS s else 2 * yT s).toInt ∧ (if s = 0 then yT s + yS s else 2 * yT s).toInt ≤ 14) := by
  intro s hs
  rcases (by omega : s = 0 ∨ s = 1 ∨ s = 2 ∨ s = 3) with rfl | rfl | rfl | rfl
  all_goals (refine ⟨?_, ?_, ?_, ?_, ?_, ?_, ?_, ?_, ?_, ?_, ?_, ?_, ?_, ?_, ?_, ?_, ?_⟩ <;> decide)
theorem b_fr {s : Nat} (hs : s < 4) {wa ha da wb hb db : Int32} {Ma Mb : Nat} (hMa : Ma ≤ 100000000) (hMb : Mb ≤ 100000000) (ga : bd3 wa ha da Ma) (gb : bd3 wb hb db Mb) : bd3 (frW s wa wb) (frU s da + ha) (frD s hb + db) (Ma + Mb + 300) := by
  obtain ⟨-, c2, -, c4, c5, c6, -, -, -, -, c11, -⟩ := cy s hs
  unfold bd3 at ga gb ⊢
  have e1 : (frW s wa wb).toInt = (2 * yT s).toInt + (mx wa wb).toInt := by
    have := mx_toInt wa wb
    exact tA (by split at this <;> omega) (by split at this <;> omega)
  have e2 : (frY s + yT s).toInt = (frY s).toInt + (yT s).toInt := tA (by omega) (by omega)
  have e3 : (frY s + yT s + frC s).toInt = (frY s + yT s).toInt + (frC s).toInt := tA (by omega) (by omega)
  have e4 : (frY s + yT s + frC s + da).toInt = (frY s + yT s + frC s).toInt + da.toInt := tA (by omega) (by omega)
  have e5 : (frU s da).toInt = _ := mx_toInt (frL s) (frY s + yT s + frC s + da)
  have e6 : (frU s da + ha).toInt = (frU s da).toInt + ha.toInt := tA (by split at e5 <;> omega) (by split at e5 <;> omega)
  have e7 : (hb + frC s).toInt = hb.toInt + (frC s).toInt := tA (by omega) (by omega)
  have e8 : (hb + frC s - frY s).toInt = (hb + frC s).toInt - (frY s).toInt := tS (by omega) (by omega)
  have e9 : (frD s hb).toInt = _ := mx_toInt (frL s) (hb + frC s - frY s)
  have e10 : (frD s hb + db).toInt = (frD s hb).toInt + db.toInt := tA (by split at e9 <;> omega) (by split at e9 <;> omega)
  have e11 := mx_toInt wa wb
  rw [e1, e6, e10, e11, e5, e9]
  refine ⟨?_, ?_, ?_, ?_, ?_⟩ <;> (repeat' split) <;> omega
theorem tl_b {z k : Nat} (h1 : 5 ≤ z) (h2 : z ≤ 10) : k ≤ tlN z k ∧ tlN z k ≤ k + 20 := by
  unfold tlN
  have h9 := Nat.div_add_mod (k + 2 * z - 1) (2 * z)
  have h8 := Nat.mod_lt (k + 2 * z - 1) (show 0 < 2 * z by omega)
  rw [Nat.mul_comm] at h9
  omega
theorem ta_b {s : Nat} (hs : s < 4) {v : Int32} (h0 : 0 ≤ v.toInt) (h1 : v.toInt ≤ 1000000000) : v.toInt ≤ (yTa s v).toInt ∧ (yTa s v).toInt ≤ v.toInt + 20 := by
  obtain ⟨-, z1, z2⟩ := zN_y hs
  have e := vI_of h0
  have q := tl_b (k := v.toInt.toNat) z1 z2
  rw [e, yTa_N hs (by omega), nI_toInt (by omega), nI_toInt (by omega)]
  omega
theorem b_rt {s : Nat} (hs : s < 4) {w h d : Int32} {M : Nat} (hM : M ≤ 100000000) (g : bd3 w h d M) : bd3 (5 * yS s + w) (rtY s h + yT s) (mx d (rtT s h d - (rtY s h + yT s))) (M + 200) ∧ 0 ≤ (rtY s h + yT s + d).toInt ∧ (rtY s h + yT s + d).toInt ≤ M + 100 := by
  obtain ⟨c1, c2, -, -, -, -, c7, -, -, -, -, -, -, -, c15, -⟩ := cy s hs
  unfold bd3 at g ⊢
  have e1 : (5 * yS s + w).toInt = (5 * yS s).toInt + w.toInt := tA (by omega) (by omega)
  have e2 : (h + yT s).toInt = h.toInt + (yT s).toInt := tA (by omega) (by omega)
  have e3 : (rtY s h).toInt = (h + yT s).toInt + (if s = 0 then yS s else yT s).toInt := tA (by omega) (by omega)
  have e4 : (rtY s h + yT s).toInt = (rtY s h).toInt + (yT s).toInt := tA (by omega) (by omega)
  have e5 : (rtY s h + yT s + d).toInt = (rtY s h + yT s).toInt + d.toInt := tA (by omega) (by omega)
  have e6 : _ ∧ (rtT s h d).toInt ≤ _ := ta_b hs (v := rtY s h + yT s + d) (by omega) (by omega)
  have e6' : (rtY s h + yT s + d).toInt ≤ (rtT s h d).toInt := e6.1
  have e7 : (rtT s h d - (rtY s h + yT s)).toInt = (rtT s h d).toInt - (rtY s h + yT s).toInt := tS (by omega) (by omega)
  have e8 := mx_toInt d (rtT s h d - (rtY s h + yT s))
  rw [e8, e1]
  refine ⟨⟨?_, ?_, ?_, ?_, ?_⟩, ?_, ?_⟩ <;> (repeat' split) <;> omega
theorem b_ht {s : Nat} (hs : s < 4) {w h d : Int32} {M : Nat} (hM : M ≤ 100000000) (g : bd3 w h d M) : bd3 w (mx h (htY s h + sgH 94 (yS s))) d (M + 200) := by
  obtain ⟨-, -, -, -, -, -, c7, -, -, -, -, -, -, -, -, c16, -⟩ := cy s hs
  unfold bd3 at g ⊢
  have e1 : (h - 5 * yS s).toInt = h.toInt - (5 * yS s).toInt := tS (by omega) (by omega)
  have e2 : (htY s h).toInt = _ := mx_toInt 0 (h - 5 * yS s)
  rw [show (0 : Int32).toInt = 0 from by decide] at e2
  have e3 : (htY s h + sgH 94 (yS s)).toInt = (htY s h).toInt + (sgH 94 (yS s)).toInt := tA (by split at e2 <;> omega) (by split at e2 <;> omega)
  have e4 := mx_toInt h (htY s h + sgH 94 (yS s))
  rw [e4]
  refine ⟨?_, ?_, ?_, ?_, ?_⟩ <;> (repeat' split) <;> (split at e2) <;> omega
theorem b_br {s : Nat} (hs : s < 4) {w h d : Int32} {M : Nat} (hM : M ≤ 100000000) (g : bd3 w h d M) : bd3 w (h + 3 * yT s) d (M + 200) := by
  obtain ⟨-, -, -, -, -, -, -, -, -, -, -, -, c13, -⟩ := cy s hs
  unfold bd3 at g ⊢
  have e1 : (h + 3 * yT s).toInt = h.toInt + (3 * yT s).toInt := tA (by omega) (by omega)
  omega
/-- what stands between sides -/
theorem b_sd {s : Nat} (hs : s < 4) {w h d : Int32} {M : Nat} (hM : M ≤ 100000000) (g : bd3 w h d M) : (0 ≤ (2 * mx (4 * yS s) (mx (h - yX s) (d + yX s))).toInt ∧ (2 * mx (4 * yS s) (mx (h - yX s) (d + yX s))).toInt ≤ 2 * M + 200) ∧ ∀ (p q : Int32), (0 ≤ p.toInt ∧ p.toInt ≤ 40) → (0 ≤ q.toInt ∧ q.toInt ≤ 40) → bd3 (p + w + q) (mx h (yX s + sdT s h d / 2)) (mx d (sdT s h d / 2 - yX s)) (2 * M + 300) ∧ bd3 (p + w + q) h d (2 * M + 300) := by
  obtain ⟨c1, -, c3, -, -, -, -, c8, -⟩ := cy s hs
  unfold bd3 at g ⊢
  have e1 : (h - yX s).toInt = h.toInt - (yX s).toInt := tS (by omega) (by omega)
  have e2 : (d + yX s).toInt = d.toInt + (yX s).toInt := tA (by omega) (by omega)
  have e3 := mx_toInt (h - yX s) (d + yX s)
  have e4 := mx_toInt (4 * yS s) (mx (h - yX s) (d + yX s))
  have b4 : 20 ≤ (mx (4 * yS s) (mx (h - yX s) (d + yX s))).toInt ∧ (mx (4 * yS s) (mx (h - yX s) (d + yX s))).toInt ≤ M + 65 ∧ h.toInt - (yX s).toInt ≤ (mx (4 * yS s) (mx (h - yX s) (d + yX s))).toInt ∧ ((mx (4 * yS s) (mx (h - yX s) (d + yX s))).toInt ≤ 40 ∨ (mx (4 * yS s) (mx (h - yX s) (d + yX s))).toInt ≤ h.toInt ∨ (mx (4 * yS s) (mx (h - yX s) (d + yX s))).toInt ≤ d.toInt + 25) := by
    rw [e4, e3, e1, e2]
    (repeat' split) <;> omega
  have e5 : (2 * mx (4 * yS s) (mx (h - yX s) (d + yX s))).toInt = 2 * (mx (4 * yS s) (mx (h - yX s) (d + yX s))).toInt := t2 (by omega) (by omega)
  refine ⟨by omega, fun p q hp hq => ?_⟩
  have e6 : _ ∧ (sdT s h d).toInt ≤ _ := ta_b hs (v := 2 * mx (4 * yS s) (mx (h - yX s) (d + yX s))) (by omega) (by omega)
  have e6' : (2 * mx (4 * yS s) (mx (h - yX s) (d + yX s))).toInt ≤ (sdT s h d).toInt := e6.1
  have e6b := e6.2
  have e7 : (sdT s h d / 2).toInt = (sdT s h d).toInt / 2 := tH (by omega)
  have e8 : (yX s + sdT s h d / 2).toInt = (yX s).toInt + (sdT s h d / 2).toInt := tA (by omega) (by omega)
  have e9 : (sdT s h d / 2 - yX s).toInt = (sdT s h d / 2).toInt - (yX s).toInt := tS (by omega) (by omega)
  have e10 : (p + w).toInt = p.toInt + w.toInt := tA (by omega) (by omega)
  have e11 : (p + w + q).toInt = (p + w).toInt + q.toInt := tA (by omega) (by omega)
  have e12 := mx_toInt h (yX s + sdT s h d / 2)
  have e13 := mx_toInt d (sdT s h d / 2 - yX s)
  rw [e12, e13]
  refine ⟨⟨?_, ?_, ?_, ?_, ?_⟩, ?_, ?_, ?_, ?_, ?_⟩ <;> (repeat' split) <;> omega
