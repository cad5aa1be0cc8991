/-! Pure: what making and pushing do to the reference's arrays. By hand (one row printed). -/
theorem up2_old {A B : Nat → Nat → Int32} {j N m : Nat} {g : Nat → Int32} {v : Int32} (hm : m ≠ N) (h : ∀ k, B k m = A k m) (hg : g m = A j m) : ∀ k, up2 B j (upd g N v) k m = A k m := by
  intro k
  unfold up2
  split
  · next e => subst e; rw [upd_n hm]; exact hg
  · exact h k
theorem make_old {A : Nat → Nat → Int32} {N m : Nat} {wh : Int32} (hm : m ≠ N) : ∀ k, rf_make A N wh k m = A k m := (up2_old hm (up2_old hm (up2_old hm (up2_old hm (up2_old hm (up2_old hm (up2_old hm (up2_old hm (up2_old hm (up2_old hm (up2_old hm (up2_old hm (up2_old hm (up2_old hm (fun _ => rfl) rfl) rfl) rfl) rfl) rfl) rfl) rfl) rfl) rfl) rfl) rfl) rfl) rfl) rfl)
theorem nuc_old {A : Nat → Nat → Int32} {N O u m : Nat} {wh cl : Int32} (hm : m ≠ N) : ∀ k, rf_nuc A N O u wh cl k m = A k m := up2_old hm (up2_old hm (make_old hm) rfl) (make_old hm 4)
/-- a new nucleus -/
theorem nuc_new {A : Nat → Nat → Int32} {N O u : Nat} {wh cl : Int32} : rf_nuc A N O u wh cl 1 N = wh ∧ rf_nuc A N O u wh cl 4 N = cl ∧ rf_nuc A N O u wh cl 5 N = rf_lv A O u ∧ (∀ k, k = 2 ∨ k = 3 ∨ k = 6 ∨ k = 7 ∨ k = 8 ∨ k = 9 ∨ k = 10 ∨ k = 11 ∨ k = 12 ∨ k = 13 ∨ k = 14 ∨ k = 15 → rf_nuc A N O u wh cl k N = 0) ∧ (∀ k, 16 ≤ k → rf_nuc A N O u wh cl k = A k) ∧ rf_nuc A N O u wh cl 0 = A 0 := by
  refine ⟨upd_s, upd_s, upd_s, fun k hk => ?_, fun k hk => ?_, rfl⟩
  · rcases hk with rfl | rfl | rfl | rfl | rfl | rfl | rfl | rfl | rfl | rfl | rfl | rfl <;> exact upd_s
  · unfold rf_nuc rf_make up2
    repeat rw [if_neg (by omega)]
/-- a new list of node nn -/
theorem ow_new {A : Nat → Nat → Int32} {N : Nat} {nn : Int32} : rf_ow A N nn 14 N = nn ∧ (∀ k, k = 1 ∨ k = 2 ∨ k = 3 ∨ k = 4 ∨ k = 6 ∨ k = 7 ∨ k = 8 ∨ k = 9 ∨ k = 10 ∨ k = 11 ∨ k = 12 ∨ k = 13 ∨ k = 15 → rf_ow A N nn k N = 0) ∧ (∀ k, 16 ≤ k → rf_ow A N nn k = A k) ∧ rf_ow A N nn 0 = A 0 := by
  refine ⟨upd_s, fun k hk => ?_, fun k hk => ?_, rfl⟩
  · rcases hk with rfl | rfl | rfl | rfl | rfl | rfl | rfl | rfl | rfl | rfl | rfl | rfl | rfl <;> exact upd_s
  · unfold rf_ow rf_make up2
    repeat rw [if_neg (by omega)]
theorem ow_old {A : Nat → Nat → Int32} {N m : Nat} {nn : Int32} (hm : m ≠ N) : ∀ k, rf_ow A N nn k m = A k m := up2_old hm (make_old hm) (make_old hm 14)
/-- what is kept: nodes before N, frames before O, the text -/
def kpt2 (A A1 : Nat → Nat → Int32) (N O : Nat) : Prop := A1 0 = A 0 ∧ (∀ k, 1 ≤ k → k ≤ 15 → ∀ m, m < N → A1 k m = A k m) ∧ ∀ k, 16 ≤ k → k ≤ 19 → ∀ j, j < O → A1 k j = A k j
theorem kpt2.refl {A : Nat → Nat → Int32} {N O : Nat} : kpt2 A A N O := ⟨rfl, fun _ _ _ _ _ => rfl, fun _ _ _ _ _ => rfl⟩
theorem kpt2.trans {A B D : Nat → Nat → Int32} {N N2 O O2 : Nat} (h : kpt2 A B N O) (g : kpt2 B D N2 O2) (hN : N ≤ N2) (hO : O ≤ O2) : kpt2 A D N O :=
  ⟨g.1.trans h.1, fun k a b m hm => (g.2.1 k a b m (by omega)).trans (h.2.1 k a b m hm), fun k a b j hj => (g.2.2 k a b j (by omega)).trans (h.2.2 k a b j hj)⟩
theorem nuc_kpt {A : Nat → Nat → Int32} {N O u : Nat} {wh cl : Int32} : kpt2 A (rf_nuc A N O u wh cl) N O :=
  ⟨nuc_new.2.2.2.2.2, fun k _ _ m hm => nuc_old (by omega) k, fun k h1 _ j _ => by rw [nuc_new.2.2.2.2.1 k h1]⟩
theorem push_k {A : Nat → Nat → Int32} {O k : Nat} {wh nn ii : Int32} (h : k < 16) : rf_push A O wh nn ii k = A k := by
  unfold rf_push up2
  repeat rw [if_neg (by omega)]
theorem push_old {A : Nat → Nat → Int32} {O j : Nat} {wh nn ii : Int32} (hj : j ≠ O) : ∀ k, rf_push A O wh nn ii k j = A k j := up2_old hj (up2_old hj (up2_old hj (up2_old hj (fun _ => rfl) rfl) rfl) rfl) rfl
theorem push_new {A : Nat → Nat → Int32} {O : Nat} {wh nn ii : Int32} : rf_push A O wh nn ii 16 O = wh ∧ rf_push A O wh nn ii 17 O = nn ∧ rf_push A O wh nn ii 18 O = ii ∧ rf_push A O wh nn ii 19 O = 0 := ⟨upd_s, upd_s, upd_s, upd_s⟩
theorem push_kpt {A : Nat → Nat → Int32} {N O : Nat} {wh nn ii : Int32} : kpt2 A (rf_push A O wh nn ii) N O :=
  ⟨push_k (by decide), fun k _ h2 m _ => by rw [push_k (by omega)], fun k _ _ j hj => push_old (by omega) k⟩
