/-! Where a box's pieces lie, and where a cell stands: bounds that reading keeps. By hand. -/
def okR (C CL : Nat → Nat → Int32) : Prop := (∀ k, k < 60 → (C k 3 = nI (ixI (C k 3)) ∧ ixI (C k 3) ≤ 120) ∧ C k 4 = nI (ixI (C k 4)) ∧ ixI (C k 4) ≤ 120) ∧ ∀ j, j < 161 → (CL j 3 = nI (ixI (CL j 3)) ∧ ixI (CL j 3) ≤ 120) ∧ (CL j 4 = nI (ixI (CL j 4)) ∧ ixI (CL j 4) ≤ 120) ∧ (CL j 6 = nI (ixI (CL j 6)) ∧ ixI (CL j 6) < 8) ∧ CL j 7 = nI (ixI (CL j 7)) ∧ ixI (CL j 7) < 8
theorem okR_Ck {C CL C' : Nat → Nat → Int32} (h : okR C CL) (g : ∀ k z, z = 3 ∨ z = 4 → C' k z = C k z) : okR C' CL := by
  refine ⟨fun k hk => ?_, h.2⟩
  rw [g k 3 (Or.inl rfl), g k 4 (Or.inr rfl)]
  exact h.1 k hk
theorem okR_7 {C CL : Nat → Nat → Int32} {i : Nat} {v : Int32} (h : okR C CL) : okR (sT C i 7 v) CL := okR_Ck h (fun k z hz => sT_ne (by omega))
theorem okR_8 {C CL : Nat → Nat → Int32} {i : Nat} {v : Int32} (h : okR C CL) : okR (sT C i 8 v) CL := okR_Ck h (fun k z hz => sT_ne (by omega))
theorem okR_nu {C CL : Nat → Nat → Int32} {i : Nat} (h : okR C CL) : okR (nu_c C i) CL := okR_Ck h (fun k z hz => by
  show upT C i (up1 (up1 (C i) 7 0) 8 0) k z = C k z
  unfold upT up1
  split
  · next e =>
    show (if z = 8 then (0 : Int32) else if z = 7 then 0 else C i z) = C k z
    rw [if_neg (by omega), if_neg (by omega), e]
  · rfl)
theorem okR_l6 {C CL : Nat → Nat → Int32} {j r : Nat} (h : okR C CL) (hr : r < 8) : okR C (sT CL j 6 (nI r)) := by
  refine ⟨h.1, fun k hk => ?_⟩
  have g := h.2 k hk
  refine ⟨by rw [sT_ne (by omega)]; exact g.1, by rw [sT_ne (by omega)]; exact g.2.1, ?_, by rw [sT_ne (by omega)]; exact g.2.2.2⟩
  by_cases e : k = j
  · rw [e, sT_same, show ixI (nI r) = r from nI_clamp (by omega)]
    exact ⟨rfl, hr⟩
  · rw [sT_ne (fun z => e z.1)]; exact g.2.2.1
theorem okR_l7 {C CL : Nat → Nat → Int32} {j r : Nat} (h : okR C CL) (hr : r < 8) : okR C (sT CL j 7 (nI r)) := by
  refine ⟨h.1, fun k hk => ?_⟩
  have g := h.2 k hk
  refine ⟨by rw [sT_ne (by omega)]; exact g.1, by rw [sT_ne (by omega)]; exact g.2.1, by rw [sT_ne (by omega)]; exact g.2.2.1, ?_⟩
  by_cases e : k = j
  · rw [e, sT_same, show ixI (nI r) = r from nI_clamp (by omega)]
    exact ⟨rfl, hr⟩
  · rw [sT_ne (fun z => e z.1)]; exact g.2.2.2
theorem okR_li {C CL : Nat → Nat → Int32} {j : Nat} (h : okR C CL) : okR C (li_c CL j) := by
  have e : li_c CL j = sT (sT CL j 6 (nI 0)) j 7 (nI 0) := by
    funext a b
    show upT CL j (up1 (up1 (CL j) 6 0) 7 0) a b = _
    unfold sT upT up1
    by_cases c : a = j
    · rw [if_pos c, if_pos c, if_pos rfl]
      rfl
    · rw [if_neg c, if_neg c, if_neg c]
  rw [e]
  exact okR_l7 (okR_l6 h (by decide)) (by decide)
theorem okR_0z : ((0 : Int32) = nI (ixI 0) ∧ ixI (0 : Int32) ≤ 120) ∧ ixI (0 : Int32) < 8 := by decide
theorem okR_0 : okR (fun _ _ => 0) (fun _ _ => 0) := ⟨fun _ _ => ⟨okR_0z.1, okR_0z.1⟩, fun _ _ => ⟨okR_0z.1, okR_0z.1, ⟨okR_0z.1.1, okR_0z.2⟩, okR_0z.1.1, okR_0z.2⟩⟩
