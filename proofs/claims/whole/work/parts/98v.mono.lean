/-! Pure: a tree of d levels is one of d + 1. By hand. -/
section
variable {C : Nat → Nat → Int32} {R : Nat → Nat → Option Nat} {CL : Nat → Nat → Int32} {RL : Nat → Nat → Option Nat} {A : Nat → Nat → Int32} {P P' : PR}
theorem SB_mono (h : ∀ i l i' l', P i l i' l' → P' i l i' l') {o : Nat} {sc : Int32} {q : XT} (g : SB R A P o sc q) : SB R A P' o sc q := ⟨h _ _ _ _ g.1, g.2⟩
theorem SI_mono (h : ∀ i l i' l', P i l i' l' → P' i l i' l') {x : XT} (g : SI R A P x) : SI R A P' x := by
  obtain ⟨i1, l1, ou, ol, h1, h2, h3, h4, h5, h6, h7⟩ := g
  exact ⟨i1, l1, ou, ol, h _ _ _ _ h1, h2, h3, h4, fun q hq => ⟨SB_mono h (h5 q hq).1, (h5 q hq).2⟩, fun q hq => ⟨SB_mono h (h6 q hq).1, (h6 q hq).2⟩, h7⟩
theorem SL_mono (h : ∀ i l i' l', P i l i' l' → P' i l i' l') {x : XT} (g : SL R RL A P x) : SL R RL A P' x := by
  obtain ⟨h0, xs, so, h1, h2, h3⟩ := g
  exact ⟨h0, xs, so, h1, fun q hq => ⟨SI_mono h (h2 q hq).1, (h2 q hq).2⟩, h3⟩
theorem SK_mono (h : ∀ i l i' l', P i l i' l' → P' i l i' l') {k : Nat} {x : XT} (g : SK C R CL RL A P k x) : SK C R CL RL A P' k x := by
  unfold SK at g ⊢
  by_cases c1 : k = 0 ∨ (2 ≤ k ∧ k ≤ 4)
  · rw [if_pos c1] at g ⊢; exact g
  · rw [if_neg c1] at g ⊢
    by_cases c2 : k = 1 ∨ k = 9
    · rw [if_pos c2] at g ⊢
      exact ⟨g.1, g.2.1, g.2.2.1, SL_mono h g.2.2.2.1, g.2.2.2.2⟩
    · rw [if_neg c2] at g ⊢
      by_cases c3 : k = 5
      · rw [if_pos c3] at g ⊢
        obtain ⟨i1, l1, e1, e2, e3, e4, e5, e6⟩ := g
        exact ⟨i1, l1, e1, e2, e3, e4, SB_mono h e5, SB_mono h e6⟩
      · rw [if_neg c3] at g ⊢
        by_cases c4 : k < 9
        · rw [if_pos c4] at g ⊢
          exact ⟨g.1, g.2.1, g.2.2.1, SB_mono h g.2.2.2⟩
        · rw [if_neg c4] at g ⊢
          obtain ⟨xs, e0, e1, e2, e3, e4, e5, e6, e7, e8, e9⟩ := g
          exact ⟨xs, e0, e1, e2, e3, e4, e5, e6, e7, fun q hq => ⟨SL_mono h (e8 q hq).1, (e8 q hq).2⟩, e9⟩
theorem SN_mono : ∀ (d i l i' l' : Nat), SN C R CL RL A d i l i' l' → SN C R CL RL A (d + 1) i l i' l'
  | 0, _, _, _, _, h => h.elim
  | d + 1, i, l, i', l', h => by
    obtain ⟨k, hk, h5, h1, h2, h3, h4⟩ := h
    exact ⟨k, hk, h5, h1, h2, h3, SK_mono (SN_mono d) h4⟩
end
