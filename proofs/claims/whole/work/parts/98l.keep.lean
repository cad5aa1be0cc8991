/-! Pure: a tree stays the same where its cells stay. By hand. -/
/-- the same nuclei i to before i', lines l to before l', nodes i + l to before i' + l' -/
def agF (C : Nat → Nat → Int32) (R : Nat → Nat → Option Nat) (CL : Nat → Nat → Int32) (RL : Nat → Nat → Option Nat) (A C' : Nat → Nat → Int32) (R' : Nat → Nat → Option Nat) (CL' : Nat → Nat → Int32) (RL' : Nat → Nat → Option Nat) (A' : Nat → Nat → Int32) (x : XT) : Prop := (∀ q, x.1 ≤ q → q < x.2.2.1 → C' q 7 = C q 7 ∧ C' q 8 = C q 8 ∧ ∀ k, R' q k = R q k) ∧ (∀ j, x.2.1 ≤ j → j < x.2.2.2 → CL' j 6 = CL j 6 ∧ CL' j 7 = CL j 7 ∧ RL' j 5 = RL j 5 ∧ RL' j 8 = RL j 8) ∧ (∀ m, xn x ≤ m → m < x.2.2.1 + x.2.2.2 → ∀ k, 1 ≤ k → k ≤ 15 → A' k m = A k m)
/-- the same, but for what others say of the first nucleus -/
def agN (C : Nat → Nat → Int32) (R : Nat → Nat → Option Nat) (CL : Nat → Nat → Int32) (RL : Nat → Nat → Option Nat) (A C' : Nat → Nat → Int32) (R' : Nat → Nat → Option Nat) (CL' : Nat → Nat → Int32) (RL' : Nat → Nat → Option Nat) (A' : Nat → Nat → Int32) (x : XT) : Prop := (C' x.1 7 = C x.1 7 ∧ C' x.1 8 = C x.1 8 ∧ ∀ k, k = 5 ∨ k = 9 ∨ k = 10 ∨ k = 11 → R' x.1 k = R x.1 k) ∧ (∀ k, k = 1 ∨ k = 2 ∨ k = 3 ∨ k = 6 ∨ k = 10 ∨ k = 11 → A' k (xn x) = A k (xn x)) ∧ agF C R CL RL A C' R' CL' RL' A' (x.1 + 1, x.2.1, x.2.2.1, x.2.2.2)
/-- the same, but for what others say of the line -/
def agL (C : Nat → Nat → Int32) (R : Nat → Nat → Option Nat) (CL : Nat → Nat → Int32) (RL : Nat → Nat → Option Nat) (A C' : Nat → Nat → Int32) (R' : Nat → Nat → Option Nat) (CL' : Nat → Nat → Int32) (RL' : Nat → Nat → Option Nat) (A' : Nat → Nat → Int32) (x : XT) : Prop := RL' x.2.1 5 = RL x.2.1 5 ∧ (∀ k, k = 1 ∨ k = 6 ∨ k = 10 ∨ k = 11 ∨ k = 12 ∨ k = 13 → A' k (xn x) = A k (xn x)) ∧ agF C R CL RL A C' R' CL' RL' A' (x.1, x.2.1 + 1, x.2.2.1, x.2.2.2)
section
variable {C : Nat → Nat → Int32} {R : Nat → Nat → Option Nat} {CL : Nat → Nat → Int32} {RL : Nat → Nat → Option Nat} {A C' : Nat → Nat → Int32} {R' : Nat → Nat → Option Nat} {CL' : Nat → Nat → Int32} {RL' : Nat → Nat → Option Nat} {A' : Nat → Nat → Int32}
theorem agF_sub {x y : XT} (h : agF C R CL RL A C' R' CL' RL' A' x) (h1 : x.1 ≤ y.1) (h2 : x.2.1 ≤ y.2.1) (h3 : y.2.2.1 ≤ x.2.2.1) (h4 : y.2.2.2 ≤ x.2.2.2) : agF C R CL RL A C' R' CL' RL' A' y :=
  ⟨fun q a b => h.1 q (by omega) (by omega), fun q a b => h.2.1 q (by omega) (by omega), fun q a b => h.2.2 q (by have a : y.1 + y.2.1 ≤ q := a; show x.1 + x.2.1 ≤ q; omega) (by omega)⟩
theorem agF_N {x : XT} (h : agF C R CL RL A C' R' CL' RL' A' x) (h1 : x.1 < x.2.2.1) (h2 : x.2.1 ≤ x.2.2.2) : agN C R CL RL A C' R' CL' RL' A' x := by
  have g := h.1 x.1 (Nat.le_refl _) h1
  exact ⟨⟨g.1, g.2.1, fun k _ => g.2.2 k⟩, fun k hk => h.2.2 (xn x) (Nat.le_refl _) (by show x.1 + x.2.1 < _; omega) k (by omega) (by omega), agF_sub h (by dsimp only; omega) (Nat.le_refl _) (Nat.le_refl _) (Nat.le_refl _)⟩
theorem agF_L {x : XT} (h : agF C R CL RL A C' R' CL' RL' A' x) (h1 : x.1 ≤ x.2.2.1) (h2 : x.2.1 < x.2.2.2) : agL C R CL RL A C' R' CL' RL' A' x := by
  have g := h.2.1 x.2.1 (Nat.le_refl _) h2
  exact ⟨g.2.2.1, fun k hk => h.2.2 (xn x) (Nat.le_refl _) (by show x.1 + x.2.1 < _; omega) k (by omega) (by omega), agF_sub h (Nat.le_refl _) (by dsimp only; omega) (Nat.le_refl _) (Nat.le_refl _)⟩
theorem SB_ag {P P' : PR} (hle : ∀ i l i' l', P i l i' l' → i < i' ∧ l ≤ l') (hP : ∀ x : XT, P x.1 x.2.1 x.2.2.1 x.2.2.2 → agN C R CL RL A C' R' CL' RL' A' x → P' x.1 x.2.1 x.2.2.1 x.2.2.2) {o : Nat} {sc : Int32} {q : XT} (h : SB R A P o sc q) (g : agF C R CL RL A C' R' CL' RL' A' q) : SB R' A' P' o sc q := by
  obtain ⟨h1, h2, h3, h4, h5⟩ := h
  have l1 := hle _ _ _ _ h1
  have gr := (g.1 q.1 (Nat.le_refl _) l1.1).2.2
  have ga := g.2.2 (xn q) (Nat.le_refl _) (by show q.1 + q.2.1 < _; omega)
  refine ⟨hP q h1 (agF_N g l1.1 l1.2), ⟨by rw [gr]; exact h2.1, by rw [gr]; exact h2.2⟩, ⟨?_, ?_⟩, ?_, ?_⟩
  · rw [ga 12 (by decide) (by decide)]; exact h3.1
  · rw [ga 13 (by decide) (by decide)]; exact h3.2
  · rw [ga 14 (by decide) (by decide)]; exact h4
  · rw [ga 15 (by decide) (by decide)]; exact h5
theorem SI_ag {P P' : PR} (hle : ∀ i l i' l', P i l i' l' → i < i' ∧ l ≤ l') (hP : ∀ x : XT, P x.1 x.2.1 x.2.2.1 x.2.2.2 → agN C R CL RL A C' R' CL' RL' A' x → P' x.1 x.2.1 x.2.2.1 x.2.2.2) {x : XT} (h : SI R A P x) (g : agF C R CL RL A C' R' CL' RL' A' x) : SI R' A' P' x := by
  obtain ⟨i1, l1, ou, ol, h1, h2, h3, h4, h5, h6, h7⟩ := h
  have le1 := hle _ _ _ _ h1
  have gr := (g.1 x.1 (Nat.le_refl _) (by omega)).2.2
  have ga := g.2.2 (xn x) (Nat.le_refl _) (by show x.1 + x.2.1 < _; omega)
  refine ⟨i1, l1, ou, ol, hP (x.1, x.2.1, i1, l1) h1 (agF_N (agF_sub g (Nat.le_refl _) (Nat.le_refl _) h2.1 h2.2) le1.1 le1.2), h2, ⟨by rw [gr]; exact h3.1, by rw [gr]; exact h3.2⟩, ⟨?_, ?_⟩, fun q hq => ?_, fun q hq => ?_, h7⟩
  · rw [ga 12 (by decide) (by decide)]; exact h4.1
  · rw [ga 13 (by decide) (by decide)]; exact h4.2
  · obtain ⟨e1, e2⟩ := h5 q hq
    exact ⟨SB_ag hle hP e1 (agF_sub g (by omega) (by omega) e2.2.2.1 e2.2.2.2), e2⟩
  · obtain ⟨e1, e2⟩ := h6 q hq
    exact ⟨SB_ag hle hP e1 (agF_sub g (by omega) (by omega) e2.2.2.1 e2.2.2.2), e2⟩
theorem lkR_ag : ∀ (xs : List XT), (∀ q ∈ xs, R' q.1 14 = R q.1 14) → lkR R xs → lkR R' xs
  | [], _, _ => trivial
  | q :: t, h, g => ⟨by rw [h q List.mem_cons_self]; exact g.1, lkR_ag t (fun z hz => h z (List.mem_cons_of_mem _ hz)) g.2⟩
theorem lkL_ag : ∀ (xs : List XT), (∀ q ∈ xs, RL' q.2.1 8 = RL q.2.1 8) → lkL RL xs → lkL RL' xs
  | [], _, _ => trivial
  | q :: t, h, g => ⟨by rw [h q List.mem_cons_self]; exact g.1, lkL_ag t (fun z hz => h z (List.mem_cons_of_mem _ hz)) g.2⟩
theorem lkA_ag {f f' : Nat → Int32} : ∀ (xs : List XT), (∀ q ∈ xs, f' (xn q) = f (xn q)) → lkA f xs → lkA f' xs
  | [], _, _ => trivial
  | q :: t, h, g => ⟨by rw [h q List.mem_cons_self]; exact g.1, lkA_ag t (fun z hz => h z (List.mem_cons_of_mem _ hz)) g.2⟩
theorem cpo_ag : ∀ (xs : List XT) (r c : Nat), (∀ q ∈ xs, CL' q.2.1 6 = CL q.2.1 6 ∧ CL' q.2.1 7 = CL q.2.1 7) → cpo CL r c xs → cpo CL' r c xs
  | [], _, _, _, _ => trivial
  | q :: t, r, c, h, g => ⟨g.1, g.2.1, by rw [(h q List.mem_cons_self).1]; exact g.2.2.1, by rw [(h q List.mem_cons_self).2]; exact g.2.2.2.1, g.2.2.2.2.imp (cpo_ag t _ _ (fun z hz => h z (List.mem_cons_of_mem _ hz))) (cpo_ag t _ _ (fun z hz => h z (List.mem_cons_of_mem _ hz)))⟩
theorem SL_ag {P P' : PR} (hle : ∀ i l i' l', P i l i' l' → i < i' ∧ l ≤ l') (hP : ∀ x : XT, P x.1 x.2.1 x.2.2.1 x.2.2.2 → agN C R CL RL A C' R' CL' RL' A' x → P' x.1 x.2.1 x.2.2.1 x.2.2.2) {x : XT} (h : SL R RL A P x) (g : agL C R CL RL A C' R' CL' RL' A' x) : SL R' RL' A' P' x := by
  obtain ⟨⟨a1, a10, a11, a12, a13⟩, xs, so, h1, h2, h3, h4, h5, h6, h7, h8, h9⟩ := h
  obtain ⟨g1, g2, g3⟩ := g
  have le1 : ∀ q ∈ xs, q.1 < q.2.2.1 ∧ q.2.1 ≤ q.2.2.2 := fun q hq => SI_le hle (h2 q hq).1
  have hin := chn_in xs _ _ _ _ h1 (fun q hq => by have := le1 q hq; omega)
  have ga : ∀ q ∈ xs, ∀ k, 1 ≤ k → k ≤ 15 → A' k (xn q) = A k (xn q) := fun q hq k k1 k2 => by
    have b1 := hin q hq
    have b2 := le1 q hq
    exact g3.2.2 (xn q) (by show x.1 + (x.2.1 + 1) ≤ q.1 + q.2.1; omega) (by show q.1 + q.2.1 < x.2.2.1 + x.2.2.2; omega) k k1 k2
  have gr : ∀ q ∈ xs, ∀ k, R' q.1 k = R q.1 k := fun q hq k => by
    have b1 := hin q hq
    have b2 := le1 q hq
    exact (g3.1 q.1 (show x.1 ≤ q.1 by omega) (show q.1 < x.2.2.1 by omega)).2.2 k
  refine ⟨⟨?_, ?_, ?_, ?_, ?_⟩, xs, so, h1, fun q hq => ⟨SI_ag hle hP (h2 q hq).1 ?_, ?_, ?_⟩, ?_, ?_, lkR_ag xs (fun q hq => gr q hq 14) h5, lkA_ag xs (fun q hq => ga q hq 7 (by decide) (by decide)) h6, ?_, h8, ?_⟩
  · rw [g2 1 (by omega)]; exact a1
  · rw [g2 10 (by omega)]; exact a10
  · rw [g2 11 (by omega)]; exact a11
  · rw [g2 12 (by omega)]; exact a12
  · rw [g2 13 (by omega)]; exact a13
  · have b1 := hin q hq
    exact agF_sub g3 b1.1 b1.2.1 b1.2.2.1 b1.2.2.2
  · rw [ga q hq 14 (by decide) (by decide)]; exact (h2 q hq).2.1
  · rw [ga q hq 15 (by decide) (by decide)]; exact (h2 q hq).2.2
  · rw [g1]; exact h3
  · rw [g2 6 (by omega)]; exact h4
  · rw [← h7]; exact List.map_congr_left (fun q hq => ga q hq 4 (by decide) (by decide))
  · rw [← h9]; exact List.map_congr_left (fun q hq => gr q hq 6)
theorem SN_ag : ∀ (d : Nat) (x : XT), SN C R CL RL A d x.1 x.2.1 x.2.2.1 x.2.2.2 → agN C R CL RL A C' R' CL' RL' A' x → SN C' R' CL' RL' A' d x.1 x.2.1 x.2.2.1 x.2.2.2
  | 0, _, h, _ => h.elim
  | d + 1, x, h, g => by
    have hle := SN_le (C := C) (R := R) (CL := CL) (RL := RL) (A := A) d
    have hP := SN_ag d
    obtain ⟨k, hk, h5, h1, h2, h3, h⟩ := h
    obtain ⟨⟨gc, gc8, gr⟩, ga, gf⟩ := g
    have ea : ∀ k, k = 1 ∨ k = 2 ∨ k = 3 ∨ k = 6 ∨ k = 10 ∨ k = 11 → A' k (x.1 + x.2.1) = A k (x.1 + x.2.1) := ga
    refine ⟨k, hk, by rw [gr 5 (by omega)]; exact h5, ⟨by rw [ea 1 (by omega)]; exact h1.1, fun z => (ea 6 (by omega)).trans (h1.2 z)⟩, by rw [ea 2 (by omega), gc]; exact h2, by rw [gc]; exact h3, ?_⟩
    unfold SK at h ⊢
    by_cases c1 : k = 0 ∨ (2 ≤ k ∧ k ≤ 4)
    · rw [if_pos c1] at h ⊢
      obtain ⟨e1, e2, e3, e4, e5⟩ := h
      exact ⟨e1, e2, (ea 10 (by omega)).trans e3, (ea 11 (by omega)).trans e4, e5.imp id (fun z => gc.trans z)⟩
    · rw [if_neg c1] at h ⊢
      by_cases c2 : k = 1 ∨ k = 9
      · rw [if_pos c2] at h ⊢
        obtain ⟨e1, e2, e3, e4, e5, e6, e7⟩ := h
        have l1 := SL_le hle e4
        dsimp only at l1
        have q1 := gf.2.2 (x.1 + x.2.1 + 1) (by show (x.1 + 1) + x.2.1 ≤ _; omega) (by show _ < x.2.2.1 + x.2.2.2; omega)
        exact ⟨(gr 11 (by omega)).trans e1, (ea 10 (by omega)).trans e2, (ea 11 (by omega)).trans e3, SL_ag hle hP e4 (agF_L gf l1.1 l1.2), (q1 14 (by decide) (by decide)).trans e5, (q1 15 (by decide) (by decide)).trans e6, fun z => ⟨(ea 3 (by omega)).trans ((e7 z).1.trans gc8.symm), by dsimp only; rw [gc8]; exact (e7 z).2⟩⟩
      · rw [if_neg c2] at h ⊢
        by_cases c3 : k = 5
        · rw [if_pos c3] at h ⊢
          obtain ⟨i1, l1, e1, e2, e3, e4, e5, e6⟩ := h
          have b1 := hle _ _ _ _ e5.1
          have b2 := hle _ _ _ _ e6.1
          dsimp only at b1 b2
          exact ⟨i1, l1, (gr 9 (by omega)).trans e1, (gr 10 (by omega)).trans e2, (ea 10 (by omega)).trans e3, (ea 11 (by omega)).trans e4, SB_ag hle hP e5 (agF_sub gf (Nat.le_refl _) (Nat.le_refl _) (by dsimp only; omega) (by dsimp only; omega)), SB_ag hle hP e6 (agF_sub gf (by dsimp only; omega) (by dsimp only; omega) (Nat.le_refl _) (Nat.le_refl _))⟩
        · rw [if_neg c3] at h ⊢
          by_cases c4 : k < 9
          · rw [if_pos c4] at h ⊢
            obtain ⟨e1, e2, e3, e4⟩ := h
            exact ⟨(gr 9 (by omega)).trans e1, (ea 10 (by omega)).trans e2, (ea 11 (by omega)).trans e3, SB_ag hle hP e4 gf⟩
          · rw [if_neg c4] at h ⊢
            obtain ⟨xs, e0, e1, e2, e3, e4, e5, e6, e7, e8, e9⟩ := h
            have le1 : ∀ q ∈ xs, q.1 ≤ q.2.2.1 ∧ q.2.1 < q.2.2.2 := fun q hq => SL_le hle (e8 q hq).1
            have hin := chn_in xs _ _ _ _ e5 (fun q hq => by have := le1 q hq; omega)
            have fa : ∀ q ∈ xs, ∀ k, 1 ≤ k → k ≤ 15 → A' k (xn q) = A k (xn q) := fun q hq k k1 k2 => by
              have b1 := hin q hq
              dsimp only at b1
              have b2 := le1 q hq
              exact gf.2.2 (xn q) (by show (x.1 + 1) + x.2.1 ≤ q.1 + q.2.1; omega) (by show q.1 + q.2.1 < x.2.2.1 + x.2.2.2; omega) k k1 k2
            have fl : ∀ q ∈ xs, CL' q.2.1 6 = CL q.2.1 6 ∧ CL' q.2.1 7 = CL q.2.1 7 ∧ RL' q.2.1 5 = RL q.2.1 5 ∧ RL' q.2.1 8 = RL q.2.1 8 := fun q hq => by
              have b1 := hin q hq
              dsimp only at b1
              have b2 := le1 q hq
              exact gf.2.1 q.2.1 (show x.2.1 ≤ q.2.1 by omega) (show q.2.1 < x.2.2.2 by omega)
            refine ⟨xs, e0, (gr 11 (by omega)).trans e1, (ea 10 (by omega)).trans e2, (ea 11 (by omega)).trans e3, (ea 6 (by omega)).trans e4, e5, lkL_ag xs (fun q hq => (fl q hq).2.2.2) e6, lkA_ag xs (fun q hq => fa q hq 7 (by decide) (by decide)) e7, fun q hq => ?_, cpo_ag xs 0 0 (fun q hq => ⟨(fl q hq).1, (fl q hq).2.1⟩) e9⟩
            obtain ⟨s1, s2, s3, s4, s5⟩ := e8 q hq
            have b1 := hin q hq
            have b2 := le1 q hq
            exact ⟨SL_ag hle hP s1 (agF_L (agF_sub gf b1.1 b1.2.1 b1.2.2.1 b1.2.2.2) b2.1 b2.2), (fa q hq 14 (by decide) (by decide)).trans s2, (fa q hq 15 (by decide) (by decide)).trans s3, by rw [fa q hq 8 (by decide) (by decide), (fl q hq).1]; exact s4, by rw [fa q hq 9 (by decide) (by decide), (fl q hq).2.1]; exact s5⟩
end
