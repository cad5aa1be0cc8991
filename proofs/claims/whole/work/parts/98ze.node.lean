/-! Pure: measuring a node. By hand. -/
/-- the parts of a body; all that belong to a node -/
def kb (v : Int32) (o t : Nat) (cs : List Nat) : List Nat := if v = 0 ∨ v = 9 then cs else if v = 4 then [o, t] else if v = 1 ∨ v = 2 then [] else [o]
def kd (v : Int32) (u lo o t : Nat) (cs : List Nat) : List Nat := u :: lo :: kb v o t cs
abbrev kbN (A : Nat → Nat → Int32) (n : Nat) : List Nat := kb (A 1 n) (ixI (A 10 n)) (ixI (A 11 n)) (chN A n)
abbrev kdN (A : Nat → Nat → Int32) (n : Nat) : List Nat := kd (A 1 n) (ixI (A 12 n)) (ixI (A 13 n)) (ixI (A 10 n)) (ixI (A 11 n)) (chN A n)
def EQ (A : Nat → Nat → Int32) (n : Nat) : Prop := EB A n (ixI (A 20 n)) (ixI (A 10 n)) (ixI (A 11 n)) (chN A n) ∧ ES A n (ixI (A 20 n)) (ixI (A 12 n)) (ixI (A 13 n))
/-- columns that say a node's measure; those that say it and its place -/
def cM (k : Nat) : Prop := (22 ≤ k ∧ k ≤ 28) ∨ k = 34 ∨ k = 35
def cK (k : Nat) : Prop := (22 ≤ k ∧ k ≤ 27) ∨ k = 29 ∨ k = 30 ∨ k = 33
theorem liE_ag {A A' : Nat → Nat → Int32} {n s : Nat} (hn : A' 22 n = A 22 n ∧ A' 23 n = A 23 n ∧ A' 24 n = A 24 n) : ∀ (t : List Nat) (w h d : Int32), (∀ i ∈ t, ∀ k, cK k → A' k i = A k i) → liE A n s t w h d → liE A' n s t w h d
  | [], _, _, _, _, g => ⟨hn.1.trans g.1, hn.2.1.trans g.2.1, hn.2.2.trans g.2.2⟩
  | i :: t, w, h, d, hc, g => by
    have hi := hc i List.mem_cons_self
    have es : spv A' i t = spv A i t := by
      cases t with
      | nil => rfl
      | cons j t =>
        show spR (ixI (A' 33 i)) (ixI (A' 33 j)) = spR (ixI (A 33 i)) (ixI (A 33 j))
        rw [hi 33 (by unfold cK; omega), hc j (List.mem_cons_of_mem _ List.mem_cons_self) 33 (by unfold cK; omega)]
    refine ⟨⟨(hi 29 (by unfold cK; omega)).trans g.1.1, (hi 30 (by unfold cK; omega)).trans g.1.2⟩, ?_⟩
    rw [es, hi 25 (by unfold cK; omega), hi 26 (by unfold cK; omega), hi 27 (by unfold cK; omega)]
    exact liE_ag hn t _ _ _ (fun q hq => hc q (List.mem_cons_of_mem _ hq)) g.2
theorem EB_ag {A A' : Nat → Nat → Int32} {n s o t : Nat} {cs : List Nat} (h21 : ∀ k, k ≤ 21 → A' k = A k) (hn : ∀ k, (k = 22 ∨ k = 23 ∨ k = 24 ∨ k = 34 ∨ k = 35) → A' k n = A k n) (hc : ∀ c ∈ kb (A 1 n) o t cs, ∀ k, cK k → A' k c = A k c) (g : EB A n s o t cs) : EB A' n s o t cs := by
  have n22 := hn 22 (by omega)
  have n23 := hn 23 (by omega)
  have n24 := hn 24 (by omega)
  have n34 := hn 34 (by omega)
  have n35 := hn 35 (by omega)
  unfold EB at g ⊢
  rw [h21 1 (by decide), h21 2 (by decide), h21 3 (by decide)]
  unfold kb at hc
  by_cases c0 : A 1 n = 0
  · rw [if_pos c0] at g ⊢
    rw [if_pos (Or.inl c0)] at hc
    refine ⟨liE_ag ⟨n22, n23, n24⟩ cs _ _ _ hc g.1, fun so hs h8 => ?_⟩
    rw [h21 4 (by decide)] at hs
    rw [← g.2 so hs h8]
    exact List.map_congr_left (fun q hq => hc q hq 33 (by unfold cK; omega))
  · rw [if_neg c0] at g ⊢
    by_cases c1 : A 1 n = 1
    · rw [if_pos c1] at g ⊢
      rw [n22, n23, n24]; exact g
    · rw [if_neg c1] at g ⊢
      by_cases c2 : A 1 n = 2
      · rw [if_pos c2] at g ⊢
        rw [n22, n23, n24, n35]; exact g
      · rw [if_neg c2] at g ⊢
        by_cases c9 : A 1 n = 9
        · rw [c9, if_pos (Or.inr rfl)] at hc
          rw [c9, if_neg (by decide), if_neg (by decide), if_neg (by decide), if_neg (by decide), if_pos rfl] at g ⊢
          obtain ⟨f, g9, h9, q1, q2, q3, q4⟩ := g
          have em : ∀ p : MS, cs.foldl (mcF A') p = cs.foldl (mcF A) p := fun p => mcF_ag cs p (fun i hi => ⟨by rw [h21 8 (by decide)], by rw [h21 9 (by decide)], hc i hi 22 (by unfold cK; omega), hc i hi 23 (by unfold cK; omega), hc i hi 24 (by unfold cK; omega)⟩)
          refine ⟨f, g9, h9, ?_⟩
          rw [em]
          refine ⟨n22.trans q1, n23.trans q2, ?_, fun i hi => ?_⟩
          · rw [n24, n23]; exact q3
          · rw [hc i hi 29 (by unfold cK; omega), hc i hi 30 (by unfold cK; omega), hc i hi 22 (by unfold cK; omega), h21 9 (by decide), h21 8 (by decide), n23]
            exact q4 i hi
        · rw [if_neg (fun z => z.elim c0 c9)] at hc
          by_cases c4 : A 1 n = 4
          · rw [if_pos c4] at hc
            have ho := hc o (by simp)
            have ht := hc t (by simp)
            rw [c4, if_neg (by decide), if_pos rfl] at g ⊢
            rw [n22, n23, n24, n35, ho 25 (by unfold cK; omega), ho 26 (by unfold cK; omega), ho 27 (by unfold cK; omega), ho 29 (by unfold cK; omega), ho 30 (by unfold cK; omega), ht 25 (by unfold cK; omega), ht 26 (by unfold cK; omega), ht 27 (by unfold cK; omega), ht 29 (by unfold cK; omega), ht 30 (by unfold cK; omega)]
            exact g
          · rw [if_neg c4, if_neg (fun z => z.elim c1 c2)] at hc
            have ho := hc o (by simp)
            have o22 := ho 22 (by unfold cK; omega)
            have o23 := ho 23 (by unfold cK; omega)
            have o24 := ho 24 (by unfold cK; omega)
            have o25 := ho 25 (by unfold cK; omega)
            have o26 := ho 26 (by unfold cK; omega)
            have o27 := ho 27 (by unfold cK; omega)
            have o29 := ho 29 (by unfold cK; omega)
            have o30 := ho 30 (by unfold cK; omega)
            rw [n22, n23, n24, n34, n35, o22, o23, o24, o25, o26, o27, o29, o30]
            rw [if_neg c9] at g ⊢
            rw [if_neg c4] at g ⊢
            exact g
theorem ES_ag {A A' : Nat → Nat → Int32} {n s u lo : Nat} (h21 : ∀ k, k ≤ 21 → A' k = A k) (hn : ∀ k, cM k → A' k n = A k n) (hu : u ≠ 0 → ∀ k, cK k → A' k u = A k u) (hl : lo ≠ 0 → ∀ k, cK k → A' k lo = A k lo) (g : ES A n s u lo) : ES A' n s u lo := by
  have n22 := hn 22 (by unfold cM; omega)
  have n23 := hn 23 (by unfold cM; omega)
  have n24 := hn 24 (by unfold cM; omega)
  have n25 := hn 25 (by unfold cM; omega)
  have n26 := hn 26 (by unfold cM; omega)
  have n27 := hn 27 (by unfold cM; omega)
  have n28 := hn 28 (by unfold cM; omega)
  have eL : vLx A' n s = vLx A n s := by unfold vLx; rw [h21 1 (by decide), h21 2 (by decide), n22]
  unfold ES at g ⊢
  rw [h21 1 (by decide), h21 2 (by decide), h21 21 (by decide), n22, n23, n24, n25, n26, n27, n28, eL]
  by_cases c1 : u = 0
  · by_cases c2 : lo = 0
    · rw [if_pos ⟨c1, c2⟩] at g ⊢; exact g
    · have hl := hl c2
      rw [hl 25 (by unfold cK; omega), hl 26 (by unfold cK; omega), hl 27 (by unfold cK; omega), hl 29 (by unfold cK; omega), hl 30 (by unfold cK; omega)]
      simp only [c1, c2, not_true, not_false_eq_true, if_true, if_false, false_and, true_and, and_false, false_implies, true_implies] at g ⊢
      exact g
  · have hu := hu c1
    rw [hu 25 (by unfold cK; omega), hu 26 (by unfold cK; omega), hu 27 (by unfold cK; omega), hu 29 (by unfold cK; omega), hu 30 (by unfold cK; omega)]
    by_cases c2 : lo = 0
    · simp only [c1, c2, not_true, not_false_eq_true, if_true, if_false, false_and, true_and, and_false, false_implies, true_implies] at g ⊢
      exact g
    · have hl := hl c2
      rw [hl 25 (by unfold cK; omega), hl 26 (by unfold cK; omega), hl 27 (by unfold cK; omega), hl 29 (by unfold cK; omega), hl 30 (by unfold cK; omega)]
      exact g
theorem chN_ag {A A' : Nat → Nat → Int32} {n : Nat} (h21 : ∀ k, k ≤ 21 → A' k = A k) : chN A' n = chN A n := by
  show chR (A' 7) 400 (A' 6 n) = _
  rw [h21 7 (by decide), h21 6 (by decide)]
theorem EQ_ag {A A' : Nat → Nat → Int32} {n : Nat} (h21 : ∀ k, k ≤ 21 → A' k = A k) (hn : ∀ k, cM k → A' k n = A k n) (hb : ∀ c ∈ kbN A n, ∀ k, cK k → A' k c = A k c) (hu : ixI (A 12 n) ≠ 0 → ∀ k, cK k → A' k (ixI (A 12 n)) = A k (ixI (A 12 n))) (hl : ixI (A 13 n) ≠ 0 → ∀ k, cK k → A' k (ixI (A 13 n)) = A k (ixI (A 13 n))) (g : EQ A n) : EQ A' n := by
  unfold EQ
  rw [chN_ag h21, h21 20 (by decide), h21 10 (by decide), h21 11 (by decide), h21 12 (by decide), h21 13 (by decide)]
  exact ⟨EB_ag h21 (fun k hk => hn k (by unfold cM; omega)) hb g.1, ES_ag h21 hn hu hl g.2⟩
/-- what measuring node n touches -/
def PM (n : Nat) (ks : List Nat) (k m : Nat) : Prop := ¬ (cM k ∧ m = n) ∧ ¬ ((k = 29 ∨ k = 30 ∨ k = 33) ∧ m ∈ ks ∧ m ≠ 0) ∧ ¬ (36 ≤ k ∧ k ≤ 38)
theorem me_k {A : Nat → Nat → Int32} {n s u lo o t cw : Nat} {cs : List Nat} (hz : ∀ c ∈ kb (A 1 n) o t cs, c ≠ 0) : sam (PM n (kd (A 1 n) u lo o t cs)) A (rf_me A n s u lo o t cw cs) := by
  intro k m h
  unfold rf_me
  rw [sc_k k m (fun z => by
    rcases z with z | z
    · exact h.1 ⟨by unfold cM; omega, z.2.2⟩
    · refine h.2.1 ⟨by omega, ?_, ?_⟩
      · unfold kd
        rcases z.2 with w | w
        · rw [w.1]; exact List.mem_cons_self
        · rw [w.1]; exact List.mem_cons_of_mem _ List.mem_cons_self
      · rcases z.2 with w | w
        · rw [w.1]; exact w.2
        · rw [w.1]; exact w.2)]
  have hk : ∀ ks : List Nat, (∀ c ∈ ks, c ∈ kb (A 1 n) o t cs) → PB n ks k m := fun ks hs => ⟨fun z => h.1 ⟨by unfold cM; omega, z.2⟩, fun z => h.2.1 ⟨z.1, List.mem_cons_of_mem _ (List.mem_cons_of_mem _ (hs m z.2)), hz m (hs m z.2)⟩, h.2.2⟩
  unfold rf_bo
  by_cases c0 : A 1 n = 0
  · rw [if_pos c0]; exact li_k k m (hk cs (fun c hc => by unfold kb; rw [if_pos (Or.inl c0)]; exact hc))
  · rw [if_neg c0]
    by_cases c1 : A 1 n = 1
    · rw [if_pos c1]; exact ch_k k m (hk [] (fun c hc => absurd hc List.not_mem_nil))
    · rw [if_neg c1]
      by_cases c2 : A 1 n = 2
      · rw [if_pos c2]; exact la_k k m (hk [] (fun c hc => absurd hc List.not_mem_nil))
      · rw [if_neg c2]
        by_cases c4 : A 1 n = 4
        · rw [if_neg (by rw [c4]; decide), if_pos c4]; exact fr_k k m (hk [o, t] (fun c hc => by unfold kb; rw [c4, if_neg (by decide), if_pos rfl]; exact hc))
        · by_cases c9 : A 1 n = 9
          · rw [if_neg (by rw [c9]; decide), if_neg c4, if_neg (by rw [c9]; decide), if_neg (by rw [c9]; decide), if_pos c9]; exact mt_k k m (hk cs (fun c hc => by unfold kb; rw [if_pos (Or.inr c9)]; exact hc))
          · have ho := hk [o] (fun c hc => by unfold kb; rw [if_neg (fun z => z.elim c0 c9), if_neg c4, if_neg (fun z => z.elim c1 c2)]; exact hc)
            by_cases c3 : A 1 n = 3
            · rw [if_pos c3]; exact gr_k k m ho
            · rw [if_neg c3, if_neg c4]
              by_cases c5 : A 1 n = 5
              · rw [if_pos c5]; exact sq_k k m ho
              · rw [if_neg c5]
                by_cases c8 : A 1 n = 8
                · rw [if_pos c8]; exact lf_k k m ho
                · rw [if_neg c8, if_neg c9]; exact ac_k k m ho
theorem bo_21 {A : Nat → Nat → Int32} {n s o t cw k : Nat} {cs : List Nat} (h : k ≤ 21) : rf_bo A n s o t cw cs k = A k := by
  have h : k < 22 := by omega
  unfold rf_bo
  repeat' split
  · exact rf_li_k h
  · exact rf_ch_k h
  · exact rf_la_k h
  · exact rf_gr_k h
  · exact rf_fr_k h
  · exact rf_sq_k h
  · exact rf_lf_k h
  · exact rf_mt_k h
  · exact rf_ac_k h
theorem me_21 {A : Nat → Nat → Int32} {n s u lo o t cw k : Nat} {cs : List Nat} (h : k ≤ 21) : rf_me A n s u lo o t cw cs k = A k := by
  unfold rf_me
  rw [rf_sc_k (by omega), bo_21 h]
/-- a measured node -/
theorem me_e {A : Nat → Nat → Int32} {n s u lo o t : Nat} {cs : List Nat} (hv : A 1 n = 0 ∨ A 1 n = 1 ∨ A 1 n = 2 ∨ A 1 n = 3 ∨ A 1 n = 4 ∨ A 1 n = 5 ∨ A 1 n = 6 ∨ A 1 n = 7 ∨ A 1 n = 8 ∨ A 1 n = 9) (hn : ∀ c ∈ kd (A 1 n) u lo o t cs, c ≠ 0 → c ≠ n) (hz : ∀ c ∈ kb (A 1 n) o t cs, c ≠ 0) (hd : (kb (A 1 n) o t cs).Nodup) (hul : u ≠ 0 → lo ≠ u ∧ u ∉ kb (A 1 n) o t cs) (hlo : lo ≠ 0 → lo ∉ kb (A 1 n) o t cs) (h0 : A 1 n = 0 → u = 0 ∧ lo = 0) : EB (rf_me A n s u lo o t (cwc ((mP A s cs).1 36) 8 0) cs) n s o t cs ∧ ES (rf_me A n s u lo o t (cwc ((mP A s cs).1 36) 8 0) cs) n s u lo := by
  obtain ⟨B, hB⟩ : ∃ z, z = rf_bo A n s o t (cwc ((mP A s cs).1 36) 8 0) cs := ⟨_, rfl⟩
  have e : rf_me A n s u lo o t (cwc ((mP A s cs).1 36) 8 0) cs = rf_sc B n s u lo := by rw [hB]; rfl
  have hB1 : ∀ k, k ≤ 21 → B k = A k := fun k hk => by rw [hB]; exact bo_21 hk
  have hnu : u ≠ 0 → u ≠ n := hn u (by unfold kd; simp)
  have hnl : lo ≠ 0 → lo ≠ n := hn lo (by unfold kd; simp)
  have hnb : ∀ c ∈ kb (A 1 n) o t cs, c ≠ n := fun c hc => hn c (by unfold kd; exact List.mem_cons_of_mem _ (List.mem_cons_of_mem _ hc)) (hz c hc)
  rw [e]
  refine ⟨?_, sc_es hnu hnl (fun z => (hul z).1) (by rw [hB1 1 (by decide)]; exact h0)⟩
  have g : EB B n s o t cs := by
    rw [hB]
    unfold rf_bo
    unfold kb at hnb hd
    rcases hv with v | v | v | v | v | v | v | v | v | v
    · rw [if_pos v]
      rw [if_pos (Or.inl v)] at hnb hd
      exact li_e v (fun z => hnb n z rfl) hd
    · rw [if_neg (by rw [v]; decide), if_pos v]; exact ch_e v
    · rw [if_neg (by rw [v]; decide), if_neg (by rw [v]; decide), if_pos v]; exact la_e v
    · rw [v, if_neg (by decide), if_neg (by decide), if_neg (by decide), if_pos rfl]
      rw [v, if_neg (by decide), if_neg (by decide), if_neg (by decide)] at hnb
      exact gr_e v (hnb o (by simp))
    · rw [v, if_neg (by decide), if_neg (by decide), if_neg (by decide), if_neg (by decide), if_pos rfl]
      rw [v, if_neg (by decide), if_pos rfl] at hnb hd
      exact fr_e v (hnb o (by simp)) (hnb t (by simp)) (by simpa using hd)
    · rw [v, if_neg (by decide), if_neg (by decide), if_neg (by decide), if_neg (by decide), if_neg (by decide), if_pos rfl]
      rw [v, if_neg (by decide), if_neg (by decide), if_neg (by decide)] at hnb
      exact sq_e v (hnb o (by simp))
    · rw [v, if_neg (by decide), if_neg (by decide), if_neg (by decide), if_neg (by decide), if_neg (by decide), if_neg (by decide), if_neg (by decide), if_neg (by decide)]
      rw [v, if_neg (by decide), if_neg (by decide), if_neg (by decide)] at hnb
      exact ac_e (Or.inl v) (hnb o (by simp))
    · rw [v, if_neg (by decide), if_neg (by decide), if_neg (by decide), if_neg (by decide), if_neg (by decide), if_neg (by decide), if_neg (by decide), if_neg (by decide)]
      rw [v, if_neg (by decide), if_neg (by decide), if_neg (by decide)] at hnb
      exact ac_e (Or.inr v) (hnb o (by simp))
    · rw [v, if_neg (by decide), if_neg (by decide), if_neg (by decide), if_neg (by decide), if_neg (by decide), if_neg (by decide), if_pos rfl]
      rw [v, if_neg (by decide), if_neg (by decide), if_neg (by decide)] at hnb
      exact lf_e v (hnb o (by simp))
    · rw [v, if_neg (by decide), if_neg (by decide), if_neg (by decide), if_neg (by decide), if_neg (by decide), if_neg (by decide), if_neg (by decide), if_pos rfl]
      rw [if_pos (Or.inr v)] at hnb hd
      exact mt_e v (fun z => hnb n z rfl) hd
  have hs : ∀ k m, ¬ ((25 ≤ k ∧ k ≤ 28 ∧ m = n) ∨ ((k = 29 ∨ k = 30) ∧ ((m = u ∧ ¬ u = 0) ∨ (m = lo ∧ ¬ lo = 0)))) → rf_sc B n s u lo k m = B k m := sc_k
  refine EB_ag (fun k hk => rf_sc_k (by omega)) (fun k hk => hs k n (by omega)) (fun c hc k hk => hs k c ?_) g
  rw [hB1 1 (by decide)] at hc
  have q1 := hnb c hc
  rintro (z | z)
  · exact q1 z.2.2
  · rcases z.2 with w | w
    · exact (hul w.2).2 (w.1 ▸ hc)
    · exact hlo w.2 (w.1 ▸ hc)
