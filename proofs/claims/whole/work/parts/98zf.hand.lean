/-! Pure: what is known of a node as it was read, and what styles are handed down. By hand. -/
def ND (B : Nat → Nat → Int32) (N n : Nat) : Prop := (okm (B 12 n) N ∧ okm (B 13 n) N ∧ okm (B 10 n) N ∧ okm (B 11 n) N) ∧ (B 6 n = nI (hdz (chN B n)) ∧ nxA (B 7) (chN B n)) ∧ (B 1 n = 0 ∨ B 1 n = 1 ∨ B 1 n = 2 ∨ B 1 n = 3 ∨ B 1 n = 4 ∨ B 1 n = 5 ∨ B 1 n = 6 ∨ B 1 n = 7 ∨ B 1 n = 8 ∨ B 1 n = 9) ∧ (∀ c ∈ kdN B n, c ≠ 0 → n < c ∧ c < N ∧ B 14 c = nI n) ∧ (∀ c ∈ kbN B n, c ≠ 0) ∧ (kbN B n).Nodup ∧ (ixI (B 12 n) ≠ 0 → ixI (B 13 n) ≠ ixI (B 12 n) ∧ ixI (B 12 n) ∉ kbN B n) ∧ (ixI (B 13 n) ≠ 0 → ixI (B 13 n) ∉ kbN B n) ∧ (B 1 n = 0 → ixI (B 12 n) = 0 ∧ ixI (B 13 n) = 0 ∧ ∀ c ∈ chN B n, ∃ p, p < 8 ∧ B 4 c = nI p) ∧ (B 1 n = 9 → ∀ c ∈ chN B n, okw (B 9 c) ∧ okw (B 8 c)) ∧ (B 1 n = 1 ∨ B 1 n = 2 → ixI (B 10 n) = 0) ∧ (¬ B 1 n = 4 → ixI (B 11 n) = 0)
/-- node n has an owner -/
def OW (B : Nat → Nat → Int32) (n : Nat) : Prop := n = 0 ∨ ∃ o, o < n ∧ n ∈ kdN B o
def EH (A : Nat → Nat → Int32) (n : Nat) : Prop :=
  (A 1 n = 0 → ∀ c ∈ chN A n, A 20 c = nI (ixI (A 20 n)) ∧ A 21 c = A 21 n) ∧
  (¬ A 1 n = 0 → (ixI (A 12 n) ≠ 0 → A 20 (ixI (A 12 n)) = nI (ySc (ixI (A 20 n))) ∧ A 21 (ixI (A 12 n)) = A 21 n) ∧ (ixI (A 13 n) ≠ 0 → A 20 (ixI (A 13 n)) = nI (ySc (ixI (A 20 n))) ∧ A 21 (ixI (A 13 n)) = 1)) ∧
  (A 1 n = 4 → (A 20 (ixI (A 10 n)) = nI (yPa (ixI (A 20 n))) ∧ A 21 (ixI (A 10 n)) = A 21 n) ∧ A 20 (ixI (A 11 n)) = nI (yPa (ixI (A 20 n))) ∧ A 21 (ixI (A 11 n)) = 1) ∧
  (A 1 n = 9 → ∀ c ∈ chN A n, A 20 c = nI (yCe (ixI (A 20 n))) ∧ A 21 c = A 21 n) ∧
  (A 1 n = 3 ∨ A 1 n = 8 → A 20 (ixI (A 10 n)) = nI (ixI (A 20 n)) ∧ A 21 (ixI (A 10 n)) = A 21 n) ∧
  (A 1 n = 5 ∨ A 1 n = 6 ∨ A 1 n = 7 → A 20 (ixI (A 10 n)) = nI (ixI (A 20 n)) ∧ A 21 (ixI (A 10 n)) = 1)
theorem hand_k {A : Nat → Nat → Int32} {c : Nat} {sv cv : Int32} : sam (fun k m => ¬ ((k = 20 ∨ k = 21) ∧ m = c ∧ c ≠ 0)) A (rf_hand A c sv cv) := by
  unfold rf_hand
  repeat' first | exact sam_0 | exact sgm_0 | apply sam_i | apply sam_u | apply sgm_u | intro _
  all_goals simp_all
theorem hand_v {A : Nat → Nat → Int32} {c : Nat} {sv cv : Int32} (h : c ≠ 0) : rf_hand A c sv cv 20 c = sv ∧ rf_hand A c sv cv 21 c = cv := by
  unfold rf_hand
  rw [if_neg h]
  exact ⟨upd_s, upd_s⟩
theorem hds_k {sv cv : Int32} : ∀ (cs : List Nat) (A : Nat → Nat → Int32), sam (fun k m => ¬ ((k = 20 ∨ k = 21) ∧ m ∈ cs ∧ m ≠ 0)) A (rf_hds sv cv cs A)
  | [], _ => sam_0
  | i :: t, A => by
    intro k m h
    show rf_hds sv cv t (rf_hand A i sv cv) k m = _
    rw [hds_k t _ k m (fun z => h ⟨z.1, List.mem_cons_of_mem _ z.2.1, z.2.2⟩)]
    exact hand_k k m (fun z => h ⟨z.1, by rw [z.2.1]; exact List.mem_cons_self, by rw [z.2.1]; exact z.2.2⟩)
theorem hds_v {sv cv : Int32} : ∀ (cs : List Nat) (A : Nat → Nat → Int32), (∀ c ∈ cs, c ≠ 0) → ∀ c ∈ cs, rf_hds sv cv cs A 20 c = sv ∧ rf_hds sv cv cs A 21 c = cv
  | [], _, _, c, hc => absurd hc List.not_mem_nil
  | i :: t, A, h0, c, hc => by
    show rf_hds sv cv t (rf_hand A i sv cv) 20 c = sv ∧ rf_hds sv cv t (rf_hand A i sv cv) 21 c = cv
    by_cases ct : c ∈ t
    · exact hds_v t _ (fun q hq => h0 q (List.mem_cons_of_mem _ hq)) c ct
    · have e : c = i := (List.mem_cons.mp hc).resolve_right ct
      rw [hds_k t _ 20 c (fun z => ct z.2.1), hds_k t _ 21 c (fun z => ct z.2.1), e]
      exact hand_v (h0 i List.mem_cons_self)
theorem hd_k {A : Nat → Nat → Int32} {n s u lo o t : Nat} {cs : List Nat} (h12 : A 1 n = 1 ∨ A 1 n = 2 → o = 0) : sam (fun k m => ¬ ((k = 20 ∨ k = 21) ∧ m ∈ kd (A 1 n) u lo o t cs ∧ m ≠ 0)) A (rf_hd A n s u lo o t cs) := by
  intro k m h
  unfold rf_hd
  have hm : ∀ c, c ∈ kd (A 1 n) u lo o t cs → ¬ ((k = 20 ∨ k = 21) ∧ m = c ∧ c ≠ 0) := fun c hc z => h ⟨z.1, by rw [z.2.1]; exact hc, by rw [z.2.1]; exact z.2.2⟩
  have hu := hm u (by unfold kd; simp)
  have hl := hm lo (by unfold kd; simp)
  have h2 : ∀ (sv cv sv' cv' : Int32), rf_hand (rf_hand A u sv cv) lo sv' cv' k m = A k m := fun sv cv sv' cv' => by rw [hand_k k m hl, hand_k k m hu]
  by_cases c0 : A 1 n = 0
  · rw [if_pos c0]
    exact hds_k cs A k m (fun z => h ⟨z.1, by unfold kd kb; rw [if_pos (Or.inl c0)]; exact List.mem_cons_of_mem _ (List.mem_cons_of_mem _ z.2.1), z.2.2⟩)
  · rw [if_neg c0]
    by_cases c4 : A 1 n = 4
    · rw [if_pos c4, hand_k k m (hm t (by unfold kd kb; rw [c4]; simp)), hand_k k m (hm o (by unfold kd kb; rw [c4]; simp)), h2]
    · rw [if_neg c4]
      by_cases c9 : A 1 n = 9
      · rw [if_pos c9, hds_k cs _ k m (fun z => h ⟨z.1, by unfold kd kb; rw [if_pos (Or.inr c9)]; exact List.mem_cons_of_mem _ (List.mem_cons_of_mem _ z.2.1), z.2.2⟩), h2]
      · rw [if_neg c9]
        by_cases c1 : A 1 n = 1 ∨ A 1 n = 2
        · rw [hand_k k m (fun z => z.2.2 (h12 c1)), h2]
        · rw [hand_k k m (hm o (by unfold kd kb; rw [if_neg (fun z => z.elim c0 c9), if_neg c4, if_neg c1]; simp)), h2]
theorem EH_ag {A A' : Nat → Nat → Int32} {n : Nat} (hk : ∀ k, k ≠ 20 → k ≠ 21 → A' k = A k) (hn : A' 20 n = A 20 n ∧ A' 21 n = A 21 n) (hc : ∀ c ∈ kdN A n, c ≠ 0 → A' 20 c = A 20 c ∧ A' 21 c = A 21 c) (hz : ∀ c ∈ kbN A n, c ≠ 0) (g : EH A n) : EH A' n := by
  have e1 : A' 1 = A 1 := hk 1 (by decide) (by decide)
  have e10 : A' 10 = A 10 := hk 10 (by decide) (by decide)
  have e11 : A' 11 = A 11 := hk 11 (by decide) (by decide)
  have e12 : A' 12 = A 12 := hk 12 (by decide) (by decide)
  have e13 : A' 13 = A 13 := hk 13 (by decide) (by decide)
  have ech : chN A' n = chN A n := by
    show chR (A' 7) 400 (A' 6 n) = _
    rw [hk 7 (by decide) (by decide), hk 6 (by decide) (by decide)]
  have hb : ∀ c ∈ kbN A n, A' 20 c = A 20 c ∧ A' 21 c = A 21 c := fun c h => hc c (List.mem_cons_of_mem _ (List.mem_cons_of_mem _ h)) (hz c h)
  obtain ⟨g1, g2, g3, g4, g5, g6⟩ := g
  unfold EH
  rw [e1, e10, e11, e12, e13, ech, hn.1, hn.2]
  refine ⟨fun v c h => ?_, fun v => ⟨fun h => ?_, fun h => ?_⟩, fun v => ?_, fun v c h => ?_, fun v => ?_, fun v => ?_⟩
  · have q := hb c (by show c ∈ kb _ _ _ _; unfold kb; rw [if_pos (Or.inl v)]; exact h)
    rw [q.1, q.2]; exact g1 v c h
  · have q := hc _ (by show _ ∈ kd _ _ _ _ _ _; unfold kd; exact List.mem_cons_self) h
    rw [q.1, q.2]; exact (g2 v).1 h
  · have q := hc _ (by show _ ∈ kd _ _ _ _ _ _; unfold kd; exact List.mem_cons_of_mem _ List.mem_cons_self) h
    rw [q.1, q.2]; exact (g2 v).2 h
  · have q := hb (ixI (A 10 n)) (by show _ ∈ kb _ _ _ _; unfold kb; rw [v]; simp)
    have q2 := hb (ixI (A 11 n)) (by show _ ∈ kb _ _ _ _; unfold kb; rw [v]; simp)
    rw [q.1, q.2, q2.1, q2.2]; exact g3 v
  · have q := hb c (by show c ∈ kb _ _ _ _; unfold kb; rw [if_pos (Or.inr v)]; exact h)
    rw [q.1, q.2]; exact g4 v c h
  · have q := hb (ixI (A 10 n)) (by show _ ∈ kb _ _ _ _; unfold kb; rcases v with v | v <;> rw [v] <;> simp)
    rw [q.1, q.2]; exact g5 v
  · have q := hb (ixI (A 10 n)) (by show _ ∈ kb _ _ _ _; unfold kb; rcases v with v | v | v <;> rw [v] <;> simp)
    rw [q.1, q.2]; exact g6 v
theorem hd_e {A : Nat → Nat → Int32} {N n : Nat} (h : ND A N n) (h1 : A 21 n = 0 ∨ A 21 n = 1) : EH (rf_hdN A n) n := by
  obtain ⟨-, -, hv, hk, hz, hd, hul, hlo, h0, -, h12, -⟩ := h
  have fr := hd_k (A := A) (n := n) (s := ixI (A 20 n)) (u := ixI (A 12 n)) (lo := ixI (A 13 n)) (o := ixI (A 10 n)) (t := ixI (A 11 n)) (cs := chN A n) h12
  have hcol : ∀ k, k ≠ 20 → k ≠ 21 → rf_hdN A n k = A k := fun k q1 q2 => by
    funext m
    exact fr k m (fun z => by omega)
  have hself : ∀ k, rf_hdN A n k n = A k n := fun k => fr k n (fun z => by have := (hk n z.2.1 z.2.2).1; omega)
  have ech : chN (rf_hdN A n) n = chN A n := by
    show chR (rf_hdN A n 7) 400 (rf_hdN A n 6 n) = _
    rw [hcol 7 (by decide) (by decide), hcol 6 (by decide) (by decide)]
  unfold EH
  rw [hcol 1 (by decide) (by decide), hcol 10 (by decide) (by decide), hcol 11 (by decide) (by decide), hcol 12 (by decide) (by decide), hcol 13 (by decide) (by decide), ech, hself 20, hself 21]
  obtain ⟨A2, hA2⟩ : ∃ z, z = rf_hand (rf_hand A (ixI (A 12 n)) (nI (ySc (ixI (A 20 n)))) (A 21 n)) (ixI (A 13 n)) (nI (ySc (ixI (A 20 n)))) 1 := ⟨_, rfl⟩
  have e2u : ixI (A 12 n) ≠ 0 → A2 20 (ixI (A 12 n)) = nI (ySc (ixI (A 20 n))) ∧ A2 21 (ixI (A 12 n)) = A 21 n := fun q => by
    have q1 := (hul q).1
    rw [hA2, hand_k 20 _ (fun z => q1 z.2.1.symm), hand_k 21 _ (fun z => q1 z.2.1.symm)]
    exact hand_v q
  have e2l : ixI (A 13 n) ≠ 0 → A2 20 (ixI (A 13 n)) = nI (ySc (ixI (A 20 n))) ∧ A2 21 (ixI (A 13 n)) = 1 := fun q => by
    rw [hA2]; exact hand_v q
  -- scripts stay when the body is handed
  have sc : ∀ R : Nat → Nat → Int32, (∀ k m, m ∉ kbN A n → R k m = A2 k m) → (ixI (A 12 n) ≠ 0 → R 20 (ixI (A 12 n)) = nI (ySc (ixI (A 20 n))) ∧ R 21 (ixI (A 12 n)) = A 21 n) ∧ (ixI (A 13 n) ≠ 0 → R 20 (ixI (A 13 n)) = nI (ySc (ixI (A 20 n))) ∧ R 21 (ixI (A 13 n)) = 1) := fun R hR => by
    refine ⟨fun q => ?_, fun q => ?_⟩
    · rw [hR 20 _ (hul q).2, hR 21 _ (hul q).2]; exact e2u q
    · rw [hR 20 _ (hlo q), hR 21 _ (hlo q)]; exact e2l q
  have eN : rf_hdN A n = rf_hd A n (ixI (A 20 n)) (ixI (A 12 n)) (ixI (A 13 n)) (ixI (A 10 n)) (ixI (A 11 n)) (chN A n) := rfl
  rw [eN]
  unfold rf_hd
  by_cases c0 : A 1 n = 0
  · rw [if_pos c0]
    have hz0 : ∀ c ∈ chN A n, c ≠ 0 := fun c hc => hz c (by show c ∈ kb _ _ _ _; unfold kb; rw [if_pos (Or.inl c0)]; exact hc)
    refine ⟨fun _ => hds_v _ _ hz0, fun v => absurd c0 v, fun v => ?_, fun v => ?_, fun v => ?_, fun v => ?_⟩
    · rw [c0] at v; exact absurd v (by decide)
    · rw [c0] at v; exact absurd v (by decide)
    · rw [c0] at v; exact absurd v (by decide)
    · rw [c0] at v; exact absurd v (by decide)
  · rw [if_neg c0, ← hA2]
    by_cases c4 : A 1 n = 4
    · rw [if_pos c4]
      have ekb : kbN A n = [ixI (A 10 n), ixI (A 11 n)] := by show kb _ _ _ _ = _; unfold kb; rw [c4]; rfl
      rw [ekb] at hz hd
      have q1 := hz _ (List.mem_cons_self)
      have q2 := hz (ixI (A 11 n)) (by simp)
      have q3 : ixI (A 10 n) ≠ ixI (A 11 n) := by simpa using hd
      refine ⟨fun v => absurd v c0, fun _ => sc _ (fun k m hm => ?_), fun _ => ⟨?_, hand_v q2⟩, fun v => ?_, fun v => ?_, fun v => ?_⟩
      · rw [ekb] at hm
        rw [hand_k k m (fun z => hm (by rw [z.2.1]; simp)), hand_k k m (fun z => hm (by rw [z.2.1]; simp))]
      · rw [hand_k 20 _ (fun z => q3 z.2.1), hand_k 21 _ (fun z => q3 z.2.1)]
        exact hand_v q1
      · rw [c4] at v; exact absurd v (by decide)
      · rw [c4] at v; exact absurd v (by decide)
      · rw [c4] at v; exact absurd v (by decide)
    · rw [if_neg c4]
      by_cases c9 : A 1 n = 9
      · rw [if_pos c9]
        have ekb : kbN A n = chN A n := by show kb _ _ _ _ = _; unfold kb; rw [if_pos (Or.inr c9)]
        rw [ekb] at hz
        refine ⟨fun v => absurd v c0, fun _ => sc _ (fun k m hm => ?_), fun v => absurd v c4, fun _ => hds_v _ _ hz, fun v => ?_, fun v => ?_⟩
        · rw [ekb] at hm
          exact hds_k _ _ k m (fun z => hm z.2.1)
        · rw [c9] at v; exact absurd v (by decide)
        · rw [c9] at v; exact absurd v (by decide)
      · rw [if_neg c9]
        by_cases c1 : A 1 n = 1 ∨ A 1 n = 2
        · refine ⟨fun v => absurd v c0, fun _ => sc _ (fun k m hm => hand_k k m (fun z => z.2.2 (h12 c1))), fun v => absurd v c4, fun v => absurd v c9, fun v => ?_, fun v => ?_⟩
          · rcases c1 with c1 | c1 <;> rw [c1] at v <;> exact absurd v (by decide)
          · rcases c1 with c1 | c1 <;> rw [c1] at v <;> exact absurd v (by decide)
        · have ekb : kbN A n = [ixI (A 10 n)] := by show kb _ _ _ _ = _; unfold kb; rw [if_neg (fun z => z.elim c0 c9), if_neg c4, if_neg c1]
          rw [ekb] at hz
          have q1 := hz _ (List.mem_cons_self)
          refine ⟨fun v => absurd v c0, fun _ => sc _ (fun k m hm => ?_), fun v => absurd v c4, fun v => absurd v c9, fun v => ?_, fun v => ?_⟩
          · rw [ekb] at hm
            exact hand_k k m (fun z => hm (by rw [z.2.1]; simp))
          · have q := hand_v (A := A2) (sv := nI (ixI (A 20 n))) (cv := if ¬ A 21 n = 0 ∨ A 1 n = 5 ∨ A 1 n = 6 ∨ A 1 n = 7 then 1 else 0) q1
            refine ⟨q.1, q.2.trans ?_⟩
            rcases h1 with w | w
            · rw [w, if_neg]
              rintro (z | z)
              · exact z rfl
              · rcases v with v | v <;> rw [v] at z <;> exact absurd z (by decide)
            · rw [w, if_pos (Or.inl (by decide))]
          · have q := hand_v (A := A2) (sv := nI (ixI (A 20 n))) (cv := if ¬ A 21 n = 0 ∨ A 1 n = 5 ∨ A 1 n = 6 ∨ A 1 n = 7 then 1 else 0) q1
            exact ⟨q.1, q.2.trans (if_pos (Or.inr v))⟩
