/-! Pure: every node that was read is known. By hand. -/
theorem chn_cov : ∀ (xs : List XT) (i l i' l' : Nat), chn i l xs i' l' → ∀ m, i + l ≤ m → m < i' + l' → ∃ q ∈ xs, xn q ≤ m ∧ m < q.2.2.1 + q.2.2.2
  | [], i, l, i', l', h, m, h1, h2 => by have := h.1; have := h.2; omega
  | q :: t, i, l, i', l', h, m, h1, h2 => by
    have e1 := h.1
    have e2 := h.2.1
    by_cases c : m < q.2.2.1 + q.2.2.2
    · exact ⟨q, List.mem_cons_self, by show q.1 + q.2.1 ≤ m; omega, c⟩
    · obtain ⟨p, hp, w⟩ := chn_cov t _ _ _ _ h.2.2 m (by omega) h2
      exact ⟨p, List.mem_cons_of_mem _ hp, w⟩
section
variable {C : Nat → Nat → Int32} {R : Nat → Nat → Option Nat} {CL : Nat → Nat → Int32} {RL : Nat → Nat → Option Nat} {B H : Nat → Nat → Int32} {N : Nat}
theorem TB_no {n : Nat} (h5 : ¬ H 1 n = 5) (h8 : ¬ H 1 n = 8) : TB H N n := fun _ _ _ => ⟨fun z => absurd z h5, fun z => absurd z h8⟩
theorem tb_N (hN9 : N ≤ 221) (hB : ∀ k, k ≤ 19 → H k = B k) (hst : ∀ m, m < N → okm (H 20 m) 4) {d : Nat} (hd : d ≤ 7) {x : XT} (h : SN C R CL RL B (d + 1) x.1 x.2.1 x.2.2.1 x.2.2.2) (hN : x.2.2.1 + x.2.2.2 ≤ N) : TB H N (xn x) := by
  have hle := SN_le (C := C) (R := R) (CL := CL) (RL := RL) (A := B) d
  have hl9 := SN_le _ _ _ _ _ h
  obtain ⟨k, hk, -, ⟨h1, -⟩, -, -, h⟩ := h
  have h1 : H 1 (xn x) = kR k := by rw [hB 1 (by decide)]; exact h1
  have hc7 := cc_7 d hd
  have hroot : xn x < N := by show x.1 + x.2.1 < _; omega
  have hMZ : ∀ A : Nat → Nat → Int32, (∀ k, k ≤ 21 → A k = H k) → (∀ m, xn x < m → m < N → EQ A m) → MZ A B (xn x + 1) (x.2.2.1 + x.2.2.2) := fun A a1 a2 => ⟨fun k hk => (a1 k (by omega)).trans (hB k hk), fun m m1 m2 => ⟨a2 m (by omega) (by omega), by rw [a1 20 (by decide)]; exact hst m (by omega)⟩⟩
  have en : xn (x.1 + 1, x.2.1, x.2.2.1, x.2.2.2) = xn x + 1 := by show (x.1 + 1) + x.2.1 = x.1 + x.2.1 + 1; omega
  have bnd : ∀ K z, K ≤ 76350 → z ≤ 221 → K * z ≤ 17000000 := fun K z h1 h2 => by
    have := Nat.mul_le_mul h1 h2
    omega
  have hszz : sz (x.1 + 1, x.2.1, x.2.2.1, x.2.2.2) ≤ 221 := by show x.2.2.1 + x.2.2.2 - _ ≤ _; omega
  unfold SK at h
  by_cases c6 : k = 6
  · subst c6
    rw [if_neg (by omega), if_neg (by omega), if_neg (by omega), if_pos (by omega)] at h
    obtain ⟨-, g10, -, gA⟩ := h
    intro A a1 a2
    refine ⟨fun _ => ?_, fun z => ?_⟩
    · have eo : ixI (H 10 (xn x)) = xn x + 1 := by rw [hB 10 (by decide), g10]; exact nI_clamp (show x.1 + x.2.1 + 1 < _ by omega)
      have hs := hst (xn x) hroot
      rw [eo]
      have bA := b_B (N := N) (b_N (C := C) (R := R) (CL := CL) (RL := RL) hN9 d hd) hle gA hN (by rw [en]; exact hMZ A a1 a2)
      rw [en] at bA
      have q := (b_rt hs.2 (M := cc d * sz (x.1 + 1, x.2.1, x.2.2.1, x.2.2.2)) (by have := bnd (cc d) _ (by omega) hszz; omega) bA).2
      have m1 := bnd (cc d) _ (by omega) hszz
      have e : A 26 (xn x + 1) + A 27 (xn x + 1) + (if ixI (H 20 (xn x)) = 0 then yT (ixI (H 20 (xn x))) + yS (ixI (H 20 (xn x))) else 2 * yT (ixI (H 20 (xn x)))) + yT (ixI (H 20 (xn x))) = rtY (ixI (H 20 (xn x))) (A 26 (xn x + 1)) + yT (ixI (H 20 (xn x))) + A 27 (xn x + 1) := by
        unfold rtY
        by_cases c : ixI (H 20 (xn x)) = 0
        · rw [if_pos c, if_pos c]; grind
        · rw [if_neg c, if_neg c]; grind
      rw [e]
      exact ⟨_, by omega, vI_of q.1⟩
    · rw [h1] at z; exact absurd z (by decide)
  · by_cases c9 : k = 9
    · subst c9
      rw [if_neg (by omega), if_pos (by omega)] at h
      obtain ⟨-, g10, -, gL, -⟩ := h
      dsimp only at gL
      intro A a1 a2
      refine ⟨fun z => ?_, fun _ => ?_⟩
      · rw [h1] at z; exact absurd z (by decide)
      · have eo : ixI (H 10 (xn x)) = xn x + 1 := by rw [hB 10 (by decide), g10]; exact nI_clamp (show x.1 + x.2.1 + 1 < _ by omega)
        have hs := hst (xn x) hroot
        rw [eo]
        obtain ⟨bL, bL2⟩ := b_L (N := N) (K := cc d) (by omega) hN9 (b_N (C := C) (R := R) (CL := CL) (RL := RL) hN9 d hd) hle gL hN (by rw [en]; exact hMZ A a1 a2)
        rw [en] at bL bL2
        have m1 := bnd (cc d + 150) _ (by omega) hszz
        have q := (b_sd hs.2 (M := (cc d + 150) * sz (x.1 + 1, x.2.1, x.2.2.1, x.2.2.2)) (by omega) bL).1
        rw [bL2.2.1, bL2.2.2.1]
        have e : ms (ms (A 23 (xn x + 1) - yX (ixI (H 20 (xn x)))) (A 24 (xn x + 1) + yX (ixI (H 20 (xn x))))) (4 * yS (ixI (H 20 (xn x)))) = mx (4 * yS (ixI (H 20 (xn x)))) (mx (A 23 (xn x + 1) - yX (ixI (H 20 (xn x)))) (A 24 (xn x + 1) + yX (ixI (H 20 (xn x))))) := by rw [ms_mx, ms_mx, mx_comm]
        rw [e]
        exact ⟨_, by omega, vI_of q.1⟩
    · refine TB_no (fun z => ?_) (fun z => ?_)
      · rw [h1] at z
        rcases (by omega : k = 0 ∨ k = 1 ∨ k = 2 ∨ k = 3 ∨ k = 4 ∨ k = 5 ∨ k = 7 ∨ k = 8 ∨ k = 10) with rfl | rfl | rfl | rfl | rfl | rfl | rfl | rfl | rfl <;> exact absurd z (by decide)
      · rw [h1] at z
        rcases (by omega : k = 0 ∨ k = 1 ∨ k = 2 ∨ k = 3 ∨ k = 4 ∨ k = 5 ∨ k = 7 ∨ k = 8 ∨ k = 10) with rfl | rfl | rfl | rfl | rfl | rfl | rfl | rfl | rfl <;> exact absurd z (by decide)
def NG (B H : Nat → Nat → Int32) (N m : Nat) : Prop := ND B N m ∧ OW B m ∧ TB H N m
theorem ng_B (hN9 : N ≤ 221) (hB : ∀ k, k ≤ 19 → H k = B k) (hst : ∀ m, m < N → okm (H 20 m) 4) {d : Nat} (hd : d ≤ 8) (IH : ∀ x : XT, SN C R CL RL B d x.1 x.2.1 x.2.2.1 x.2.2.2 → x.2.2.1 + x.2.2.2 ≤ N → ∀ m, xn x < m → m < x.2.2.1 + x.2.2.2 → NG B H N m) {o : Nat} {sc : Int32} {q : XT} (h : SB R B (SN C R CL RL B d) o sc q) (hN : q.2.2.1 + q.2.2.2 ≤ N) (ho : o < xn q) (hk : xn q ∈ kdN B o) : ∀ m, xn q ≤ m → m < q.2.2.1 + q.2.2.2 → NG B H N m := by
  intro m m1 m2
  by_cases c : m = xn q
  · rw [c]
    cases d with
    | zero => exact h.1.elim
    | succ d => exact ⟨nd_N hN9 h.1 (by omega) hN (SCI_0 h.2.2.1.1 h.2.2.1.2), Or.inr ⟨o, ho, hk⟩, tb_N hN9 hB hst (by omega) h.1 hN⟩
  · exact IH q h.1 hN m (by omega) m2
theorem ng_L (hN9 : N ≤ 221) (hB : ∀ k, k ≤ 19 → H k = B k) (hst : ∀ m, m < N → okm (H 20 m) 4) {d : Nat} (hd : d ≤ 8) (IH : ∀ x : XT, SN C R CL RL B d x.1 x.2.1 x.2.2.1 x.2.2.2 → x.2.2.1 + x.2.2.2 ≤ N → ∀ m, xn x < m → m < x.2.2.1 + x.2.2.2 → NG B H N m) {x : XT} (h : SL R RL B (SN C R CL RL B d) x) (hN : x.2.2.1 + x.2.2.2 ≤ N) (hO : OW B (xn x)) : ∀ m, xn x ≤ m → m < x.2.2.1 + x.2.2.2 → NG B H N m := by
  have hle := SN_le (C := C) (R := R) (CL := CL) (RL := RL) (A := B) d
  obtain ⟨hnd, xs, hc, hI, ekb, hv⟩ := nd_L hN9 hle h hN
  intro m m1 m2
  by_cases c : m = xn x
  · rw [c]
    exact ⟨hnd, hO, TB_no (by rw [hB 1 (by decide), hv]; decide) (by rw [hB 1 (by decide), hv]; decide)⟩
  · have l1 : ∀ q ∈ xs, q.1 < q.2.2.1 ∧ q.2.1 ≤ q.2.2.2 := fun q hq => SI_le hle (hI q hq)
    have hin := chn_in xs _ _ _ _ hc (fun q hq => by have := l1 q hq; omega)
    obtain ⟨q, hq, w1, w2⟩ := chn_cov xs _ _ _ _ hc m (by have m1 : x.1 + x.2.1 ≤ m := m1; have c : ¬ m = x.1 + x.2.1 := c; omega) m2
    have q1 := l1 q hq
    have q2 := hin q hq
    have hqk : xn q ∈ kdN B (xn x) := by
      show xn q ∈ kd _ _ _ _ _ _
      unfold kd
      refine List.mem_cons_of_mem _ (List.mem_cons_of_mem _ ?_)
      show xn q ∈ kbN B (xn x)
      rw [ekb]; exact List.mem_map.mpr ⟨q, hq, rfl⟩
    have hxq : xn x < xn q := by show x.1 + x.2.1 < q.1 + q.2.1; omega
    obtain ⟨i1, l1', ou, ol, h1, h2, h3, h4, h5, h6, h7, ys, hy, hy2⟩ := hI q hq
    have le1 := hle _ _ _ _ h1
    have esu : ∀ p, ou = some p → xn p ∈ kdN B (xn q) := fun p hp => by
      show xn p ∈ kd _ _ _ _ _ _
      unfold kd
      have b := (h5 p hp)
      have b2 := hle _ _ _ _ b.1.1
      have e : ixI (B 12 (xn q)) = xn p := by rw [h4.1, hp]; exact nI_clamp (show p.1 + p.2.1 < _ by omega)
      rw [e]; exact List.mem_cons_self
    have esl : ∀ p, ol = some p → xn p ∈ kdN B (xn q) := fun p hp => by
      show xn p ∈ kd _ _ _ _ _ _
      unfold kd
      have b := (h6 p hp)
      have b2 := hle _ _ _ _ b.1.1
      have e : ixI (B 13 (xn q)) = xn p := by rw [h4.2, hp]; exact nI_clamp (show p.1 + p.2.1 < _ by omega)
      rw [e]; exact List.mem_cons_of_mem _ List.mem_cons_self
    by_cases c2 : m = xn q
    · rw [c2]
      have hsci : SCI B N (xn q) (i1 + l1') := by
        refine ⟨xo ou, xo ol, h4.1, h4.2, fun z => ?_, fun z => ?_⟩
        · cases ou with
          | none => exact absurd rfl z
          | some p =>
            have b := h5 p rfl
            have b2 := hle _ _ _ _ b.1.1
            refine ⟨by show i1 + l1' ≤ p.1 + p.2.1; omega, by show p.1 + p.2.1 < N; omega, b.1.2.2.2.1, ?_⟩
            cases ol with
            | none => exact fun w => z w.symm
            | some r =>
              have b3 := hle _ _ _ _ (h6 r rfl).1.1
              have b4 := h7 p r rfl rfl
              show r.1 + r.2.1 ≠ p.1 + p.2.1
              omega
        · cases ol with
          | none => exact absurd rfl z
          | some p =>
            have b := h6 p rfl
            have b2 := hle _ _ _ _ b.1.1
            exact ⟨by show i1 + l1' ≤ p.1 + p.2.1; omega, by show p.1 + p.2.1 < N; omega, b.1.2.2.2.1⟩
      cases d with
      | zero => exact h1.elim
      | succ d =>
        exact ⟨nd_N (x := (q.1, q.2.1, i1, l1')) hN9 h1 (by show 0 < q.1 + q.2.1; omega) (by dsimp only; omega) hsci, Or.inr ⟨_, hxq, hqk⟩, tb_N (x := (q.1, q.2.1, i1, l1')) hN9 hB hst (by omega) h1 (by dsimp only; omega)⟩
    · by_cases c3 : m < i1 + l1'
      · exact IH (q.1, q.2.1, i1, l1') h1 (by dsimp only; omega) m (by show q.1 + q.2.1 < m; have w1 : q.1 + q.2.1 ≤ m := w1; have c2 : ¬ m = q.1 + q.2.1 := c2; omega) c3
      · obtain ⟨p, hp, v1, v2⟩ := chn_cov ys _ _ _ _ hy m (by omega) w2
        have hpp : ou = some p ∨ ol = some p := by
          rcases hy2 with e | e <;> rw [e] at hp <;> rcases List.mem_append.mp hp with w | w
          · exact Or.inl (Option.mem_toList.mp w)
          · exact Or.inr (Option.mem_toList.mp w)
          · exact Or.inr (Option.mem_toList.mp w)
          · exact Or.inl (Option.mem_toList.mp w)
        rcases hpp with w | w
        · have b := h5 p w
          exact ng_B hN9 hB hst hd IH b.1 (by omega) (by show q.1 + q.2.1 < p.1 + p.2.1; omega) (esu p w) m v1 v2
        · have b := h6 p w
          exact ng_B hN9 hB hst hd IH b.1 (by omega) (by show q.1 + q.2.1 < p.1 + p.2.1; omega) (esl p w) m v1 v2
theorem ng_N (hN9 : N ≤ 221) (hB : ∀ k, k ≤ 19 → H k = B k) (hst : ∀ m, m < N → okm (H 20 m) 4) : ∀ (d : Nat), d ≤ 8 → ∀ x : XT, SN C R CL RL B d x.1 x.2.1 x.2.2.1 x.2.2.2 → x.2.2.1 + x.2.2.2 ≤ N → ∀ m, xn x < m → m < x.2.2.1 + x.2.2.2 → NG B H N m
  | 0, _, _, h, _, _, _, _ => h.elim
  | d + 1, hd, x, h, hN, m, m1, m2 => by
    have hle := SN_le (C := C) (R := R) (CL := CL) (RL := RL) (A := B) d
    have IH := ng_N hN9 hB hst d (by omega)
    have hl9 := SN_le _ _ _ _ _ h
    obtain ⟨k, hk, -, ⟨h1, -⟩, -, -, h⟩ := h
    have h1 : B 1 (xn x) = kR k := h1
    have en : xn (x.1 + 1, x.2.1, x.2.2.1, x.2.2.2) = xn x + 1 := by show (x.1 + 1) + x.2.1 = x.1 + x.2.1 + 1; omega
    have m1' : x.1 + x.2.1 < m := m1
    unfold SK at h
    have kid1 : ∀ c, B 10 (xn x) = nI c → c < 400 → (k = 1 ∨ k = 5 ∨ k = 6 ∨ k = 7 ∨ k = 8 ∨ k = 9) → c ∈ kdN B (xn x) := fun c h10 hc hk => by
      show c ∈ kd _ _ _ _ _ _
      have e : ixI (B 10 (xn x)) = c := by rw [h10]; exact nI_clamp (by omega)
      unfold kd kb
      rw [h1, e]
      rcases hk with rfl | rfl | rfl | rfl | rfl | rfl <;> simp [kR]
    by_cases c1 : k = 0 ∨ (2 ≤ k ∧ k ≤ 4)
    · rw [if_pos c1] at h
      have e1 : x.2.2.1 = x.1 + 1 := h.1
      have e2 : x.2.2.2 = x.2.1 := h.2.1
      omega
    · rw [if_neg c1] at h
      by_cases c2 : k = 1 ∨ k = 9
      · rw [if_pos c2] at h
        obtain ⟨-, g10, -, gL, g14, -, -⟩ := h
        dsimp only at gL
        have hk1 := kid1 (xn x + 1) g10 (by show x.1 + x.2.1 + 1 < _; have := SL_le hle gL; dsimp only at this; omega) (by omega)
        refine ng_L hN9 hB hst (by omega) IH gL hN (by rw [en]; exact Or.inr ⟨xn x, by omega, hk1⟩) m (by rw [en]; omega) m2
      · rw [if_neg c2] at h
        by_cases c3 : k = 5
        · rw [if_pos c3] at h
          obtain ⟨i1, l1, -, -, g10, g11, gA, gB⟩ := h
          have q1 := hle _ _ _ _ gA.1
          have q2 := hle _ _ _ _ gB.1
          dsimp only at q1 q2 gA gB
          have hk1 := kid1 (xn x + 1) g10 (by show x.1 + x.2.1 + 1 < _; omega) (by omega)
          have hk2 : i1 + l1 ∈ kdN B (xn x) := by
            show i1 + l1 ∈ kd _ _ _ _ _ _
            have e : ixI (B 11 (xn x)) = i1 + l1 := by rw [g11]; exact nI_clamp (by omega)
            unfold kd kb
            rw [h1, e, c3]; simp [kR]
          by_cases c4 : m < i1 + l1
          · exact ng_B (q := (x.1 + 1, x.2.1, i1, l1)) hN9 hB hst (by omega) IH gA (by dsimp only; omega) (by show x.1 + x.2.1 < x.1 + 1 + x.2.1; omega) (by show x.1 + 1 + x.2.1 ∈ _; rw [show x.1 + 1 + x.2.1 = x.1 + x.2.1 + 1 by omega]; exact hk1) m (by show x.1 + 1 + x.2.1 ≤ m; omega) c4
          · exact ng_B (q := (i1, l1, x.2.2.1, x.2.2.2)) hN9 hB hst (by omega) IH gB hN (by show x.1 + x.2.1 < i1 + l1; omega) hk2 m (by show i1 + l1 ≤ m; omega) m2
        · rw [if_neg c3] at h
          by_cases c4 : k < 9
          · rw [if_pos c4] at h
            obtain ⟨-, g10, -, gA⟩ := h
            have q1 := hle _ _ _ _ gA.1
            dsimp only at q1 gA
            have hk1 := kid1 (xn x + 1) g10 (by show x.1 + x.2.1 + 1 < _; omega) (by omega)
            exact ng_B (q := (x.1 + 1, x.2.1, x.2.2.1, x.2.2.2)) hN9 hB hst (by omega) IH gA hN (by show x.1 + x.2.1 < x.1 + 1 + x.2.1; omega) (by rw [en]; exact hk1) m (by show x.1 + 1 + x.2.1 ≤ m; omega) m2
          · rw [if_neg c4] at h
            have c10 : k = 10 := by omega
            subst c10
            obtain ⟨xs, hne, -, -, -, g6, gc, -, g7, gS, gp⟩ := h
            dsimp only at g6 gc
            have l1 : ∀ q ∈ xs, q.1 ≤ q.2.2.1 ∧ q.2.1 < q.2.2.2 := fun q hq => SL_le hle (gS q hq).1
            have hin := chn_in xs _ _ _ _ gc (fun q hq => by have := l1 q hq; omega)
            have hlen := chn_len2 xs _ _ _ _ gc (fun q hq => by have := l1 q hq; omega)
            have hh : nI (xo xs.head?) = nI (xn x + 1) := by
              cases xs with
              | nil => exact absurd rfl hne
              | cons q t => exact congrArg nI (show q.1 + q.2.1 = x.1 + x.2.1 + 1 by have := gc.1; have := gc.2.1; omega)
            have hch : chN B (xn x) = xs.map xn := by
              show chR (B 7) 400 (B 6 (xn x)) = _
              rw [g6, ← hh]
              exact (chR_xs xs 399 g7 (fun q hq => by
                have a1 := l1 q hq
                have a2 := hin q hq
                show 0 < q.1 + q.2.1 ∧ q.1 + q.2.1 < 400
                omega) (by omega)).1
            obtain ⟨q, hq, w1, w2⟩ := chn_cov xs _ _ _ _ gc m (by omega) m2
            have q1 := l1 q hq
            have q2 := hin q hq
            have hqk : xn q ∈ kdN B (xn x) := by
              show xn q ∈ kd _ _ _ _ _ _
              unfold kd kb
              rw [h1, hch]
              refine List.mem_cons_of_mem _ (List.mem_cons_of_mem _ ?_)
              rw [if_pos (Or.inr (show kR 10 = 9 from rfl))]
              exact List.mem_map.mpr ⟨q, hq, rfl⟩
            exact ng_L hN9 hB hst (by omega) IH (gS q hq).1 (by omega) (Or.inr ⟨xn x, by show x.1 + x.2.1 < q.1 + q.2.1; omega, hqk⟩) m w1 w2
/-- all of them -/
theorem ng_all (hN9 : N ≤ 221) {nc lc : Nat} (hNe : N = nc + lc) (h : SL R RL B (SN C R CL RL B 7) (0, 0, nc, lc)) : (∀ n, n < N → ND B N n) ∧ (∀ n, n < N → OW B n) ∧ ∀ H : Nat → Nat → Int32, (∀ k, k ≤ 19 → H k = B k) → (∀ m, m < N → okm (H 20 m) 4) → ∀ n, n < N → TB H N n := by
  have f : ∀ H : Nat → Nat → Int32, (∀ k, k ≤ 19 → H k = B k) → (∀ m, m < N → okm (H 20 m) 4) → ∀ n, n < N → NG B H N n := fun H h1 h2 n hn => ng_L hN9 h1 h2 (by decide) (ng_N hN9 h1 h2 7 (by decide)) h (by dsimp only; omega) (Or.inl rfl) n (Nat.zero_le _) (by dsimp only; omega)
  have g := f (fun k => if k ≤ 19 then B k else fun _ => 0) (fun k hk => if_pos hk) (fun m _ => ⟨rfl, show ixI 0 < 4 by decide⟩)
  exact ⟨fun n hn => (g n hn).1, fun n hn => (g n hn).2.1, fun H h1 h2 n hn => (f H h1 h2 n hn).2.2⟩
end
