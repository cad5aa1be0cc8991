/-! Pure: bounds of what was read. By hand. -/
def cc : Nat → Nat
  | 0 => 0
  | d + 1 => 2 * cc d + 600
theorem cc_7 : ∀ d, d ≤ 7 → cc d ≤ 76200 := fun d h => by
  have : ∀ d, d < 8 → cc d ≤ 76200 := by decide
  exact this d (by omega)
abbrev sz (q : XT) : Nat := q.2.2.1 + q.2.2.2 - (q.1 + q.2.1)
theorem chn_sz {K c : Nat} : ∀ (xs : List XT) (i l i' l' : Nat), chn i l xs i' l' → (∀ q ∈ xs, q.1 ≤ q.2.2.1 ∧ q.2.1 ≤ q.2.2.2 ∧ q.1 + q.2.1 < q.2.2.1 + q.2.2.2) → (xs.map (fun q => K * sz q + c)).sum ≤ (K + c) * (i' + l' - (i + l)) ∧ i + l ≤ i' + l'
  | [], i, l, i', l', h, _ => ⟨Nat.zero_le _, by have := h.1; have := h.2; omega⟩
  | q :: t, i, l, i', l', h, hq => by
    obtain ⟨g1, g2⟩ := chn_sz (K := K) (c := c) t _ _ _ _ h.2.2 (fun z hz => hq z (List.mem_cons_of_mem _ hz))
    have hq := hq q List.mem_cons_self
    have e1 := h.1
    have e2 := h.2.1
    refine ⟨?_, by omega⟩
    rw [List.map_cons, List.sum_cons]
    have e3 : i' + l' - (i + l) = sz q + (i' + l' - (q.2.2.1 + q.2.2.2)) := by show _ = (q.2.2.1 + q.2.2.2 - (q.1 + q.2.1)) + _; omega
    rw [e3, Nat.mul_add, Nat.add_mul K c (sz q)]
    have e4 : c ≤ c * sz q := Nat.le_mul_of_pos_right c (by show 0 < q.2.2.1 + q.2.2.2 - (q.1 + q.2.1); omega)
    omega
/-- the chain of a list's items -/
theorem chR_xs {f : Nat → Int32} : ∀ (xs : List XT) (k : Nat), lkA f xs → (∀ q ∈ xs, 0 < xn q ∧ xn q < 400) → xs.length ≤ k → chR f (k + 1) (nI (xo xs.head?)) = xs.map xn ∧ nxA f (xs.map xn)
  | [], k, _, _, _ => ⟨by show chR f (k + 1) (nI 0) = []; unfold chR; rw [if_pos (by decide)], trivial⟩
  | q :: t, k, h, hq, hk => by
    obtain ⟨k, rfl⟩ : ∃ z, k = z + 1 := ⟨k - 1, by rw [List.length_cons] at hk; omega⟩
    have q1 := hq q List.mem_cons_self
    obtain ⟨g1, g2⟩ := chR_xs t k h.2 (fun z hz => hq z (List.mem_cons_of_mem _ hz)) (by rw [List.length_cons] at hk; omega)
    have e : ixI (nI (xn q)) = xn q := nI_clamp (by omega)
    have hh : hdz (t.map xn) = xo t.head? := by cases t <;> rfl
    refine ⟨?_, q1, by rw [hh]; exact h.1, g2⟩
    show (if nI (xn q) = 0 then [] else ixI (nI (xn q)) :: chR f (k + 1) (f (ixI (nI (xn q))))) = _
    rw [if_neg (fun z => by have := nI_z4 q1.2 z; omega), e, h.1, g1]
    rfl
theorem hdz_xo (xs : List XT) : hdz (xs.map xn) = xo xs.head? := by cases xs <;> rfl
theorem chn_len2 : ∀ (xs : List XT) (i l i' l' : Nat), chn i l xs i' l' → (∀ q ∈ xs, q.1 ≤ q.2.2.1 ∧ q.2.1 ≤ q.2.2.2 ∧ q.1 + q.2.1 < q.2.2.1 + q.2.2.2) → xs.length + (i + l) ≤ i' + l'
  | [], i, l, i', l', h, _ => by have := h.1; have := h.2; rw [List.length_nil]; omega
  | q :: t, i, l, i', l', h, hq => by
    have g := chn_len2 t _ _ _ _ h.2.2 (fun z hz => hq z (List.mem_cons_of_mem _ hz))
    have g2 := hq q List.mem_cons_self
    have e1 := h.1
    have e2 := h.2.1
    rw [List.length_cons]
    omega
theorem cd_b : ∀ k, k < 128 → ∀ s, s < 4 → (0 ≤ (sgW (nI k) (yS s)).toInt ∧ (sgW (nI k) (yS s)).toInt ≤ 100) ∧ (0 ≤ (sgH (nI k) (yS s)).toInt ∧ (sgH (nI k) (yS s)).toInt ≤ 100) ∧ 0 ≤ (sgD (nI k) (yS s)).toInt ∧ (sgD (nI k) (yS s)).toInt ≤ 100 := by decide +kernel
theorem op_b : ∀ k, 2 ≤ k ∧ k ≤ 4 → ∀ s, s < 4 → (0 < (sgW (kO k) (opS s)).toInt ∧ (sgW (kO k) (opS s)).toInt ≤ 200) ∧ (0 ≤ (sgH (kO k) (opS s) + opY s (kO k)).toInt ∧ (sgH (kO k) (opS s) + opY s (kO k)).toInt ≤ 200) ∧ 0 ≤ (mx 0 (sgD (kO k) (opS s) - opY s (kO k))).toInt ∧ (mx 0 (sgD (kO k) (opS s) - opY s (kO k))).toInt ≤ 200 := by
  intro k hk s hs
  rcases (by omega : k = 2 ∨ k = 3 ∨ k = 4) with rfl | rfl | rfl <;> rcases (by omega : s = 0 ∨ s = 1 ∨ s = 2 ∨ s = 3) with rfl | rfl | rfl | rfl <;> decide
section
variable {C : Nat → Nat → Int32} {R : Nat → Nat → Option Nat} {CL : Nat → Nat → Int32} {RL : Nat → Nat → Option Nat} {B A : Nat → Nat → Int32} {N : Nat}
/-- measured, from node a to before node e -/
def MZ (A B : Nat → Nat → Int32) (a e : Nat) : Prop := (∀ k, k ≤ 19 → A k = B k) ∧ ∀ m, a ≤ m → m < e → EQ A m ∧ okm (A 20 m) 4
theorem MZ_s {a e a' e' : Nat} (h : MZ A B a e) (h1 : a ≤ a') (h2 : e' ≤ e) : MZ A B a' e' := ⟨h.1, fun m m1 m2 => h.2 m (by omega) (by omega)⟩
/-- no scripts: the same -/
theorem no_sc {n : Nat} (h : EQ A n) (h12 : A 12 n = 0) (h13 : A 13 n = 0) : A 25 n = A 22 n ∧ A 26 n = A 23 n ∧ A 27 n = A 24 n ∧ A 28 n = 0 := by
  have E := h.2
  unfold ES at E
  rw [h12, h13, if_pos ⟨rfl, rfl⟩] at E
  exact E
theorem b_B {P : PR} {K : Nat} (hP : ∀ q : XT, P q.1 q.2.1 q.2.2.1 q.2.2.2 → q.2.2.1 + q.2.2.2 ≤ N → MZ A B (xn q) (q.2.2.1 + q.2.2.2) → bd3 (A 22 (xn q)) (A 23 (xn q)) (A 24 (xn q)) (K * sz q)) (hle : ∀ i l i' l', P i l i' l' → i < i' ∧ l ≤ l') {o : Nat} {sc : Int32} {q : XT} (h : SB R B P o sc q) (hN : q.2.2.1 + q.2.2.2 ≤ N) (hM : MZ A B (xn q) (q.2.2.1 + q.2.2.2)) : bd3 (A 25 (xn q)) (A 26 (xn q)) (A 27 (xn q)) (K * sz q) := by
  have l1 := hle _ _ _ _ h.1
  have g := no_sc (hM.2 (xn q) (Nat.le_refl _) (by show q.1 + q.2.1 < _; omega)).1 (by rw [hM.1 12 (by decide)]; exact h.2.2.1.1) (by rw [hM.1 13 (by decide)]; exact h.2.2.1.2)
  rw [g.1, g.2.1, g.2.2.1]
  exact hP q h.1 hN hM
theorem b_I {P : PR} {K : Nat} (hK : K * 221 + 200 ≤ 30000000) (hN9 : N ≤ 221) (hP : ∀ q : XT, P q.1 q.2.1 q.2.2.1 q.2.2.2 → q.2.2.1 + q.2.2.2 ≤ N → MZ A B (xn q) (q.2.2.1 + q.2.2.2) → bd3 (A 22 (xn q)) (A 23 (xn q)) (A 24 (xn q)) (K * sz q)) (hle : ∀ i l i' l', P i l i' l' → i < i' ∧ l ≤ l') {x : XT} (h : SI R B P x) (hN : x.2.2.1 + x.2.2.2 ≤ N) (hM : MZ A B (xn x) (x.2.2.1 + x.2.2.2)) : bd3 (A 25 (xn x)) (A 26 (xn x)) (A 27 (xn x)) ((K + 120) * sz x) := by
  obtain ⟨i1, l1, ou, ol, h1, h2, h3, h4, h5, h6, -, ys, hy, hy2⟩ := h
  have le1 := hle _ _ _ _ h1
  have hroot : xn x < x.2.2.1 + x.2.2.2 := by show x.1 + x.2.1 < _; omega
  have own := hP (x.1, x.2.1, i1, l1) h1 (by dsimp only; omega) (MZ_s hM (Nat.le_refl _) (by dsimp only; omega))
  obtain ⟨E, hs⟩ := hM.2 (xn x) (Nat.le_refl _) hroot
  have hb : ∀ z, z ≤ 221 → K * z ≤ 30000000 := fun z hz => by
    have := Nat.mul_le_mul_left K hz
    omega
  -- sizes of scripts
  have hsz : sz (x.1, x.2.1, i1, l1) + ou.elim 0 sz + ol.elim 0 sz = sz x := by
    have e0 : sz (x.1, x.2.1, i1, l1) = i1 + l1 - (x.1 + x.2.1) := rfl
    have f : ∀ ys : List XT, chn i1 l1 ys x.2.2.1 x.2.2.2 → (∀ q ∈ ys, q.1 ≤ q.2.2.1 ∧ q.2.1 ≤ q.2.2.2) → (ys.map sz).sum + (i1 + l1) = x.2.2.1 + x.2.2.2 := by
      intro ys hc hl
      have gen : ∀ (ys : List XT) (i l i' l' : Nat), chn i l ys i' l' → (∀ q ∈ ys, q.1 ≤ q.2.2.1 ∧ q.2.1 ≤ q.2.2.2) → (ys.map sz).sum + (i + l) = i' + l' := by
        intro ys
        induction ys with
        | nil => intro i l i' l' hc _; have := hc.1; have := hc.2; rw [List.map_nil, List.sum_nil]; omega
        | cons q t ih =>
          intro i l i' l' hc hl
          have g := ih _ _ _ _ hc.2.2 (fun z hz => hl z (List.mem_cons_of_mem _ hz))
          have q1 := hl q List.mem_cons_self
          have e1 := hc.1
          have e2 := hc.2.1
          rw [List.map_cons, List.sum_cons]
          show q.2.2.1 + q.2.2.2 - (q.1 + q.2.1) + _ + _ = _
          omega
      exact gen ys _ _ _ _ hc hl
    have hl : ∀ q ∈ ys, q.1 ≤ q.2.2.1 ∧ q.2.1 ≤ q.2.2.2 := fun q hq => by
      have : ou = some q ∨ ol = some q := by
        rcases hy2 with e | e <;> rw [e] at hq <;> rcases List.mem_append.mp hq with w | w
        · exact Or.inl (Option.mem_toList.mp w)
        · exact Or.inr (Option.mem_toList.mp w)
        · exact Or.inr (Option.mem_toList.mp w)
        · exact Or.inl (Option.mem_toList.mp w)
      rcases this with w | w
      · have := hle _ _ _ _ (h5 q w).1.1; omega
      · have := hle _ _ _ _ (h6 q w).1.1; omega
    have g := f ys hy hl
    have e1 : (ys.map sz).sum = ou.elim 0 sz + ol.elim 0 sz := by
      rcases hy2 with e | e
      · rw [e]; cases ou <;> cases ol <;> simp
      · rw [e]; cases ou <;> cases ol <;> simp [Nat.add_comm]
    rw [e0]
    show _ = x.2.2.1 + x.2.2.2 - (x.1 + x.2.1)
    omega
  have hszN : sz x ≤ 221 := by show x.2.2.1 + x.2.2.2 - _ ≤ _; omega
  have hu12 : ixI (A 12 (xn x)) = xo ou := by
    rw [hM.1 12 (by decide), h4.1]
    refine nI_clamp ?_
    cases ou with
    | none => decide
    | some q =>
      have q1 := (h5 q rfl).2
      have q2 := hle _ _ _ _ (h5 q rfl).1.1
      show q.1 + q.2.1 < _
      omega
  have hl13 : ixI (A 13 (xn x)) = xo ol := by
    rw [hM.1 13 (by decide), h4.2]
    refine nI_clamp ?_
    cases ol with
    | none => decide
    | some q =>
      have q1 := (h6 q rfl).2
      have q2 := hle _ _ _ _ (h6 q rfl).1.1
      show q.1 + q.2.1 < _
      omega
  have E2 := E.2
  rw [hu12, hl13] at E2
  have hKz : ∀ z, z ≤ sz x → K * z ≤ 30000000 := fun z hz => hb z (by omega)
  have g := b_sc (M := K * sz (x.1, x.2.1, i1, l1)) (Mu := K * ou.elim 0 sz) (Ml := K * ol.elim 0 sz) hs.2 E2 (hKz _ (by omega)) (hKz _ (by omega)) (hKz _ (by omega)) own (fun z => by
    cases ou with
    | none => exact absurd rfl z
    | some q =>
      obtain ⟨q1, q2⟩ := h5 q rfl
      exact b_B hP hle q1 (by omega) (MZ_s hM (by show x.1 + x.2.1 ≤ q.1 + q.2.1; omega) (by omega))) (fun z => by
    cases ol with
    | none => exact absurd rfl z
    | some q =>
      obtain ⟨q1, q2⟩ := h6 q rfl
      exact b_B hP hle q1 (by omega) (MZ_s hM (by show x.1 + x.2.1 ≤ q.1 + q.2.1; omega) (by omega)))
  refine bd3_w g ?_
  rw [← Nat.mul_add, ← Nat.mul_add, hsz, Nat.add_mul]
  have : 1 ≤ sz x := by show 1 ≤ x.2.2.1 + x.2.2.2 - (x.1 + x.2.1); omega
  omega
/-- the facts of a line's node -/
theorem SL_ch {P : PR} (hle : ∀ i l i' l', P i l i' l' → i < i' ∧ l ≤ l') {x : XT} (hN9 : x.2.2.1 + x.2.2.2 ≤ 221) {xs : List XT} (h1 : chn x.1 (x.2.1 + 1) xs x.2.2.1 x.2.2.2) (h2 : ∀ q ∈ xs, SI R B P q) (h6 : B 6 (xn x) = nI (xo xs.head?)) (h7 : lkA (B 7) xs) : chN B (xn x) = xs.map xn ∧ nxA (B 7) (xs.map xn) := by
  have l1 : ∀ q ∈ xs, q.1 < q.2.2.1 ∧ q.2.1 ≤ q.2.2.2 := fun q hq => SI_le hle (h2 q hq)
  have hin := chn_in xs _ _ _ _ h1 (fun q hq => by have := l1 q hq; omega)
  have hlen := chn_len2 xs _ _ _ _ h1 (fun q hq => by have := l1 q hq; omega)
  have g := chR_xs xs 399 h7 (fun q hq => by
    have a1 := l1 q hq
    have a2 := hin q hq
    show 0 < q.1 + q.2.1 ∧ q.1 + q.2.1 < 400
    omega) (by omega)
  refine ⟨?_, g.2⟩
  show chR (B 7) 400 (B 6 (xn x)) = _
  rw [h6]; exact g.1
theorem b_L {P : PR} {K : Nat} (hK : (K + 150) * 221 + 200 ≤ 30000000) (hN9 : N ≤ 221) (hP : ∀ q : XT, P q.1 q.2.1 q.2.2.1 q.2.2.2 → q.2.2.1 + q.2.2.2 ≤ N → MZ A B (xn q) (q.2.2.1 + q.2.2.2) → bd3 (A 22 (xn q)) (A 23 (xn q)) (A 24 (xn q)) (K * sz q)) (hle : ∀ i l i' l', P i l i' l' → i < i' ∧ l ≤ l') {x : XT} (h : SL R RL B P x) (hN : x.2.2.1 + x.2.2.2 ≤ N) (hM : MZ A B (xn x) (x.2.2.1 + x.2.2.2)) : bd3 (A 22 (xn x)) (A 23 (xn x)) (A 24 (xn x)) ((K + 150) * sz x) ∧ (A 25 (xn x) = A 22 (xn x) ∧ A 26 (xn x) = A 23 (xn x) ∧ A 27 (xn x) = A 24 (xn x) ∧ A 28 (xn x) = 0) := by
  have hl9 := SL_le hle h
  obtain ⟨⟨a1, a10, a11, a12, a13⟩, xs, so, h1, h2, h3, h4, h5, h6, h7, h8, h9⟩ := h
  have hroot : xn x < x.2.2.1 + x.2.2.2 := by show x.1 + x.2.1 < _; omega
  obtain ⟨E, hs⟩ := hM.2 (xn x) (Nat.le_refl _) hroot
  have l1 : ∀ q ∈ xs, q.1 < q.2.2.1 ∧ q.2.1 ≤ q.2.2.2 := fun q hq => SI_le hle (h2 q hq).1
  have hin := chn_in xs _ _ _ _ h1 (fun q hq => by have := l1 q hq; omega)
  refine ⟨?_, no_sc E (by rw [hM.1 12 (by decide)]; exact a12) (by rw [hM.1 13 (by decide)]; exact a13)⟩
  have ch := (SL_ch hle (by omega) h1 (fun q hq => (h2 q hq).1) h4 h6).1
  have chA : chN A (xn x) = xs.map xn := by
    show chR (A 7) 400 (A 6 (xn x)) = _
    rw [hM.1 7 (by decide), hM.1 6 (by decide)]; exact ch
  have E1 := E.1
  unfold EB at E1
  rw [if_pos (by rw [hM.1 1 (by decide)]; exact a1), chA] at E1
  have sum := chn_sz (K := K + 120) (c := 20) xs _ _ _ _ h1 (fun q hq => by have := l1 q hq; omega)
  have hmm : (K + 120 + 20) * (x.2.2.1 + x.2.2.2 - (x.1 + (x.2.1 + 1))) ≤ (K + 150) * sz x := Nat.mul_le_mul (by omega) (by show _ ≤ x.2.2.1 + x.2.2.2 - (x.1 + x.2.1); omega)
  have hsz : (K + 150) * sz x ≤ (K + 150) * 221 := Nat.mul_le_mul_left _ (by show x.2.2.1 + x.2.2.2 - _ ≤ _; omega)
  have g := b_li (Q := fun q => (K + 120) * sz q) hs.2 xs 0 0 0 0 (by unfold bd3; decide) (fun q hq => by
    have q1 := hin q hq
    have q2 := l1 q hq
    exact b_I (by omega) hN9 hP hle (h2 q hq).1 (by omega) (MZ_s hM (by show x.1 + x.2.1 ≤ q.1 + q.2.1; omega) (by omega))) (by omega) E1.1
  exact bd3_w g (by omega)
/-- a nucleus -/
theorem b_N (hN9 : N ≤ 221) : ∀ (d : Nat), d ≤ 7 → ∀ x : XT, SN C R CL RL B d x.1 x.2.1 x.2.2.1 x.2.2.2 → x.2.2.1 + x.2.2.2 ≤ N → MZ A B (xn x) (x.2.2.1 + x.2.2.2) → bd3 (A 22 (xn x)) (A 23 (xn x)) (A 24 (xn x)) (cc d * sz x)
  | 0, _, _, h, _, _ => h.elim
  | d + 1, hd, x, h, hN, hM => by
    have hle := SN_le (C := C) (R := R) (CL := CL) (RL := RL) (A := B) d
    have hl9 := SN_le _ _ _ _ _ h
    have hP := b_N hN9 d (by omega)
    have hc7 := cc_7 d (by omega)
    obtain ⟨k, hk, -, ⟨h1, -⟩, hcd, hok, h⟩ := h
    have hroot : xn x < x.2.2.1 + x.2.2.2 := by show x.1 + x.2.1 < _; omega
    obtain ⟨⟨E, -⟩, hs⟩ := hM.2 (xn x) (Nat.le_refl _) hroot
    have eA1 : A 1 (xn x) = kR k := by rw [hM.1 1 (by decide)]; exact h1
    have eA2 : A 2 (xn x) = C x.1 7 := by rw [hM.1 2 (by decide)]; exact hcd
    have e10 : A 10 (xn x) = B 10 (xn x) := by rw [hM.1 10 (by decide)]
    have e11 : A 11 (xn x) = B 11 (xn x) := by rw [hM.1 11 (by decide)]
    have ecc : cc (d + 1) = 2 * cc d + 600 := rfl
    have hsz : sz x = x.2.2.1 + x.2.2.2 - (x.1 + x.2.1) := rfl
    unfold EB at E
    rw [eA1] at E
    unfold SK at h
    have fin : ∀ (M y : Nat), y + 1 ≤ sz x → M ≤ 2 * (cc d * y) + 600 * y + 600 → M ≤ cc (d + 1) * sz x := fun M y h1 h2 => by
      have q1 := Nat.mul_le_mul_left (cc (d + 1)) h1
      rw [ecc] at q1 ⊢
      rw [Nat.mul_add, Nat.add_mul, Nat.mul_assoc] at q1
      omega
    have bnd : ∀ K z, K ≤ 76350 → z ≤ 221 → K * z ≤ 17000000 := fun K z h1 h2 => by
      have := Nat.mul_le_mul h1 h2
      omega
    by_cases c1 : k = 0 ∨ (2 ≤ k ∧ k ≤ 4)
    · rw [if_pos c1] at h
      obtain ⟨-, -, -, -, h7⟩ := h
      by_cases c0 : k = 0
      · subst c0
        rw [show kR 0 = 1 from rfl, if_neg (by decide), if_pos rfl, eA2] at E
        have q := cd_b (ixI (C x.1 7)) hok.2 _ hs.2
        rw [← hok.1] at q
        rw [E.1, E.2.1, E.2.2]
        refine bd3_w (M := 300) ?_ (fin 300 0 (by omega) (by omega))
        unfold bd3
        omega
      · have h7 := h7.resolve_left c0
        have hk4 : 2 ≤ k ∧ k ≤ 4 := c1.resolve_left c0
        have e2 : kR k = 2 := by rcases (by omega : k = 2 ∨ k = 3 ∨ k = 4) with rfl | rfl | rfl <;> rfl
        rw [e2, if_neg (by decide), if_neg (by decide), if_pos rfl, eA2] at E
        dsimp only at h7
        rw [h7] at E
        have q := op_b k hk4 _ hs.2
        rw [E.1, E.2.1, E.2.2.1]
        refine bd3_w (M := 500) ?_ (fin 500 0 (by omega) (by omega))
        unfold bd3
        omega
    · rw [if_neg c1] at h
      by_cases c2 : k = 1 ∨ k = 9
      · rw [if_pos c2] at h
        obtain ⟨g11, g10, g11', gL, g14, g15, g9⟩ := h
        dsimp only at gL
        have le2 := SL_le hle gL
        dsimp only at le2
        obtain ⟨bL, bL2⟩ := b_L (K := cc d) (by omega) hN9 hP hle gL hN (MZ_s hM (by show x.1 + x.2.1 ≤ (x.1 + 1) + x.2.1; omega) (Nat.le_refl _))
        have en : xn (x.1 + 1, x.2.1, x.2.2.1, x.2.2.2) = xn x + 1 := by show (x.1 + 1) + x.2.1 = x.1 + x.2.1 + 1; omega
        have es : sz (x.1 + 1, x.2.1, x.2.2.1, x.2.2.2) = sz x - 1 := by show x.2.2.1 + x.2.2.2 - ((x.1 + 1) + x.2.1) = x.2.2.1 + x.2.2.2 - (x.1 + x.2.1) - 1; omega
        rw [en, es] at bL
        rw [en] at bL2
        have eo : ixI (A 10 (xn x)) = xn x + 1 := by rw [e10, g10]; exact nI_clamp (show x.1 + x.2.1 + 1 < _ by omega)
        rw [eo] at E
        have bM := bnd (cc d + 150) (sz x - 1) (by omega) (by omega)
        have hx1 : 1 ≤ sz x := by omega
        rcases c2 with rfl | rfl
        · rw [show kR 1 = 3 from rfl, if_neg (by decide), if_neg (by decide), if_neg (by decide), if_pos rfl] at E
          rw [E.1, E.2.1, E.2.2.1]
          refine bd3_w bL (fin _ (sz x - 1) (by omega) ?_)
          rw [Nat.add_mul]
          omega
        · rw [show kR 9 = 8 from rfl, if_neg (by decide), if_neg (by decide), if_neg (by decide), if_neg (by decide), if_neg (by decide), if_neg (by decide), if_pos rfl, bL2.1, bL2.2.1, bL2.2.2.1] at E
          obtain ⟨E34, -, -, -, E22, E23, E24⟩ := E
          obtain ⟨-, -, -, -, -, -, -, c8, -⟩ := cy _ hs.2
          have z0 : (0 : Int32).toInt = 0 := by decide
          have hpq : ∀ v : Int32, 0 ≤ (if v = 46 then 0 else 4 * yS (ixI (A 20 (xn x)))).toInt ∧ (if v = 46 then 0 else 4 * yS (ixI (A 20 (xn x)))).toInt ≤ 40 := fun v => by
            split
            · rw [z0]; omega
            · omega
          obtain ⟨-, q⟩ := b_sd hs.2 (M := (cc d + 150) * (sz x - 1)) (by omega) bL
          have q := q _ _ (hpq (A 2 (xn x))) (hpq (A 3 (xn x)))
          have fin2 : 2 * ((cc d + 150) * (sz x - 1)) + 300 ≤ cc (d + 1) * sz x := fin _ (sz x - 1) (by omega) (by rw [Nat.add_mul]; omega)
          rw [E22, E23, E24, E34]
          by_cases cs : A 2 (xn x) = 46 ∧ A 3 (xn x) = 46
          · rw [if_pos cs, if_pos cs]; exact bd3_w q.2 fin2
          · rw [if_neg cs, if_neg cs]; exact bd3_w q.1 fin2
      · rw [if_neg c2] at h
        by_cases c3 : k = 5
        · rw [if_pos c3] at h
          subst c3
          obtain ⟨i1, l1, -, -, g10, g11, gA, gB⟩ := h
          have q1 := hle _ _ _ _ gA.1
          have q2 := hle _ _ _ _ gB.1
          dsimp only at q1 q2 gA gB
          have bA := b_B hP hle gA (by dsimp only; omega) (MZ_s hM (by show x.1 + x.2.1 ≤ (x.1 + 1) + x.2.1; omega) (by dsimp only; omega))
          have bB := b_B hP hle gB hN (MZ_s hM (by show x.1 + x.2.1 ≤ i1 + l1; omega) (Nat.le_refl _))
          have eo : ixI (A 10 (xn x)) = xn (x.1 + 1, x.2.1, i1, l1) := by rw [e10, g10]; show _ = (x.1 + 1) + x.2.1; rw [show x.1 + 1 + x.2.1 = x.1 + x.2.1 + 1 by omega]; exact nI_clamp (show x.1 + x.2.1 + 1 < _ by omega)
          have et : ixI (A 11 (xn x)) = xn (i1, l1, x.2.2.1, x.2.2.2) := by rw [e11, g11]; exact nI_clamp (show i1 + l1 < _ by omega)
          rw [show kR 5 = 4 from rfl, if_neg (by decide), if_neg (by decide), if_neg (by decide), if_neg (by decide), if_pos rfl, eo, et] at E
          obtain ⟨E22, -, -, -, -, -, E23, E24⟩ := E
          rw [E22, E23, E24]
          have z1 : sz (x.1 + 1, x.2.1, i1, l1) = i1 + l1 - (x.1 + 1 + x.2.1) := rfl
          have z2 : sz (i1, l1, x.2.2.1, x.2.2.2) = x.2.2.1 + x.2.2.2 - (i1 + l1) := rfl
          have m1 := bnd (cc d) (sz (x.1 + 1, x.2.1, i1, l1)) (by omega) (by omega)
          have m2 := bnd (cc d) (sz (i1, l1, x.2.2.1, x.2.2.2)) (by omega) (by omega)
          refine bd3_w (b_fr hs.2 (by omega) (by omega) bA bB) (fin _ (sz (x.1 + 1, x.2.1, i1, l1) + sz (i1, l1, x.2.2.1, x.2.2.2)) (by omega) ?_)
          rw [Nat.mul_add]
          omega
        · rw [if_neg c3] at h
          by_cases c4 : k < 9
          · rw [if_pos c4] at h
            obtain ⟨-, g10, -, gA⟩ := h
            have q1 := hle _ _ _ _ gA.1
            dsimp only at q1 gA
            have bA := b_B hP hle gA hN (MZ_s hM (by show x.1 + x.2.1 ≤ (x.1 + 1) + x.2.1; omega) (Nat.le_refl _))
            have en : xn (x.1 + 1, x.2.1, x.2.2.1, x.2.2.2) = xn x + 1 := by show (x.1 + 1) + x.2.1 = x.1 + x.2.1 + 1; omega
            have es : sz (x.1 + 1, x.2.1, x.2.2.1, x.2.2.2) = sz x - 1 := by show x.2.2.1 + x.2.2.2 - ((x.1 + 1) + x.2.1) = x.2.2.1 + x.2.2.2 - (x.1 + x.2.1) - 1; omega
            have eo : ixI (A 10 (xn x)) = xn x + 1 := by rw [e10, g10]; exact nI_clamp (show x.1 + x.2.1 + 1 < _ by omega)
            rw [eo] at E
            rw [en, es] at bA
            have m1 := bnd (cc d) (sz x - 1) (by omega) (by omega)
            have fin2 : cc d * (sz x - 1) + 200 ≤ cc (d + 1) * sz x := fin _ (sz x - 1) (by omega) (by omega)
            rcases (by omega : k = 6 ∨ k = 7 ∨ k = 8) with rfl | rfl | rfl
            · rw [show kR 6 = 5 from rfl, if_neg (by decide), if_neg (by decide), if_neg (by decide), if_neg (by decide), if_neg (by decide), if_pos rfl] at E
              obtain ⟨E34, E23, -, E24, E22, -⟩ := E
              rw [E24, E22, E34, E23]
              exact bd3_w (b_rt hs.2 (by omega) bA).1 fin2
            · rw [show kR 7 = 6 from rfl, if_neg (by decide), if_neg (by decide), if_neg (by decide), if_neg (by decide), if_neg (by decide), if_neg (by decide), if_neg (by decide), if_neg (by decide), if_pos rfl, if_pos rfl] at E
              obtain ⟨-, -, E22, E24, -, E23⟩ := E
              rw [E22, E23, E24]
              exact bd3_w (b_ht hs.2 (by omega) bA) fin2
            · rw [show kR 8 = 7 from rfl, if_neg (by decide), if_neg (by decide), if_neg (by decide), if_neg (by decide), if_neg (by decide), if_neg (by decide), if_neg (by decide), if_neg (by decide), if_neg (by decide), if_neg (by decide)] at E
              obtain ⟨-, -, E22, E24, -, E23⟩ := E
              rw [E22, E23, E24]
              exact bd3_w (b_br hs.2 (by omega) bA) fin2
          · rw [if_neg c4] at h
            have c10 : k = 10 := by omega
            subst c10
            obtain ⟨xs, hne, -, -, -, g6, gc, -, g7, gS, gp⟩ := h
            dsimp only at g6 gc
            have l1 : ∀ q ∈ xs, q.1 ≤ q.2.2.1 ∧ q.2.1 < q.2.2.2 := fun q hq => SL_le hle (gS q hq).1
            have hin := chn_in xs _ _ _ _ gc (fun q hq => by have := l1 q hq; omega)
            have hlen := chn_len2 xs _ _ _ _ gc (fun q hq => by have := l1 q hq; omega)
            have hh : nI (xo xs.head?) = nI (xn x + 1) := by
              cases xs with
              | nil => exact absurd rfl hne
              | cons q t => exact congrArg nI (show q.1 + q.2.1 = x.1 + x.2.1 + 1 by have := gc.1; have := gc.2.1; omega)
            have chA : chN A (xn x) = xs.map xn := by
              show chR (A 7) 400 (A 6 (xn x)) = _
              rw [hM.1 7 (by decide), hM.1 6 (by decide), g6, ← hh]
              exact (chR_xs xs 399 g7 (fun q hq => by
                have a1 := l1 q hq
                have a2 := hin q hq
                show 0 < q.1 + q.2.1 ∧ q.1 + q.2.1 < 400
                omega) (by omega)).1
            rw [show kR 10 = 9 from rfl, if_neg (by decide), if_neg (by decide), if_neg (by decide), if_neg (by decide), if_neg (by decide), if_neg (by decide), if_neg (by decide), if_pos rfl, chA] at E
            have sum := chn_sz (K := cc d + 150) (c := 0) xs _ _ _ _ gc (fun q hq => by have := l1 q hq; omega)
            have hsum : (xs.map (fun q => (cc d + 150) * sz q)).sum ≤ (cc d + 150) * (sz x - 1) := by
              have e : x.2.2.1 + x.2.2.2 - (x.1 + 1 + x.2.1) = sz x - 1 := by omega
              rw [e] at sum
              exact sum.1
            have hcw : ∀ (t : List XT) (r c : Nat), cpo CL r c t → ∀ q ∈ t, okw (CL q.2.1 6) ∧ okw (CL q.2.1 7) := by
              intro t
              induction t with
              | nil => exact fun _ _ _ q hq => absurd hq List.not_mem_nil
              | cons p t ih =>
                intro r c hp q hq
                rcases List.mem_cons.mp hq with rfl | hq
                · have e6 : ixI (nI r) = r := nI_clamp (by have := hp.1; omega)
                  have e7 : ixI (nI c) = c := nI_clamp (by have := hp.2.1; omega)
                  rw [hp.2.2.1, hp.2.2.2.1]
                  exact ⟨⟨by rw [e6], by rw [e6]; exact hp.1⟩, ⟨by rw [e7], by rw [e7]; exact hp.2.1⟩⟩
                · rcases hp.2.2.2.2 with w | w
                  · exact ih _ _ w q hq
                  · exact ih _ _ w q hq
            have m1 := bnd (cc d + 150) (sz x - 1) (by omega) (by omega)
            have g := b_mt (Q := fun q => (cc d + 150) * sz q) hs.2 E (fun q hq => by
              obtain ⟨s1, -, -, s4, s5⟩ := gS q hq
              have q1 := l1 q hq
              have q2 := hin q hq
              have w := hcw xs 0 0 gp q hq
              refine ⟨(b_L (K := cc d) (by omega) hN9 hP hle s1 (by omega) (MZ_s hM (by show x.1 + x.2.1 ≤ q.1 + q.2.1; omega) (by omega))).1, ?_, ?_⟩
              · rw [hM.1 9 (by decide), s5]; exact w.2
              · rw [hM.1 8 (by decide), s4]; exact w.1) (by omega)
            have hx2 : 2 ≤ sz x := by
              cases xs with
              | nil => exact absurd rfl hne
              | cons q t => rw [List.length_cons] at hlen; omega
            refine bd3_w g (fin _ (sz x - 1) (by omega) ?_)
            rw [Nat.add_mul] at hsum
            omega
end
