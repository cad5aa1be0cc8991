/-! Pure: what is known of each node that was read. By hand. -/
theorem nd_mk {B : Nat → Nat → Int32} {N n u lo o t : Nat} {cs : List Nat} (hN9 : N ≤ 221) (h12 : B 12 n = nI u) (h13 : B 13 n = nI lo) (h10 : B 10 n = nI o) (h11 : B 11 n = nI t) (hu : u < N) (hl : lo < N) (ho : o < N) (ht : t < N) (hch : chN B n = cs) (h6 : B 6 n = nI (hdz cs)) (hnx : nxA (B 7) cs) (hv : B 1 n = 0 ∨ B 1 n = 1 ∨ B 1 n = 2 ∨ B 1 n = 3 ∨ B 1 n = 4 ∨ B 1 n = 5 ∨ B 1 n = 6 ∨ B 1 n = 7 ∨ B 1 n = 8 ∨ B 1 n = 9) (hk : ∀ c ∈ kd (B 1 n) u lo o t cs, c ≠ 0 → n < c ∧ c < N ∧ B 14 c = nI n) (hz : ∀ c ∈ kb (B 1 n) o t cs, c ≠ 0) (hd : (kb (B 1 n) o t cs).Nodup) (hul : u ≠ 0 → lo ≠ u ∧ u ∉ kb (B 1 n) o t cs) (hlo : lo ≠ 0 → lo ∉ kb (B 1 n) o t cs) (h0 : B 1 n = 0 → u = 0 ∧ lo = 0 ∧ ∀ c ∈ cs, ∃ p, p < 8 ∧ B 4 c = nI p) (h9 : B 1 n = 9 → ∀ c ∈ cs, okw (B 9 c) ∧ okw (B 8 c)) (h12' : B 1 n = 1 ∨ B 1 n = 2 → o = 0) (h11' : ¬ B 1 n = 4 → t = 0) : ND B N n := by
  have eu : ixI (B 12 n) = u := by rw [h12]; exact nI_clamp (by omega)
  have el : ixI (B 13 n) = lo := by rw [h13]; exact nI_clamp (by omega)
  have eo : ixI (B 10 n) = o := by rw [h10]; exact nI_clamp (by omega)
  have et : ixI (B 11 n) = t := by rw [h11]; exact nI_clamp (by omega)
  unfold ND kdN kbN
  rw [hch, eu, el, eo, et]
  refine ⟨⟨⟨by rw [eu]; exact h12, by rw [eu]; exact hu⟩, ⟨by rw [el]; exact h13, by rw [el]; exact hl⟩, ⟨by rw [eo]; exact h10, by rw [eo]; exact ho⟩, ⟨by rw [et]; exact h11, by rw [et]; exact ht⟩⟩, ⟨h6, hnx⟩, hv, hk, hz, hd, hul, hlo, h0, h9, h12', h11'⟩
/-- what is known of a nucleus's scripts; e is where its own parts end -/
def SCI (B : Nat → Nat → Int32) (N n e : Nat) : Prop := ∃ u lo, B 12 n = nI u ∧ B 13 n = nI lo ∧ (u ≠ 0 → e ≤ u ∧ u < N ∧ B 14 u = nI n ∧ lo ≠ u) ∧ (lo ≠ 0 → e ≤ lo ∧ lo < N ∧ B 14 lo = nI n)
theorem SCI_0 {B : Nat → Nat → Int32} {N n e : Nat} (h12 : B 12 n = 0) (h13 : B 13 n = 0) : SCI B N n e := ⟨0, 0, h12, h13, fun z => absurd rfl z, fun z => absurd rfl z⟩
theorem chN_0 {B : Nat → Nat → Int32} {n : Nat} (h : B 6 n = 0) : chN B n = [] := by
  show chR (B 7) 400 (B 6 n) = []
  rw [h]; rfl
section
variable {C : Nat → Nat → Int32} {R : Nat → Nat → Option Nat} {CL : Nat → Nat → Int32} {RL : Nat → Nat → Option Nat} {B : Nat → Nat → Int32} {N : Nat}
/-- with parts ks between n and e, and scripts behind e -/
theorem nd_sc {n e o t : Nat} {cs : List Nat} (hN9 : N ≤ 221) (hn : 0 < n ∧ n < e ∧ e ≤ N) (hs : SCI B N n e) (h10 : B 10 n = nI o) (h11 : B 11 n = nI t) (hch : chN B n = cs) (h6 : B 6 n = nI (hdz cs)) (hnx : nxA (B 7) cs) (hv : B 1 n = 1 ∨ B 1 n = 2 ∨ B 1 n = 3 ∨ B 1 n = 4 ∨ B 1 n = 5 ∨ B 1 n = 6 ∨ B 1 n = 7 ∨ B 1 n = 8 ∨ B 1 n = 9) (hk : ∀ c ∈ kb (B 1 n) o t cs, n < c ∧ c < e ∧ B 14 c = nI n) (ho : o = 0 ∨ o ∈ kb (B 1 n) o t cs) (ht : t = 0 ∨ t ∈ kb (B 1 n) o t cs) (hd : (kb (B 1 n) o t cs).Nodup) (h9 : B 1 n = 9 → ∀ c ∈ cs, okw (B 9 c) ∧ okw (B 8 c)) (h12' : B 1 n = 1 ∨ B 1 n = 2 → o = 0) (h11' : ¬ B 1 n = 4 → t = 0) : ND B N n := by
  obtain ⟨u, lo, h12, h13, hu, hl⟩ := hs
  have hv0 : ¬ B 1 n = 0 := fun z => by rw [z] at hv; revert hv; decide
  refine nd_mk (u := u) (lo := lo) hN9 h12 h13 h10 h11 ?_ ?_ ?_ ?_ hch h6 hnx (Or.inr hv) (fun c hc c0 => ?_) (fun c hc => ?_) hd (fun z => ⟨(hu z).2.2.2, fun w => ?_⟩) (fun z w => ?_) (fun z => absurd z hv0) h9 h12' h11'
  · by_cases z : u = 0
    · omega
    · have := hu z; omega
  · by_cases z : lo = 0
    · omega
    · have := hl z; omega
  · rcases ho with z | z
    · omega
    · have := hk o z; omega
  · rcases ht with z | z
    · omega
    · have := hk t z; omega
  · unfold kd at hc
    rcases List.mem_cons.mp hc with w | w
    · subst w
      have := hu c0
      exact ⟨by omega, this.2.1, this.2.2.1⟩
    · rcases List.mem_cons.mp w with w | w
      · subst w
        have := hl c0
        exact ⟨by omega, this.2.1, this.2.2⟩
      · have := hk c w
        exact ⟨this.1, by omega, this.2.2⟩
  · have := hk c hc; omega
  · have a := hk u w
    have b := hu z
    omega
  · have a := hk lo w
    have b := hl z
    omega
/-- a nucleus -/
theorem nd_N (hN9 : N ≤ 221) {d : Nat} {x : XT} (h : SN C R CL RL B (d + 1) x.1 x.2.1 x.2.2.1 x.2.2.2) (h0 : 0 < xn x) (hN : x.2.2.1 + x.2.2.2 ≤ N) (hsc : SCI B N (xn x) (x.2.2.1 + x.2.2.2)) : ND B N (xn x) := by
  have hle := SN_le (C := C) (R := R) (CL := CL) (RL := RL) (A := B) d
  have hl9 := SN_le _ _ _ _ _ h
  obtain ⟨k, hk, -, ⟨h1, h6⟩, -, -, h⟩ := h
  have h1 : B 1 (xn x) = kR k := h1
  have h6 : k ≠ 10 → B 6 (xn x) = 0 := h6
  have hroot : 0 < xn x ∧ xn x < x.2.2.1 + x.2.2.2 ∧ x.2.2.1 + x.2.2.2 ≤ N := ⟨h0, by show x.1 + x.2.1 < _; omega, hN⟩
  unfold SK at h
  have one : ∀ v : Int32, kR k = v → k ≠ 10 → (v = 3 ∨ v = 5 ∨ v = 6 ∨ v = 7 ∨ v = 8) → B 10 (xn x) = nI (xn x + 1) → B 11 (xn x) = 0 → B 14 (xn x + 1) = nI (xn x) → xn x + 1 < x.2.2.1 + x.2.2.2 → ND B N (xn x) := by
    intro v hv hk10 hvv g10 g11 g14 glt
    have h6' := h6 hk10
    have ekb : kb (B 1 (xn x)) (xn x + 1) 0 [] = [xn x + 1] := by
      rw [h1, hv]; unfold kb
      rcases hvv with rfl | rfl | rfl | rfl | rfl <;> rfl
    refine nd_sc hN9 hroot hsc g10 g11 (chN_0 h6') h6' trivial ?_ (fun c hc => ?_) (Or.inr ?_) (Or.inl rfl) ?_ (fun z => ?_) (fun z => ?_) (fun _ => rfl)
    · rw [h1, hv]; rcases hvv with rfl | rfl | rfl | rfl | rfl <;> decide
    · rw [ekb] at hc
      rw [List.mem_singleton.mp hc]
      exact ⟨by omega, glt, g14⟩
    · rw [ekb]; exact List.mem_singleton.mpr rfl
    · rw [ekb]; simp
    · rw [h1, hv] at z; rcases hvv with rfl | rfl | rfl | rfl | rfl <;> exact absurd z (by decide)
    · rw [h1, hv] at z; rcases hvv with rfl | rfl | rfl | rfl | rfl <;> exact absurd z (by decide)
  by_cases c1 : k = 0 ∨ (2 ≤ k ∧ k ≤ 4)
  · rw [if_pos c1] at h
    obtain ⟨-, -, g10, g11, -⟩ := h
    have h6' := h6 (by omega)
    have hv : kR k = 1 ∨ kR k = 2 := by rcases (by omega : k = 0 ∨ k = 2 ∨ k = 3 ∨ k = 4) with rfl | rfl | rfl | rfl <;> decide
    have ekb : kb (B 1 (xn x)) 0 0 [] = [] := by
      rw [h1]; unfold kb
      rcases hv with e | e <;> rw [e] <;> rfl
    refine nd_sc hN9 hroot hsc g10 g11 (chN_0 h6') h6' trivial ?_ (fun c hc => ?_) (Or.inl rfl) (Or.inl rfl) ?_ (fun z => ?_) (fun _ => rfl) (fun _ => rfl)
    · rw [h1]; rcases hv with e | e <;> rw [e] <;> decide
    · rw [ekb] at hc; exact absurd hc List.not_mem_nil
    · rw [ekb]; exact List.nodup_nil
    · rw [h1] at z; rcases hv with e | e <;> rw [e] at z <;> exact absurd z (by decide)
  · rw [if_neg c1] at h
    by_cases c2 : k = 1 ∨ k = 9
    · rw [if_pos c2] at h
      obtain ⟨-, g10, g11, gL, g14, -, -⟩ := h
      have le2 := SL_le hle gL
      dsimp only at le2
      have glt : xn x + 1 < x.2.2.1 + x.2.2.2 := by show x.1 + x.2.1 + 1 < _; omega
      rcases c2 with rfl | rfl
      · exact one 3 rfl (by decide) (by decide) g10 g11 g14 glt
      · exact one 8 rfl (by decide) (by decide) g10 g11 g14 glt
    · rw [if_neg c2] at h
      by_cases c3 : k = 5
      · rw [if_pos c3] at h
        subst c3
        obtain ⟨i1, l1, -, -, g10, g11, gA, gB⟩ := h
        have q1 := hle _ _ _ _ gA.1
        have q2 := hle _ _ _ _ gB.1
        dsimp only at q1 q2
        have h6' := h6 (by decide)
        have ekb : kb (B 1 (xn x)) (xn x + 1) (i1 + l1) [] = [xn x + 1, i1 + l1] := by rw [h1]; rfl
        have a14 : B 14 (xn x + 1) = nI (xn x) := by
          have := gA.2.2.2.1
          rw [show xn (x.1 + 1, x.2.1, i1, l1) = xn x + 1 by show x.1 + 1 + x.2.1 = x.1 + x.2.1 + 1; omega] at this
          exact this
        have lt : xn x + 1 < i1 + l1 := by show x.1 + x.2.1 + 1 < _; omega
        refine nd_sc hN9 hroot hsc g10 g11 (chN_0 h6') h6' trivial ?_ (fun c hc => ?_) (Or.inr ?_) (Or.inr ?_) ?_ (fun z => ?_) (fun z => ?_) (fun z => ?_)
        · rw [h1]; decide
        · rw [ekb] at hc
          rcases List.mem_cons.mp hc with w | w
          · rw [w]; exact ⟨by omega, by omega, a14⟩
          · rw [List.mem_singleton.mp w]; exact ⟨by omega, by omega, gB.2.2.2.1⟩
        · rw [ekb]; simp
        · rw [ekb]; simp
        · rw [ekb]; simp; omega
        · rw [h1] at z; exact absurd z (by decide)
        · rw [h1] at z; exact absurd z (by decide)
        · rw [h1] at z; exact absurd rfl z
      · rw [if_neg c3] at h
        by_cases c4 : k < 9
        · rw [if_pos c4] at h
          obtain ⟨-, g10, g11, gA⟩ := h
          have q1 := hle _ _ _ _ gA.1
          dsimp only at q1
          have glt : xn x + 1 < x.2.2.1 + x.2.2.2 := by show x.1 + x.2.1 + 1 < _; omega
          have a14 : B 14 (xn x + 1) = nI (xn x) := by
            have := gA.2.2.2.1
            rw [show xn (x.1 + 1, x.2.1, x.2.2.1, x.2.2.2) = xn x + 1 by show x.1 + 1 + x.2.1 = x.1 + x.2.1 + 1; omega] at this
            exact this
          rcases (by omega : k = 6 ∨ k = 7 ∨ k = 8) with rfl | rfl | rfl
          · exact one 5 rfl (by decide) (by decide) g10 g11 a14 glt
          · exact one 6 rfl (by decide) (by decide) g10 g11 a14 glt
          · exact one 7 rfl (by decide) (by decide) g10 g11 a14 glt
        · rw [if_neg c4] at h
          have c10 : k = 10 := by omega
          subst c10
          obtain ⟨xs, hne, -, g10, g11, g6, gc, -, g7, gS, gp⟩ := h
          dsimp only at g6 gc
          have l1 : ∀ q ∈ xs, q.1 ≤ q.2.2.1 ∧ q.2.1 < q.2.2.2 := fun q hq => SL_le hle (gS q hq).1
          have hin := chn_in xs _ _ _ _ gc (fun q hq => by have := l1 q hq; omega)
          have hlen := chn_len2 xs _ _ _ _ gc (fun q hq => by have := l1 q hq; omega)
          have hh : nI (xo xs.head?) = nI (xn x + 1) := by
            cases xs with
            | nil => exact absurd rfl hne
            | cons q t => exact congrArg nI (show q.1 + q.2.1 = x.1 + x.2.1 + 1 by have := gc.1; have := gc.2.1; omega)
          have ch := chR_xs xs 399 g7 (fun q hq => by
            have a1 := l1 q hq
            have a2 := hin q hq
            show 0 < q.1 + q.2.1 ∧ q.1 + q.2.1 < 400
            omega) (by omega)
          have hch : chN B (xn x) = xs.map xn := by
            show chR (B 7) 400 (B 6 (xn x)) = _
            rw [g6, ← hh]; exact ch.1
          have ekb : kb (B 1 (xn x)) 0 0 (xs.map xn) = xs.map xn := by rw [h1]; rfl
          have hcw : ∀ (t : List XT) (r c : Nat), cpo CL r c t → ∀ q ∈ t, okw (CL q.2.1 6) ∧ okw (CL q.2.1 7) := by
            intro t
            induction t with
            | nil => exact fun _ _ _ q hq => absurd hq List.not_mem_nil
            | cons p t ih =>
              intro r c hp q hq
              rcases List.mem_cons.mp hq with rfl | hq
              · have e6 : ixI (nI r) = r := nI_clamp (by have := hp.1; omega)
                have e7 : ixI (nI c) = c := nI_clamp (by have := hp.2.1; omega)
                rw [hp.2.2.1, hp.2.2.2.1]
                exact ⟨⟨by rw [e6], by rw [e6]; exact hp.1⟩, ⟨by rw [e7], by rw [e7]; exact hp.2.1⟩⟩
              · rcases hp.2.2.2.2 with w | w
                · exact ih _ _ w q hq
                · exact ih _ _ w q hq
          refine nd_sc hN9 hroot hsc g10 g11 hch (by rw [hdz_xo, hh]; exact g6) ch.2 ?_ (fun c hc => ?_) (Or.inl rfl) (Or.inl rfl) ?_ (fun _ c hc => ?_) (fun _ => rfl) (fun _ => rfl)
          · rw [h1]; decide
          · rw [ekb] at hc
            obtain ⟨q, hq, rfl⟩ := List.mem_map.mp hc
            have a1 := l1 q hq
            have a2 := hin q hq
            refine ⟨?_, ?_, (gS q hq).2.1⟩
            · show x.1 + x.2.1 < q.1 + q.2.1; omega
            · show q.1 + q.2.1 < _; omega
          · rw [ekb]; exact chn_ndA xs _ _ _ _ gc (fun q hq => by have := l1 q hq; omega)
          · obtain ⟨q, hq, rfl⟩ := List.mem_map.mp hc
            obtain ⟨-, -, -, s4, s5⟩ := gS q hq
            have w := hcw xs 0 0 gp q hq
            rw [s4, s5]
            exact ⟨w.2, w.1⟩
/-- a line -/
theorem nd_L (hN9 : N ≤ 221) {P : PR} (hle : ∀ i l i' l', P i l i' l' → i < i' ∧ l ≤ l') {x : XT} (h : SL R RL B P x) (hN : x.2.2.1 + x.2.2.2 ≤ N) : ND B N (xn x) ∧ ∃ xs : List XT, chn x.1 (x.2.1 + 1) xs x.2.2.1 x.2.2.2 ∧ (∀ q ∈ xs, SI R B P q) ∧ kbN B (xn x) = xs.map xn ∧ B 1 (xn x) = 0 := by
  have hl9 := SL_le hle h
  obtain ⟨⟨a1, a10, a11, a12, a13⟩, xs, so, h1, h2, h3, h4, h5, h6, h7, h8, h9⟩ := h
  have l1 : ∀ q ∈ xs, q.1 < q.2.2.1 ∧ q.2.1 ≤ q.2.2.2 := fun q hq => SI_le hle (h2 q hq).1
  have hin := chn_in xs _ _ _ _ h1 (fun q hq => by have := l1 q hq; omega)
  have ch := SL_ch hle (by omega) h1 (fun q hq => (h2 q hq).1) h4 h6
  have hkid : ∀ c ∈ xs.map xn, xn x < c ∧ c < N ∧ B 14 c = nI (xn x) := fun c hc => by
    obtain ⟨q, hq, rfl⟩ := List.mem_map.mp hc
    have a1 := l1 q hq
    have a2 := hin q hq
    refine ⟨?_, ?_, (h2 q hq).2.1⟩
    · show x.1 + x.2.1 < q.1 + q.2.1; omega
    · show q.1 + q.2.1 < _; omega
  have ekb : kb (B 1 (xn x)) 0 0 (xs.map xn) = xs.map xn := by rw [a1]; rfl
  refine ⟨nd_mk (u := 0) (lo := 0) (o := 0) (t := 0) (cs := xs.map xn) hN9 a12 a13 a10 a11 (by omega) (by omega) (by omega) (by omega) ch.1 (by rw [hdz_xo]; exact h4) ch.2 (Or.inl a1) (fun c hc c0 => ?_) (fun c hc => ?_) ?_ (fun z => absurd rfl z) (fun z => absurd rfl z) (fun _ => ⟨rfl, rfl, fun c hc => ?_⟩) (fun z => ?_) (fun _ => rfl) (fun _ => rfl), xs, h1, fun q hq => (h2 q hq).1, ?_, a1⟩
  · unfold kd at hc
    rcases List.mem_cons.mp hc with w | w
    · exact absurd w c0
    · rcases List.mem_cons.mp w with w | w
      · exact absurd w c0
      · rw [ekb] at w; exact hkid c w
  · rw [ekb] at hc
    have := (hkid c hc).1
    omega
  · rw [ekb]; exact chn_ndA xs _ _ _ _ h1 (fun q hq => by have := l1 q hq; omega)
  · obtain ⟨q, hq, rfl⟩ := List.mem_map.mp hc
    have m1 : B 4 (xn q) ∈ xs.map (fun q => B 4 (xn q)) := List.mem_map.mpr ⟨q, hq, rfl⟩
    rw [h7] at m1
    obtain ⟨a, ha, e⟩ := List.mem_map.mp m1
    exact ⟨a, h8 a ha, e.symm⟩
  · rw [a1] at z; exact absurd z (by decide)
  · show kb (B 1 (xn x)) _ _ (chN B (xn x)) = _
    rw [ch.1, a1]; rfl
end
