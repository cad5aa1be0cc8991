/-! Pure: one part more behind a chain. By hand. -/
theorem chn_last : ∀ (xs : List XT) (i l i' l' : Nat), chn i l xs i' l' → (∀ q ∈ xs, q.1 ≤ q.2.2.1 ∧ q.2.1 ≤ q.2.2.2) → ∀ q ∈ xs, ∀ z, xs.getLast? = some z → q = z ∨ (q.2.2.1 ≤ z.1 ∧ q.2.2.2 ≤ z.2.1)
  | [], _, _, _, _, _, _, q, hq, _, _ => absurd hq List.not_mem_nil
  | [p], _, _, _, _, _, _, q, hq, z, hz => Or.inl (by rw [List.mem_singleton.mp hq]; exact Option.some.inj hz)
  | p :: r :: t, i, l, i', l', h, hle, q, hq, z, hz => by
    have hz : (r :: t).getLast? = some z := by rw [← hz]; exact List.getLast?_cons_cons.symm
    rcases List.mem_cons.mp hq with rfl | hq
    · have g := chn_in (r :: t) _ _ _ _ h.2.2 (fun x hx => hle x (List.mem_cons_of_mem _ hx)) z (List.mem_of_getLast? hz)
      exact Or.inr ⟨g.1, g.2.1⟩
    · exact chn_last (r :: t) _ _ _ _ h.2.2 (fun x hx => hle x (List.mem_cons_of_mem _ hx)) q hq z hz
/-- no two share a nucleus -/
theorem chn_dis : ∀ (xs : List XT) (i l i' l' : Nat), chn i l xs i' l' → (∀ q ∈ xs, q.1 ≤ q.2.2.1 ∧ q.2.1 ≤ q.2.2.2) → ∀ q ∈ xs, ∀ p ∈ xs, q = p ∨ (q.2.2.1 ≤ p.1 ∧ q.2.2.2 ≤ p.2.1) ∨ (p.2.2.1 ≤ q.1 ∧ p.2.2.2 ≤ q.2.1)
  | [], _, _, _, _, _, _, q, hq, _, _ => absurd hq List.not_mem_nil
  | r :: t, i, l, i', l', h, hle, q, hq, p, hp => by
    have g := chn_in t _ _ _ _ h.2.2 (fun x hx => hle x (List.mem_cons_of_mem _ hx))
    rcases List.mem_cons.mp hq with e1 | hq
    · rcases List.mem_cons.mp hp with e2 | hp
      · exact Or.inl (e1.trans e2.symm)
      · have := g p hp
        rw [e1]
        exact Or.inr (Or.inl ⟨this.1, this.2.1⟩)
    · rcases List.mem_cons.mp hp with e2 | hp
      · have := g q hq
        rw [e2]
        exact Or.inr (Or.inr ⟨this.1, this.2.1⟩)
      · exact chn_dis t _ _ _ _ h.2.2 (fun x hx => hle x (List.mem_cons_of_mem _ hx)) q hq p hp
theorem chn_nd : ∀ (xs : List XT) (i l i' l' : Nat), chn i l xs i' l' → (∀ q ∈ xs, q.1 < q.2.2.1 ∧ q.2.1 ≤ q.2.2.2) → (xs.map (fun z => z.1)).Nodup
  | [], _, _, _, _, _, _ => List.nodup_nil
  | r :: t, i, l, i', l', h, hle => by
    have g := chn_in t _ _ _ _ h.2.2 (fun x hx => by have := hle x (List.mem_cons_of_mem _ hx); omega)
    refine List.nodup_cons.mpr ⟨fun z => ?_, chn_nd t _ _ _ _ h.2.2 (fun x hx => hle x (List.mem_cons_of_mem _ hx))⟩
    obtain ⟨p, hp, e⟩ := List.mem_map.mp z
    have g1 := g p hp
    have g2 := hle r List.mem_cons_self
    dsimp only at e
    omega
theorem lkR_end {R R' : Nat → Nat → Option Nat} {n : XT} (hn : R' n.1 14 = none) : ∀ (xs : List XT), lkR R xs → (xs.map (fun z => z.1)).Nodup → (∀ q ∈ xs, (∀ z, xs.getLast? = some z → q.1 ≠ z.1) → R' q.1 14 = R q.1 14) → (∀ z, xs.getLast? = some z → R' z.1 14 = some n.1) → lkR R' (xs ++ [n])
  | [], _, _, _, _ => ⟨hn, trivial⟩
  | [p], _, _, _, h2 => ⟨h2 p rfl, hn, trivial⟩
  | p :: r :: t, h, hnd, h1, h2 => by
    have hl : (p :: r :: t).getLast? = (r :: t).getLast? := List.getLast?_cons_cons
    rw [hl] at h1 h2
    have hp : p.1 ∉ (r :: t).map (fun z => z.1) := (List.nodup_cons.mp hnd).1
    exact ⟨(h1 p List.mem_cons_self (fun z hz e => hp (List.mem_map.mpr ⟨z, List.mem_of_getLast? hz, e.symm⟩))).trans h.1, lkR_end hn (r :: t) h.2 (List.nodup_cons.mp hnd).2 (fun q hq => h1 q (List.mem_cons_of_mem _ hq)) h2⟩
theorem lkL_end {R R' : Nat → Nat → Option Nat} {n : XT} (hn : R' n.2.1 8 = none) : ∀ (xs : List XT), lkL R xs → (xs.map (fun z => z.2.1)).Nodup → (∀ q ∈ xs, (∀ z, xs.getLast? = some z → q.2.1 ≠ z.2.1) → R' q.2.1 8 = R q.2.1 8) → (∀ z, xs.getLast? = some z → R' z.2.1 8 = some n.2.1) → lkL R' (xs ++ [n])
  | [], _, _, _, _ => ⟨hn, trivial⟩
  | [p], _, _, _, h2 => ⟨h2 p rfl, hn, trivial⟩
  | p :: r :: t, h, hnd, h1, h2 => by
    have hl : (p :: r :: t).getLast? = (r :: t).getLast? := List.getLast?_cons_cons
    rw [hl] at h1 h2
    have hp : p.2.1 ∉ (r :: t).map (fun z => z.2.1) := (List.nodup_cons.mp hnd).1
    exact ⟨(h1 p List.mem_cons_self (fun z hz e => hp (List.mem_map.mpr ⟨z, List.mem_of_getLast? hz, e.symm⟩))).trans h.1, lkL_end hn (r :: t) h.2 (List.nodup_cons.mp hnd).2 (fun q hq => h1 q (List.mem_cons_of_mem _ hq)) h2⟩
theorem lkA_end {f f' : Nat → Int32} {n : XT} (hn : f' (xn n) = 0) : ∀ (xs : List XT), lkA f xs → (xs.map xn).Nodup → (∀ q ∈ xs, (∀ z, xs.getLast? = some z → xn q ≠ xn z) → f' (xn q) = f (xn q)) → (∀ z, xs.getLast? = some z → f' (xn z) = nI (xn n)) → lkA f' (xs ++ [n])
  | [], _, _, _, _ => ⟨hn, trivial⟩
  | [p], _, _, _, h2 => ⟨h2 p rfl, hn, trivial⟩
  | p :: r :: t, h, hnd, h1, h2 => by
    have hl : (p :: r :: t).getLast? = (r :: t).getLast? := List.getLast?_cons_cons
    rw [hl] at h1 h2
    have hp : xn p ∉ (r :: t).map xn := (List.nodup_cons.mp hnd).1
    exact ⟨(h1 p List.mem_cons_self (fun z hz e => hp (List.mem_map.mpr ⟨z, List.mem_of_getLast? hz, e.symm⟩))).trans h.1, lkA_end hn (r :: t) h.2 (List.nodup_cons.mp hnd).2 (fun q hq => h1 q (List.mem_cons_of_mem _ hq)) h2⟩
theorem chn_ndA : ∀ (xs : List XT) (i l i' l' : Nat), chn i l xs i' l' → (∀ q ∈ xs, q.1 ≤ q.2.2.1 ∧ q.2.1 ≤ q.2.2.2 ∧ q.1 + q.2.1 < q.2.2.1 + q.2.2.2) → (xs.map xn).Nodup
  | [], _, _, _, _, _, _ => List.nodup_nil
  | r :: t, i, l, i', l', h, hle => by
    have g := chn_in t _ _ _ _ h.2.2 (fun x hx => by have := hle x (List.mem_cons_of_mem _ hx); omega)
    refine List.nodup_cons.mpr ⟨fun z => ?_, chn_ndA t _ _ _ _ h.2.2 (fun x hx => hle x (List.mem_cons_of_mem _ hx))⟩
    obtain ⟨p, hp, e⟩ := List.mem_map.mp z
    have g1 := g p hp
    have g2 := hle r List.mem_cons_self
    have e : p.1 + p.2.1 = r.1 + r.2.1 := e
    omega
theorem chn_ndL : ∀ (xs : List XT) (i l i' l' : Nat), chn i l xs i' l' → (∀ q ∈ xs, q.1 ≤ q.2.2.1 ∧ q.2.1 < q.2.2.2) → (xs.map (fun z => z.2.1)).Nodup
  | [], _, _, _, _, _, _ => List.nodup_nil
  | r :: t, i, l, i', l', h, hle => by
    have g := chn_in t _ _ _ _ h.2.2 (fun x hx => by have := hle x (List.mem_cons_of_mem _ hx); omega)
    refine List.nodup_cons.mpr ⟨fun z => ?_, chn_ndL t _ _ _ _ h.2.2 (fun x hx => hle x (List.mem_cons_of_mem _ hx))⟩
    obtain ⟨p, hp, e⟩ := List.mem_map.mp z
    have g1 := g p hp
    have g2 := hle r List.mem_cons_self
    dsimp only at e
    omega
theorem head_app {α : Type} : ∀ (xs : List α) (n : α), (xs ++ [n]).head? = some (xs.head?.getD n)
  | [], _ => rfl
  | _ :: _, _ => rfl
/-- an item stays the same where its cells stay, but for its link and its class -/
theorem SI_ag2 {C : Nat → Nat → Int32} {R : Nat → Nat → Option Nat} {CL : Nat → Nat → Int32} {RL : Nat → Nat → Option Nat} {A C' : Nat → Nat → Int32} {R' : Nat → Nat → Option Nat} {CL' : Nat → Nat → Int32} {RL' : Nat → Nat → Option Nat} {A' : Nat → Nat → Int32} {D : Nat} {x : XT} (h : SI R A (SN C R CL RL A D) x) (g : agN C R CL RL A C' R' CL' RL' A' x) (g12 : R' x.1 12 = R x.1 12) (g13 : R' x.1 13 = R x.1 13) (a12 : A' 12 (xn x) = A 12 (xn x)) (a13 : A' 13 (xn x) = A 13 (xn x)) : SI R' A' (SN C' R' CL' RL' A' D) x := by
  obtain ⟨i1, l1, ou, ol, h1, h2, h3, h4, h5, h6, h7⟩ := h
  have hle := SN_le (C := C) (R := R) (CL := CL) (RL := RL) (A := A) D
  have l1' := hle _ _ _ _ h1
  have PB : ∀ q : XT, SB R A (SN C R CL RL A D) (xn x) 1 q → i1 ≤ q.1 → l1 ≤ q.2.1 → q.2.2.1 ≤ x.2.2.1 → q.2.2.2 ≤ x.2.2.2 → SB R' A' (SN C' R' CL' RL' A' D) (xn x) 1 q := fun q hq b1 b2 b3 b4 => SB_ag (C := C) (CL := CL) (RL := RL) (C' := C') (CL' := CL') (RL' := RL') hle (fun x => SN_ag D x) hq (agF_sub g.2.2 (by dsimp only; omega) (by dsimp only; omega) b3 b4)
  refine ⟨i1, l1, ou, ol, SN_ag (C := C) (R := R) (CL := CL) (RL := RL) (A := A) D (x.1, x.2.1, i1, l1) h1 ⟨g.1, g.2.1, agF_sub g.2.2 (Nat.le_refl _) (Nat.le_refl _) h2.1 h2.2⟩, h2, ⟨g12.trans h3.1, g13.trans h3.2⟩, ⟨a12.trans h4.1, a13.trans h4.2⟩, fun q hq => ?_, fun q hq => ?_, h7⟩
  · obtain ⟨b1, b2, b3, b4, b5⟩ := h5 q hq
    exact ⟨PB q b1 b2 b3 b4 b5, b2, b3, b4, b5⟩
  · obtain ⟨b1, b2, b3, b4, b5⟩ := h6 q hq
    exact ⟨PB q b1 b2 b3 b4 b5, b2, b3, b4, b5⟩
/-- a line as far as it is read -/
def PLn (D i0 j : Nat) (C : Nat → Nat → Int32) (R : Nat → Nat → Option Nat) (CL : Nat → Nat → Int32) (RL : Nat → Nat → Option Nat) (A : Nat → Nat → Int32) (nc lc : Nat) (xs : List XT) (so : List Nat) : Prop := chn i0 (j + 1) xs nc lc ∧ (∀ q ∈ xs, SI R A (SN C R CL RL A D) q ∧ A 14 (xn q) = nI (i0 + j) ∧ A 15 (xn q) = 0) ∧ RL j 5 = xs.head?.map (fun z => z.1) ∧ A 6 (i0 + j) = nI (xo xs.head?) ∧ lkR R xs ∧ lkA (A 7) xs ∧ xs.map (fun q => A 4 (xn q)) = so.map nI ∧ (∀ s ∈ so, s < 8) ∧ xs.map (fun q => R q.1 6) = so.map some
theorem PLn_le {D i0 j : Nat} {C : Nat → Nat → Int32} {R : Nat → Nat → Option Nat} {CL : Nat → Nat → Int32} {RL : Nat → Nat → Option Nat} {A : Nat → Nat → Int32} {nc lc : Nat} {xs : List XT} {so : List Nat} (h : PLn D i0 j C R CL RL A nc lc xs so) : (∀ q ∈ xs, q.1 < q.2.2.1 ∧ q.2.1 ≤ q.2.2.2) ∧ (∀ q ∈ xs, i0 ≤ q.1 ∧ j + 1 ≤ q.2.1 ∧ q.2.2.1 ≤ nc ∧ q.2.2.2 ≤ lc) ∧ xs.length + i0 ≤ nc ∧ i0 ≤ nc ∧ j + 1 ≤ lc := by
  have hle := SN_le (C := C) (R := R) (CL := CL) (RL := RL) (A := A) D
  have h1 : ∀ q ∈ xs, q.1 < q.2.2.1 ∧ q.2.1 ≤ q.2.2.2 := fun q hq => SI_le hle (h.2.1 q hq).1
  have h3 := chn_le hle xs _ _ _ _ h.1 (fun q hq => by have := h1 q hq; omega)
  exact ⟨h1, chn_in xs _ _ _ _ h.1 (fun q hq => by have := h1 q hq; omega), chn_len xs _ _ _ _ h.1 (fun q hq => (h1 q hq).1), h3.1, h3.2⟩
theorem PLn_step {D i0 j t : Nat} {C : Nat → Nat → Int32} {R : Nat → Nat → Option Nat} {CL : Nat → Nat → Int32} {RL : Nat → Nat → Option Nat} {A C2 : Nat → Nat → Int32} {R2 : Nat → Nat → Option Nat} {CL2 : Nat → Nat → Int32} {RL2 : Nat → Nat → Option Nat} {A3 : Nat → Nat → Int32} {R' RL' : Nat → Nat → Option Nat} {nc lc nc2 lc2 : Nat} {xs : List XT} {so : List Nat} (h : PLn D i0 j C R CL RL A nc lc xs so)
    (hS : SI R2 A3 (SN C2 R2 CL2 RL2 A3 D) (nc, lc, nc2, lc2)) (ht : t < 8) (hr6 : R2 nc 6 = some t) (hr14 : R2 nc 14 = none) (ha4 : A3 4 (nc + lc) = nI t) (ha7 : A3 7 (nc + lc) = 0) (ha14 : A3 14 (nc + lc) = nI (i0 + j)) (ha15 : A3 15 (nc + lc) = 0)
    (kR : ∀ q c, q < nc → C2 q c = C q c ∧ R2 q c = R q c) (kL : ∀ q c, q < lc → CL2 q c = CL q c ∧ RL2 q c = RL q c)
    (kA : ∀ k, 1 ≤ k → k ≤ 15 → ∀ m, m < nc + lc → m ≠ i0 + j → (k ≠ 7 ∨ ∀ z, xs.getLast? = some z → m ≠ xn z) → A3 k m = A k m)
    (e0 : xs = [] → A3 6 (i0 + j) = nI (nc + lc) ∧ RL' j 5 = some nc) (e1 : ∀ z, xs.getLast? = some z → A3 6 (i0 + j) = A 6 (i0 + j) ∧ RL' j 5 = RL2 j 5 ∧ A3 7 (xn z) = nI (nc + lc) ∧ R' z.1 14 = some nc)
    (hR' : ∀ q c, (c ≠ 14 ∨ ∀ z, xs.getLast? = some z → q ≠ z.1) → R' q c = R2 q c) (hRL' : ∀ q c, q ≠ j → RL' q c = RL2 q c) : PLn D i0 j C2 R' CL2 RL' A3 nc2 lc2 (xs ++ [(nc, lc, nc2, lc2)]) (so ++ [t]) := by
  obtain ⟨b1, b2, b3, b4, b5⟩ := PLn_le h
  obtain ⟨h1, h2, h3, h4, h5, h6, h7, h8, h9⟩ := h
  have hle2 := SN_le (C := C2) (R := R2) (CL := CL2) (RL := RL2) (A := A3) D
  have hxl := SI_le hle2 hS
  dsimp only at hxl
  have hlast := chn_last xs _ _ _ _ h1 (fun q hq => by have := b1 q hq; omega)
  have hA : ∀ q ∈ xs, ∀ k, 1 ≤ k → k ≤ 15 → k ≠ 7 → A3 k (xn q) = A k (xn q) := fun q hq k k1 k2 k7 => by
    have q1 := b1 q hq
    have q2 := b2 q hq
    exact kA k k1 k2 (xn q) (by show q.1 + q.2.1 < _; omega) (by show q.1 + q.2.1 ≠ _; omega) (Or.inl k7)
  have hRo : ∀ q ∈ xs, ∀ c, c ≠ 14 → R' q.1 c = R q.1 c := fun q hq c hc => by
    have q1 := b1 q hq
    have q2 := b2 q hq
    exact (hR' q.1 c (Or.inl hc)).trans (kR q.1 c (by omega)).2
  have hlnc : ∀ z, xs.getLast? = some z → z.1 < nc ∧ z.1 + z.2.1 < nc + lc := fun z hz => by
    have q1 := b1 z (List.mem_of_getLast? hz)
    have q2 := b2 z (List.mem_of_getLast? hz)
    omega
  refine ⟨chn_app xs _ _ _ _ _ _ h1, fun q hq => ?_, ?_, ?_, ?_, ?_, ?_, fun s hs => ?_, ?_⟩
  · rcases List.mem_append.mp hq with hq | hq
    · have q1 := b1 q hq
      have q2 := b2 q hq
      refine ⟨SI_ag2 (h2 q hq).1 ⟨⟨(kR q.1 7 (by omega)).1, (kR q.1 8 (by omega)).1, fun k hk => hRo q hq k (by omega)⟩, fun k hk => hA q hq k (by omega) (by omega) (by omega), fun p p1 p2 => ⟨(kR p 7 (by dsimp only at p2; omega)).1, (kR p 8 (by dsimp only at p2; omega)).1, fun k => ?_⟩, fun p p1 p2 => ?_, fun m m1 m2 k k1 k2 => ?_⟩ (hRo q hq 12 (by decide)) (hRo q hq 13 (by decide)) (hA q hq 12 (by decide) (by decide) (by decide)) (hA q hq 13 (by decide) (by decide) (by decide)), (hA q hq 14 (by decide) (by decide) (by decide)).trans (h2 q hq).2.1, (hA q hq 15 (by decide) (by decide) (by decide)).trans (h2 q hq).2.2⟩
      · dsimp only at p1 p2
        refine (hR' p k (Or.inr fun z hz => ?_)).trans (kR p k (by omega)).2
        rcases hlast q hq z hz with rfl | g
        · omega
        · omega
      · dsimp only at p1 p2
        have g := fun c => hRL' p c (by omega)
        exact ⟨(kL p 6 (by omega)).1, (kL p 7 (by omega)).1, (g 5).trans (kL p 5 (by omega)).2, (g 8).trans (kL p 8 (by omega)).2⟩
      · have m1 : q.1 + 1 + q.2.1 ≤ m := m1
        have m2 : m < q.2.2.1 + q.2.2.2 := m2
        refine kA k k1 k2 m (by omega) (by omega) (Or.inr fun z hz => ?_)
        show m ≠ z.1 + z.2.1
        rcases hlast q hq z hz with rfl | g
        · omega
        · omega
    · rw [List.mem_singleton.mp hq]
      refine ⟨SI_ag2 hS ⟨⟨rfl, rfl, fun k hk => hR' _ _ (Or.inl (by omega))⟩, fun _ _ => rfl, fun p p1 p2 => ⟨rfl, rfl, fun k => ?_⟩, fun p p1 p2 => ?_, fun _ _ _ _ _ _ => rfl⟩ (hR' _ _ (Or.inl (by decide))) (hR' _ _ (Or.inl (by decide))) rfl rfl, ha14, ha15⟩
      · dsimp only at p1 p2
        exact hR' p k (Or.inr fun z hz => by have := hlnc z hz; omega)
      · dsimp only at p1 p2
        exact ⟨rfl, rfl, hRL' p 5 (by omega), hRL' p 8 (by omega)⟩
  · rw [head_app]
    rcases hx : xs.getLast? with _ | z
    · have hx := List.getLast?_eq_none_iff.mp hx
      rw [(e0 hx).2, hx]; rfl
    · rw [(e1 z hx).2.1, (kL j 5 (by omega)).2, h3]
      obtain ⟨p, t9, rfl⟩ : ∃ p t9, xs = p :: t9 := by
        cases xs with
        | nil => cases hx
        | cons p t9 => exact ⟨p, t9, rfl⟩
      rfl
  · rw [head_app]
    rcases hx : xs.getLast? with _ | z
    · have hx := List.getLast?_eq_none_iff.mp hx
      rw [(e0 hx).1, hx]; rfl
    · rw [(e1 z hx).1, h4]
      obtain ⟨p, t9, rfl⟩ : ∃ p t9, xs = p :: t9 := by
        cases xs with
        | nil => cases hx
        | cons p t9 => exact ⟨p, t9, rfl⟩
      rfl
  · refine lkR_end ((hR' nc 14 (Or.inr fun z hz => by have := hlnc z hz; omega)).trans hr14) xs h5 (chn_nd xs _ _ _ _ h1 b1) (fun q hq hz => ?_) (fun z hz => (e1 z hz).2.2.2)
    have q1 := b1 q hq
    have q2 := b2 q hq
    exact (hR' q.1 14 (Or.inr hz)).trans (kR q.1 14 (by omega)).2
  · refine lkA_end (n := (nc, lc, nc2, lc2)) ha7 xs h6 (chn_ndA xs _ _ _ _ h1 (fun q hq => by have := b1 q hq; omega)) (fun q hq hz => ?_) (fun z hz => (e1 z hz).2.2.1)
    have q1 := b1 q hq
    have q2 := b2 q hq
    exact kA 7 (by decide) (by decide) (xn q) (by show q.1 + q.2.1 < _; omega) (by show q.1 + q.2.1 ≠ _; omega) (Or.inr hz)
  · rw [List.map_append, List.map_append, ← h7]
    congr 1
    · exact List.map_congr_left (fun q hq => hA q hq 4 (by decide) (by decide) (by decide))
    · exact congrArg (fun z => [z]) ha4
  · rcases List.mem_append.mp hs with hs | hs
    · exact h8 s hs
    · rw [List.mem_singleton.mp hs]; exact ht
  · rw [List.map_append, List.map_append, ← h9]
    congr 1
    · exact List.map_congr_left (fun q hq => hRo q hq 6 (by decide))
    · exact congrArg (fun z => [z]) ((hR' nc 6 (Or.inl (by decide))).trans hr6)
theorem st1_c {q c : Nat} (hc : c ≠ 6) : ∀ (its : List Nat) (R : Nat → Nat → Option Nat) (bf : Option Nat), st1 R bf its q c = R q c
  | [], _, _ => rfl
  | i :: t, R, bf => by
    show st1 (if _ then _ else _) _ t q c = _
    rw [st1_c hc t _ _]
    split
    · exact sT_ne (fun z => hc z.2)
    · rfl
theorem st2_c {q c : Nat} (hc : c ≠ 6) : ∀ (its : List Nat) (R : Nat → Nat → Option Nat), st2 R its q c = R q c
  | [], _ => rfl
  | i :: t, R => by
    show st2 (if _ then _ else _) t q c = _
    rw [st2_c hc t _]
    split
    · exact sT_ne (fun z => hc z.2)
    · rfl
/-- a line that is read and settled -/
theorem PLn_end {D i0 j : Nat} {C : Nat → Nat → Int32} {R : Nat → Nat → Option Nat} {CL : Nat → Nat → Int32} {RL : Nat → Nat → Option Nat} {A : Nat → Nat → Int32} {nc lc : Nat} {xs : List XT} {so : List Nat} (h : PLn D i0 j C R CL RL A nc lc xs so) {its : List Nat} (hi : its = xs.map (fun z => z.1)) (hu : A 1 (i0 + j) = 0 ∧ A 10 (i0 + j) = 0 ∧ A 11 (i0 + j) = 0 ∧ A 12 (i0 + j) = 0 ∧ A 13 (i0 + j) = 0) : SL (st2 (st1 R none its) its) RL A (SN C (st2 (st1 R none its) its) CL RL A D) (i0, j, nc, lc) := by
  obtain ⟨b1, b2, b3, b4, b5⟩ := PLn_le h
  obtain ⟨h1, h2, h3, h4, h5, h6, h7, h8, h9⟩ := h
  have hc : ∀ q c, c ≠ 6 → st2 (st1 R none its) its q c = R q c := fun q c hc => (st2_c hc its _).trans (st1_c hc its _ _)
  have hn : ∀ q c, q ∉ its → st2 (st1 R none its) its q c = R q c := fun q c hq => (st2_ne its _ hq).trans (st1_ne its _ _ hq)
  have hdis := chn_dis xs _ _ _ _ h1 (fun q hq => by have := b1 q hq; omega)
  refine ⟨hu, xs, so, h1, fun q hq => ⟨?_, (h2 q hq).2⟩, h3, h4, lkR_ag xs (fun q _ => hc q.1 14 (by decide)) h5, h6, h7, h8, ?_⟩
  · have q1 := b1 q hq
    refine SI_ag2 (h2 q hq).1 ⟨⟨rfl, rfl, fun k hk => hc _ _ (by omega)⟩, fun _ _ => rfl, fun p p1 p2 => ⟨rfl, rfl, fun k => ?_⟩, fun p p1 p2 => ⟨rfl, rfl, rfl, rfl⟩, fun _ _ _ _ _ _ => rfl⟩ (hc _ _ (by decide)) (hc _ _ (by decide)) rfl rfl
    dsimp only at p1 p2
    refine hn p k (fun z => ?_)
    rw [hi] at z
    obtain ⟨r, hr, e⟩ := List.mem_map.mp z
    have r1 := b1 r hr
    rcases hdis q hq r hr with rfl | g | g
    · omega
    · omega
    · omega
  · have g := st_se (its := its) (so := so) (R := R) (by rw [hi]; exact chn_nd xs _ _ _ _ h1 b1) (by rw [hi, List.map_map]; exact h9) h8
    rw [hi, List.map_map] at g
    rw [hi]
    exact g
