/-! Pure: the reference's walk says the pieces of a tree in order. By hand. -/
abbrev PT : Type := Int32 × Int32 × Int32 × Int32 × Int32 × Int32
def wr6 (f : Nat → Int32) (P : Nat) (t : PT) : Nat → Int32 := upd (upd (upd (upd (upd (upd f (6 * P) t.1) (6 * P + 1) t.2.1) (6 * P + 2) t.2.2.1) (6 * P + 3) t.2.2.2.1) (6 * P + 4) t.2.2.2.2.1) (6 * P + 5) t.2.2.2.2.2
def putL (f : Nat → Int32) (P : Nat) : List PT → Nat → Int32
  | [] => f
  | t :: l => putL (wr6 f P t) (P + 1) l
theorem putL_app : ∀ (a b : List PT) (f : Nat → Int32) (P : Nat), putL f P (a ++ b) = putL (putL f P a) (P + a.length) b
  | [], b, f, P => rfl
  | t :: a, b, f, P => by
    show putL (wr6 f P t) (P + 1) (a ++ b) = _
    rw [putL_app a b, List.length_cons, show P + (a.length + 1) = P + 1 + a.length by omega]
    rfl
def sayB (X : Nat → Nat → Int32) (n s : Nat) : List PT :=
  if X 1 n = 1 then [(0, X 2 n, X 31 n + X 28 n, X 32 n, yS s, X 22 n)]
  else if X 1 n = 2 then [(0, X 2 n, X 31 n + X 28 n, X 32 n + X 35 n, opS s, X 22 n)]
  else if X 1 n = 5 then [(2, 35, X 31 n + X 28 n, X 32 n + X 35 n, X 34 n, 5 * yS s), (1, 0, X 31 n + X 28 n + 5 * yS s, X 32 n + X 23 n - yT s, yT s, X 22 n - 5 * yS s)]
  else if X 1 n = 8 then (if X 2 n = 46 then [] else [(2, X 2 n, X 31 n + X 28 n, X 32 n + X 35 n, X 34 n, 4 * yS s)])
  else []
def sayH (X : Nat → Nat → Int32) (n s : Nat) : List PT :=
  if X 1 n = 4 then [(1, 0, X 31 n + X 28 n, X 32 n + X 35 n, yT s, X 22 n)]
  else if X 1 n = 6 then [(0, 94, X 31 n + X 28 n + (X 22 n - sgW 94 (yS s)) / 2, X 32 n + X 35 n, yS s, sgW 94 (yS s))]
  else if X 1 n = 7 then [(1, 0, X 31 n + X 28 n, X 32 n + X 35 n, yT s, X 22 n)]
  else if X 1 n = 8 then (if X 3 n = 46 then [] else [(2, X 3 n, X 31 n + X 28 n + X 22 n - 4 * yS s, X 32 n + X 35 n, X 34 n, 4 * yS s)])
  else []
def wl (X : Nat → Nat → Int32) : Nat → Nat → List PT
  | 0, _ => []
  | k + 1, n => (if X 1 n = 0 ∨ X 1 n = 9 then (chN X n).flatMap (wl X k) else sayB X n (ixI (X 20 n)) ++ (if ixI (X 10 n) = 0 then [] else wl X k (ixI (X 10 n))) ++ sayH X n (ixI (X 20 n)) ++ (if ixI (X 11 n) = 0 then [] else wl X k (ixI (X 11 n)))) ++ (if ixI (X 12 n) = 0 then [] else wl X k (ixI (X 12 n))) ++ (if ixI (X 13 n) = 0 then [] else wl X k (ixI (X 13 n)))
theorem up2_2 {A : Nat → Nat → Int32} {k : Nat} {f g : Nat → Int32} : up2 (up2 A k f) k g = up2 A k g := by
  funext j; unfold up2; split
  · rfl
  · rfl
theorem say_w {A : Nat → Nat → Int32} {P : Nat} {v0 v1 v2 v3 v4 v5 : Int32} : rf_say A P v0 v1 v2 v3 v4 v5 = up2 A 41 (wr6 (A 41) P (v0, v1, v2, v3, v4, v5)) := by
  unfold rf_say
  rw [up2_2, up2_2, up2_2, up2_2, up2_2]
  rfl
theorem up2_i {A : Nat → Nat → Int32} : up2 A 41 (A 41) = A := by
  funext j; unfold up2; split
  · next e => rw [e]
  · rfl
theorem up2_s {A : Nat → Nat → Int32} {k : Nat} {f : Nat → Int32} : up2 A k f k = f := if_pos rfl
theorem up2_n {A : Nat → Nat → Int32} {k j : Nat} {f : Nat → Int32} (h : j ≠ k) : up2 A k f j = A j := if_neg h
theorem sb_w {A : Nat → Nat → Int32} {n s P : Nat} : rf_sb A n s P = (up2 A 41 (putL (A 41) P (sayB A n s)), P + (sayB A n s).length) := by
  unfold rf_sb sayB opS
  by_cases c1 : A 1 n = 1
  · rw [if_pos c1, if_pos c1, say_w]; rfl
  · rw [if_neg c1, if_neg c1]
    by_cases c2 : A 1 n = 2
    · rw [if_pos c2, if_pos c2]
      by_cases c0 : s = 0
      · rw [if_pos c0, if_pos c0, say_w]; rfl
      · rw [if_neg c0, if_neg c0, say_w]; rfl
    · rw [if_neg c2, if_neg c2]
      by_cases c5 : A 1 n = 5
      · rw [if_pos c5, if_pos c5, say_w, say_w, up2_2, up2_s]; rfl
      · rw [if_neg c5, if_neg c5]
        by_cases c8 : A 1 n = 8
        · rw [if_pos c8, if_pos c8]
          by_cases c : A 2 n = 46
          · rw [if_pos c, if_pos c]
            show (A, P) = (up2 A 41 (A 41), P + 0)
            rw [up2_i]; rfl
          · rw [if_neg c, if_neg c, say_w]; rfl
        · rw [if_neg c8, if_neg c8]
          show (A, P) = (up2 A 41 (A 41), P + 0)
          rw [up2_i]; rfl
theorem sh_w {A : Nat → Nat → Int32} {n s P : Nat} : rf_sh A n s P = (up2 A 41 (putL (A 41) P (sayH A n s)), P + (sayH A n s).length) := by
  unfold rf_sh sayH
  by_cases c4 : A 1 n = 4
  · rw [if_pos c4, if_pos c4, say_w]; rfl
  · rw [if_neg c4, if_neg c4]
    by_cases c6 : A 1 n = 6
    · rw [if_pos c6, if_pos c6, say_w]; rfl
    · rw [if_neg c6, if_neg c6]
      by_cases c7 : A 1 n = 7
      · rw [if_pos c7, if_pos c7, say_w]; rfl
      · rw [if_neg c7, if_neg c7]
        by_cases c8 : A 1 n = 8
        · rw [if_pos c8, if_pos c8]
          by_cases c : A 3 n = 46
          · rw [if_pos c, if_pos c]
            show (A, P) = (up2 A 41 (A 41), P + 0)
            rw [up2_i]; rfl
          · rw [if_neg c, if_neg c, say_w]; rfl
        · rw [if_neg c8, if_neg c8]
          show (A, P) = (up2 A 41 (A 41), P + 0)
          rw [up2_i]; rfl
def eqW (W X : Nat → Nat → Int32) : Prop := ∀ j, j ≠ 17 → j ≠ 39 → j ≠ 40 → j ≠ 41 → W j = X j
theorem sayB_ag {W X : Nat → Nat → Int32} (h : eqW W X) (n s : Nat) : sayB W n s = sayB X n s := by
  unfold sayB
  rw [h 1 (by decide) (by decide) (by decide) (by decide), h 2 (by decide) (by decide) (by decide) (by decide), h 31 (by decide) (by decide) (by decide) (by decide), h 28 (by decide) (by decide) (by decide) (by decide), h 32 (by decide) (by decide) (by decide) (by decide), h 22 (by decide) (by decide) (by decide) (by decide), h 23 (by decide) (by decide) (by decide) (by decide), h 34 (by decide) (by decide) (by decide) (by decide), h 35 (by decide) (by decide) (by decide) (by decide)]
theorem sayH_ag {W X : Nat → Nat → Int32} (h : eqW W X) (n s : Nat) : sayH W n s = sayH X n s := by
  unfold sayH
  rw [h 1 (by decide) (by decide) (by decide) (by decide), h 3 (by decide) (by decide) (by decide) (by decide), h 31 (by decide) (by decide) (by decide) (by decide), h 28 (by decide) (by decide) (by decide) (by decide), h 32 (by decide) (by decide) (by decide) (by decide), h 22 (by decide) (by decide) (by decide) (by decide), h 34 (by decide) (by decide) (by decide) (by decide), h 35 (by decide) (by decide) (by decide) (by decide)]
abbrev WZ : Type := (Nat → Nat → Int32) × Nat × Nat
def WK (z y : WZ) : Prop := ∃ K, wkI K z = y ∧ ∀ i, i < K → okW (wkI i z)
theorem WK.refl (z : WZ) : WK z z := ⟨0, rfl, fun i hi => absurd hi (Nat.not_lt_zero i)⟩
theorem wkI_add : ∀ (a b : Nat) (z : WZ), wkI (a + b) z = wkI b (wkI a z)
  | 0, b, z => by rw [Nat.zero_add]; rfl
  | a + 1, b, z => by rw [show a + 1 + b = a + b + 1 by omega]; exact wkI_add a b (wkN z)
theorem WK.trans {x y z : WZ} (h : WK x y) (g : WK y z) : WK x z := by
  obtain ⟨a, h1, h2⟩ := h
  obtain ⟨b, g1, g2⟩ := g
  refine ⟨a + b, by rw [wkI_add, h1, g1], fun i hi => ?_⟩
  by_cases c : i < a
  · exact h2 i c
  · have e : i = a + (i - a) := by omega
    rw [e, wkI_add, h1]
    exact g2 _ (by omega)
theorem WK.step {z : WZ} (h : okW z) : WK z (wkN z) := ⟨1, rfl, fun i hi => by rw [show i = 0 by omega]; exact h⟩
/-- what is known of the arrays that are walked -/
def okX (X : Nat → Nat → Int32) (N : Nat) : Prop := (N ≤ 400 ∧ X 7 0 = 0) ∧ ∀ n, n < N → okm (X 20 n) 4 ∧ okm (X 10 n) N ∧ okm (X 11 n) N ∧ okm (X 12 n) N ∧ okm (X 13 n) N ∧ (X 6 n = nI (hdz (chN X n)) ∧ nxA (X 7) (chN X n)) ∧ ∀ c ∈ chN X n, c < 400
def fr (W : Nat → Nat → Int32) (T n sp cu : Nat) : Prop := W 17 T = nI n ∧ W 39 T = nI sp ∧ W 40 T = nI cu
theorem okm_n {k m : Nat} (h : k < m) (hm : m ≤ 400) : okm (nI k) m := by
  have e : ixI (nI k) = k := nI_clamp (by omega)
  exact ⟨by rw [e], by rw [e]; exact h⟩
theorem wk_go {X W : Nat → Nat → Int32} {N T P n sp cu nx : Nat} (hX : okX X N) (hW : eqW W X) (hf : fr W T n sp cu) (hn : n < N) (hsp : sp < 5) (hcu : cu < 400) (hnx : X 7 cu = nI nx) (hnx4 : nx < 400) (hT : T < 39) (hP : P < 240) : WK (W, T + 1, P) (rf_wk W T n (ixI (X 20 n)) sp cu (hdz (chN X n)) nx (ixI (X 10 n)) (ixI (X 11 n)) (ixI (X 12 n)) (ixI (X 13 n)) P) := by
  obtain ⟨⟨hN, -⟩, hX⟩ := hX
  obtain ⟨k20, k10, k11, k12, k13, ⟨k6, k7⟩, kc⟩ := hX n hn
  obtain ⟨f17, f39, f40⟩ := hf
  have e17 : ixI (W 17 T) = n := by rw [f17]; exact nI_clamp (by omega)
  have e39 : ixI (W 39 T) = sp := by rw [f39]; exact nI_clamp (by omega)
  have e40 : ixI (W 40 T) = cu := by rw [f40]; exact nI_clamp (by omega)
  have w20 : W 20 = X 20 := hW 20 (by decide) (by decide) (by decide) (by decide)
  have w6 : W 6 = X 6 := hW 6 (by decide) (by decide) (by decide) (by decide)
  have w7 : W 7 = X 7 := hW 7 (by decide) (by decide) (by decide) (by decide)
  have w10 : W 10 = X 10 := hW 10 (by decide) (by decide) (by decide) (by decide)
  have w11 : W 11 = X 11 := hW 11 (by decide) (by decide) (by decide) (by decide)
  have w12 : W 12 = X 12 := hW 12 (by decide) (by decide) (by decide) (by decide)
  have w13 : W 13 = X 13 := hW 13 (by decide) (by decide) (by decide) (by decide)
  have hh4 : hdz (chN X n) < 400 := by
    unfold hdz
    cases hc : chN X n with
    | nil => decide
    | cons c t => exact kc c (by rw [hc]; exact List.mem_cons_self)
  have e6 : ixI (X 6 n) = hdz (chN X n) := by rw [k6]; exact nI_clamp (by omega)
  have e7 : ixI (X 7 cu) = nx := by rw [hnx]; exact nI_clamp (by omega)
  have ok : okW (W, T + 1, P) := by
    refine ⟨⟨Nat.succ_pos T, show T + 1 < 40 by omega, hP⟩, ?_, ?_, ?_, ?_, ?_, ?_, ?_, ?_, ?_, ?_⟩
    · show okm (W 17 T) 400; rw [f17]; exact okm_n (by omega) (Nat.le_refl _)
    · show okm (W 39 T) 5; rw [f39]; exact okm_n hsp (by decide)
    · show okm (W 40 T) 400; rw [f40]; exact okm_n hcu (Nat.le_refl _)
    · show okm (W 20 (ixI (W 17 T))) 4; rw [e17, w20]; exact k20
    · show okm (W 6 (ixI (W 17 T))) 400; rw [e17, w6, k6]; exact okm_n hh4 (Nat.le_refl _)
    · show okm (W 7 (ixI (W 40 T))) 400; rw [e40, w7, hnx]; exact okm_n hnx4 (Nat.le_refl _)
    · show okm (W 10 (ixI (W 17 T))) 400; rw [e17, w10]; exact okm_w k10 hN
    · show okm (W 11 (ixI (W 17 T))) 400; rw [e17, w11]; exact okm_w k11 hN
    · show okm (W 12 (ixI (W 17 T))) 400; rw [e17, w12]; exact okm_w k12 hN
    · show okm (W 13 (ixI (W 17 T))) 400; rw [e17, w13]; exact okm_w k13 hN
  have e : wkN (W, T + 1, P) = rf_wk W T n (ixI (X 20 n)) sp cu (hdz (chN X n)) nx (ixI (X 10 n)) (ixI (X 11 n)) (ixI (X 12 n)) (ixI (X 13 n)) P := by
    show rf_wk W T (ixI (W 17 T)) (ixI (W 20 (ixI (W 17 T)))) (ixI (W 39 T)) (ixI (W 40 T)) (ixI (W 6 (ixI (W 17 T)))) (ixI (W 7 (ixI (W 40 T)))) (ixI (W 10 (ixI (W 17 T)))) (ixI (W 11 (ixI (W 17 T)))) (ixI (W 12 (ixI (W 17 T)))) (ixI (W 13 (ixI (W 17 T)))) P = _
    rw [e17, e39, e40, w20, w6, w7, w10, w11, w12, w13, e6, e7]
  rw [← e]
  exact WK.step ok
/-- a walk from node c, k levels -/
def SUB (X : Nat → Nat → Int32) (k c : Nat) : Prop := ∀ (W : Nat → Nat → Int32) (T P : Nat), eqW W X → fr W T c 0 0 → T + k < 39 → P + (wl X k c).length < 240 → ∃ W', WK (W, T + 1, P) (W', T, P + (wl X k c).length) ∧ eqW W' X ∧ W' 41 = putL (W 41) P (wl X k c) ∧ ∀ j, j < T → W' 17 j = W 17 j ∧ W' 39 j = W 39 j ∧ W' 40 j = W 40 j
theorem ent_f {V : Nat → Nat → Int32} {O : Nat} {v : Int32} : (rf_ent V O v 17 O = v ∧ rf_ent V O v 39 O = 0 ∧ rf_ent V O v 40 O = 0) ∧ (∀ j, j ≠ O → rf_ent V O v 17 j = V 17 j ∧ rf_ent V O v 39 j = V 39 j ∧ rf_ent V O v 40 j = V 40 j) ∧ ∀ k, k ≠ 17 → k ≠ 39 → k ≠ 40 → rf_ent V O v k = V k := by
  refine ⟨⟨upd_s, upd_s, upd_s⟩, fun j hj => ⟨upd_n hj, upd_n hj, upd_n hj⟩, fun k h1 h2 h3 => ?_⟩
  unfold rf_ent up2
  rw [if_neg h3, if_neg h2, if_neg h1]
/-- a part is walked, if there is one; V: the arrays with the frame's step already written -/
theorem part_go {X V : Nat → Nat → Int32} {k T P n sp cu c : Nat} (hV : eqW V X) (hf : fr V T n sp cu) (hT : T + 1 + k < 39) (hP : P + (if c = 0 then ([] : List PT) else wl X k c).length < 240) (hS : c ≠ 0 → SUB X k c) : ∃ W', WK (if c = 0 then (V, T + 1, P) else (rf_ent V (T + 1) (nI c), T + 1 + 1, P)) (W', T + 1, P + (if c = 0 then ([] : List PT) else wl X k c).length) ∧ eqW W' X ∧ W' 41 = putL (V 41) P (if c = 0 then [] else wl X k c) ∧ fr W' T n sp cu ∧ ∀ j, j < T → W' 17 j = V 17 j ∧ W' 39 j = V 39 j ∧ W' 40 j = V 40 j := by
  by_cases c0 : c = 0
  · rw [if_pos c0, if_pos c0]
    exact ⟨V, WK.refl _, hV, rfl, hf, fun _ _ => ⟨rfl, rfl, rfl⟩⟩
  · rw [if_neg c0] at hP ⊢
    rw [if_neg c0]
    obtain ⟨e1, e2, e3⟩ := ent_f (V := V) (O := T + 1) (v := nI c)
    obtain ⟨W', w1, w2, w3, w4⟩ := hS c0 (rf_ent V (T + 1) (nI c)) (T + 1) P (fun j a b c d => (e3 j a b c).trans (hV j a b c d)) e1 hT hP
    refine ⟨W', w1, w2, ?_, ?_, fun j hj => ?_⟩
    · rw [w3, e3 41 (by decide) (by decide) (by decide)]
    · have q := w4 T (Nat.lt_succ_self T)
      have r := e2 T (by omega)
      exact ⟨q.1.trans (r.1.trans hf.1), q.2.1.trans (r.2.1.trans hf.2.1), q.2.2.trans (r.2.2.trans hf.2.2)⟩
    · have q := w4 j (by omega)
      have r := e2 j (by omega)
      exact ⟨q.1.trans r.1, q.2.1.trans r.2.1, q.2.2.trans r.2.2⟩
/-- the frame's step is written -/
theorem set39 {X W : Nat → Nat → Int32} {T n sp cu sp' : Nat} {v : Int32} (hW : eqW W X) (hf : fr W T n sp cu) (hv : v = nI sp') : eqW (up2 W 39 (upd (W 39) T v)) X ∧ fr (up2 W 39 (upd (W 39) T v)) T n sp' cu ∧ up2 W 39 (upd (W 39) T v) 41 = W 41 ∧ ∀ j, j < T → up2 W 39 (upd (W 39) T v) 17 j = W 17 j ∧ up2 W 39 (upd (W 39) T v) 39 j = W 39 j ∧ up2 W 39 (upd (W 39) T v) 40 j = W 40 j := by
  refine ⟨fun j a b c d => (up2_n b).trans (hW j a b c d), ⟨hf.1, ?_, hf.2.2⟩, rfl, fun j hj => ⟨rfl, upd_n (by omega), rfl⟩⟩
  show upd (W 39) T v T = _
  rw [upd_s, hv]
/-- the scripts of a node, and its end -/
theorem scr_go {X W : Nat → Nat → Int32} {N k T P n cu : Nat} (hX : okX X N) (hW : eqW W X) (hf : fr W T n 2 cu) (hn : n < N) (hcu : ∃ nx, X 7 cu = nI nx ∧ nx < 400 ∧ cu < 400) (hT : T + (k + 1) < 39) (hP : P + ((if ixI (X 12 n) = 0 then ([] : List PT) else wl X k (ixI (X 12 n))) ++ (if ixI (X 13 n) = 0 then ([] : List PT) else wl X k (ixI (X 13 n)))).length < 240) (h12 : ixI (X 12 n) ≠ 0 → SUB X k (ixI (X 12 n))) (h13 : ixI (X 13 n) ≠ 0 → SUB X k (ixI (X 13 n))) : ∃ W', WK (W, T + 1, P) (W', T, P + ((if ixI (X 12 n) = 0 then ([] : List PT) else wl X k (ixI (X 12 n))) ++ (if ixI (X 13 n) = 0 then ([] : List PT) else wl X k (ixI (X 13 n)))).length) ∧ eqW W' X ∧ W' 41 = putL (W 41) P ((if ixI (X 12 n) = 0 then ([] : List PT) else wl X k (ixI (X 12 n))) ++ (if ixI (X 13 n) = 0 then ([] : List PT) else wl X k (ixI (X 13 n)))) ∧ ∀ j, j < T → W' 17 j = W 17 j ∧ W' 39 j = W 39 j ∧ W' 40 j = W 40 j := by
  obtain ⟨nx, x1, x2, x3⟩ := hcu
  rw [List.length_append] at hP
  -- step 2
  have r2 := wk_go (P := P) hX hW hf hn (by decide) x3 x1 x2 (by omega) (by omega)
  obtain ⟨v1, v2, v3, v4⟩ := set39 (v := 2 + 1) (sp' := 3) hW hf rfl
  have e2 : rf_wk W T n (ixI (X 20 n)) 2 cu (hdz (chN X n)) nx (ixI (X 10 n)) (ixI (X 11 n)) (ixI (X 12 n)) (ixI (X 13 n)) P = if ixI (X 12 n) = 0 then (up2 W 39 (upd (W 39) T (2 + 1)), T + 1, P) else (rf_ent (up2 W 39 (upd (W 39) T (2 + 1))) (T + 1) (nI (ixI (X 12 n))), T + 1 + 1, P) := by
    unfold rf_wk
    rw [if_neg (by decide), if_neg (by decide), if_pos rfl]
  rw [e2] at r2
  obtain ⟨W3, w1, w2, w3, w4, w5⟩ := part_go (k := k) (P := P) v1 v2 (by omega) (by omega) h12
  -- step 3
  have r3 := wk_go (P := P + (if ixI (X 12 n) = 0 then ([] : List PT) else wl X k (ixI (X 12 n))).length) hX w2 w4 hn (by decide) x3 x1 x2 (by omega) (by omega)
  obtain ⟨y1, y2, y3, y4⟩ := set39 (v := 3 + 1) (sp' := 4) w2 w4 rfl
  have e3 : ∀ Q, rf_wk W3 T n (ixI (X 20 n)) 3 cu (hdz (chN X n)) nx (ixI (X 10 n)) (ixI (X 11 n)) (ixI (X 12 n)) (ixI (X 13 n)) Q = if ixI (X 13 n) = 0 then (up2 W3 39 (upd (W3 39) T (3 + 1)), T + 1, Q) else (rf_ent (up2 W3 39 (upd (W3 39) T (3 + 1))) (T + 1) (nI (ixI (X 13 n))), T + 1 + 1, Q) := fun Q => by
    unfold rf_wk
    rw [if_neg (by decide), if_neg (by decide), if_neg (by decide), if_pos rfl]
  rw [e3] at r3
  obtain ⟨W4, z1, z2, z3, z4, z5⟩ := part_go (k := k) (P := P + (if ixI (X 12 n) = 0 then ([] : List PT) else wl X k (ixI (X 12 n))).length) y1 y2 (by omega) (by omega) h13
  -- step 4
  have r4 := wk_go (P := P + (if ixI (X 12 n) = 0 then ([] : List PT) else wl X k (ixI (X 12 n))).length + (if ixI (X 13 n) = 0 then ([] : List PT) else wl X k (ixI (X 13 n))).length) hX z2 z4 hn (by decide) x3 x1 x2 (by omega) (by omega)
  have e4 : ∀ Q, rf_wk W4 T n (ixI (X 20 n)) 4 cu (hdz (chN X n)) nx (ixI (X 10 n)) (ixI (X 11 n)) (ixI (X 12 n)) (ixI (X 13 n)) Q = (up2 W4 39 (upd (W4 39) T (4 + 1)), T, Q) := fun Q => by
    unfold rf_wk
    rw [if_neg (by decide), if_neg (by decide), if_neg (by decide), if_neg (by decide)]
  rw [e4] at r4
  obtain ⟨u1, u2, u3, u4⟩ := set39 (v := 4 + 1) (sp' := 5) z2 z4 rfl
  refine ⟨up2 W4 39 (upd (W4 39) T (4 + 1)), ?_, u1, ?_, fun j hj => ?_⟩
  · have r := ((((r2.trans w1).trans r3).trans z1).trans r4)
    rw [List.length_append, ← Nat.add_assoc]
    exact r
  · rw [u3, z3, y3, w3, v3, ← putL_app]
  · have a := u4 j hj
    have b := z5 j hj
    have c := y4 j hj
    have d := w5 j hj
    have e := v4 j hj
    exact ⟨a.1.trans (b.1.trans (c.1.trans (d.1.trans e.1))), a.2.1.trans (b.2.1.trans (c.2.1.trans (d.2.1.trans e.2.1))), a.2.2.trans (b.2.2.trans (c.2.2.trans (d.2.2.trans e.2.2)))⟩
