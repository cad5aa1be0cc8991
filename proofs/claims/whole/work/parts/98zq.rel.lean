/-! Pure: the class's setting against the reference's arrays: what is to be shown, and signs. By hand. -/
abbrev tC (t : TS) : Nat → Nat → Int32 := t.2.2.2.2.2.2.2.1
abbrev tL (t : TS) : Nat → Nat → Int32 := t.2.2.2.2.2.2.2.2
def tI (C0 CL0 : Nat → Nat → Int32) (t : TS) : Prop := (∀ q k, 5 ≤ k → tC t q k = C0 q k) ∧ ∀ j k, 5 ≤ k → tL t j k = CL0 j k
/-- what may change between t and t' -/
def EF (x : XT) (t t' : TS) : Prop := t.1 ≤ t'.1 ∧ (∀ q k, (q < x.1 ∨ x.2.2.1 ≤ q) → tC t' q k = tC t q k) ∧ (∀ j k, (j < x.2.1 ∨ x.2.2.2 ≤ j) → tL t' j k = tL t j k) ∧ ∀ p, p < t.1 → getP t'.2.1 p = getP t.2.1 p
theorem EF.trans {x y z : XT} {t t' t'' : TS} (h : EF x t t') (g : EF y t' t'') (h1 : z.1 ≤ x.1 ∧ x.2.2.1 ≤ z.2.2.1) (h2 : z.2.1 ≤ x.2.1 ∧ x.2.2.2 ≤ z.2.2.2) (h3 : z.1 ≤ y.1 ∧ y.2.2.1 ≤ z.2.2.1) (h4 : z.2.1 ≤ y.2.1 ∧ y.2.2.2 ≤ z.2.2.2) : EF z t t'' :=
  ⟨Nat.le_trans h.1 g.1, fun q k hq => (g.2.1 q k (by omega)).trans (h.2.1 q k (by omega)), fun q k hq => (g.2.2.1 q k (by omega)).trans (h.2.2.1 q k (by omega)), fun p hp => (g.2.2.2 p (by have := h.1; omega)).trans (h.2.2.2 p hp)⟩
/-- pieces l were set between t and t' -/
def RG (C0 CL0 : Nat → Nat → Int32) (x : XT) (t t' : TS) (l : List PT) (bx bY : Int32) : Prop := t'.1 = t.1 + l.length ∧ l.length ≤ 2 * (x.2.2.1 - x.1) ∧ EF x t t' ∧ tI C0 CL0 t' ∧ REL t'.2.1 t.1 l bx bY
def wo (X : Nat → Nat → Int32) (k n : Nat) : List PT := if X 1 n = 0 ∨ X 1 n = 9 then (chN X n).flatMap (wl X k) else sayB X n (ixI (X 20 n)) ++ (if ixI (X 10 n) = 0 then [] else wl X k (ixI (X 10 n))) ++ sayH X n (ixI (X 20 n)) ++ (if ixI (X 11 n) = 0 then [] else wl X k (ixI (X 11 n)))
theorem wl_s {X : Nat → Nat → Int32} {k n : Nat} : wl X (k + 1) n = wo X k n ++ (if ixI (X 12 n) = 0 then [] else wl X k (ixI (X 12 n))) ++ (if ixI (X 13 n) = 0 then [] else wl X k (ixI (X 13 n))) := rfl
/-- a nucleus is set -/
def RN (C0 CL0 X : Nat → Nat → Int32) (k : Nat) (x : XT) (t t' : TS) : Prop := RG C0 CL0 x t t' (wo X k (xn x)) (X 31 (xn x) + X 28 (xn x)) (X 32 (xn x)) ∧ (tC t' x.1 0 = X 22 (xn x) ∧ tC t' x.1 1 = X 23 (xn x) ∧ tC t' x.1 2 = X 24 (xn x)) ∧ tC t' x.1 3 = nI t.1 ∧ tC t' x.1 4 = nI t'.1
/-- a nucleus with its scripts, or a part, is set -/
def RI (C0 CL0 X : Nat → Nat → Int32) (k : Nat) (x : XT) (t t' : TS) : Prop := RG C0 CL0 x t t' (wl X k (xn x)) (X 31 (xn x)) (X 32 (xn x)) ∧ (tC t' x.1 0 = X 25 (xn x) ∧ tC t' x.1 1 = X 26 (xn x) ∧ tC t' x.1 2 = X 27 (xn x)) ∧ tC t' x.1 3 = nI t.1 ∧ tC t' x.1 4 = nI t'.1
/-- a line is set -/
def RLn (C0 CL0 X : Nat → Nat → Int32) (k : Nat) (x : XT) (t t' : TS) : Prop := RG C0 CL0 x t t' (wl X k (xn x)) (X 31 (xn x)) (X 32 (xn x)) ∧ (tL t' x.2.1 0 = X 22 (xn x) ∧ tL t' x.2.1 1 = X 23 (xn x) ∧ tL t' x.2.1 2 = X 24 (xn x)) ∧ tL t' x.2.1 3 = nI t.1 ∧ tL t' x.2.1 4 = nI t'.1
/-- the body of a nucleus is set -/
def RK (C0 CL0 X : Nat → Nat → Int32) (k : Nat) (x : XT) (t t' : TS) : Prop := RG C0 CL0 x t t' (wo X k (xn x)) (X 31 (xn x) + X 28 (xn x)) (X 32 (xn x)) ∧ (tC t' x.1 0 = X 22 (xn x) ∧ tC t' x.1 1 = X 23 (xn x) ∧ tC t' x.1 2 = X 24 (xn x)) ∧ tC t' x.1 3 = tC t x.1 3
def in3 (i : Nat) (t : TS) : TS := (t.1, t.2.1, t.2.2.1, t.2.2.2.1, t.2.2.2.2.1, t.2.2.2.2.2.1, t.2.2.2.2.2.2.1, sT t.2.2.2.2.2.2.2.1 i 3 (nI t.1), t.2.2.2.2.2.2.2.2)
def fin4 (i : Nat) (t2 : TS) : TS := (t2.1, t2.2.1, t2.2.2.1, t2.2.2.2.1, t2.2.2.2.2.1, t2.2.2.2.2.2.1, t2.2.2.2.2.2.2.1, sT t2.2.2.2.2.2.2.2.1 i 4 (nI t2.1), t2.2.2.2.2.2.2.2.2)
theorem sT_5 {C C0 : Nat → Nat → Int32} {i k : Nat} {v : Int32} (h : ∀ q j, 5 ≤ j → C q j = C0 q j) (hk : k < 5) : ∀ q j, 5 ≤ j → sT C i k v q j = C0 q j := fun q j hj => (sT_ne (by omega)).trans (h q j hj)
theorem meas_5 {C C0 : Nat → Nat → Int32} {i : Nat} {a b c : Int32} (h : ∀ q j, 5 ≤ j → C q j = C0 q j) : ∀ q j, 5 ≤ j → meas C i a b c q j = C0 q j := sT_5 (sT_5 (sT_5 h (by decide)) (by decide)) (by decide)
theorem meas_v {C : Nat → Nat → Int32} {i : Nat} {a b c : Int32} : meas C i a b c i 0 = a ∧ meas C i a b c i 1 = b ∧ meas C i a b c i 2 = c ∧ ∀ k, 3 ≤ k → meas C i a b c i k = C i k := by
  unfold meas
  refine ⟨?_, ?_, sT_same, fun k hk => ?_⟩
  · rw [sT_ne (by omega), sT_ne (by omega)]; exact sT_same
  · rw [sT_ne (by omega)]; exact sT_same
  · rw [sT_ne (by omega), sT_ne (by omega), sT_ne (by omega)]
theorem meas_n {C : Nat → Nat → Int32} {i q k : Nat} {a b c : Int32} (h : q ≠ i) : meas C i a b c q k = C q k := by
  unfold meas
  rw [sT_ne (by omega), sT_ne (by omega), sT_ne (by omega)]
theorem in3_I {C0 CL0 : Nat → Nat → Int32} {i : Nat} {t : TS} (h : tI C0 CL0 t) : tI C0 CL0 (in3 i t) := ⟨sT_5 h.1 (by decide), h.2⟩
theorem fin_N {C0 CL0 X : Nat → Nat → Int32} {k : Nat} {x : XT} {t t2 : TS} (hx : x.1 < x.2.2.1) (h : RK C0 CL0 X k x (in3 x.1 t) t2) : RN C0 CL0 X k x t (fin4 x.1 t2) := by
  obtain ⟨⟨g1, g2, g3, g4, g5⟩, h2, h3⟩ := h
  refine ⟨⟨g1, g2, ⟨g3.1, fun q j hq => ?_, g3.2.2.1, g3.2.2.2⟩, ⟨sT_5 g4.1 (by decide), g4.2⟩, g5⟩, ⟨?_, ?_, ?_⟩, ?_, ?_⟩
  · show sT (tC t2) x.1 4 (nI t2.1) q j = tC t q j
    rw [sT_ne (by omega), g3.2.1 q j hq]
    show sT (tC t) x.1 3 (nI t.1) q j = _
    exact sT_ne (by omega)
  · show sT (tC t2) x.1 4 (nI t2.1) x.1 0 = _
    rw [sT_ne (by omega)]; exact h2.1
  · show sT (tC t2) x.1 4 (nI t2.1) x.1 1 = _
    rw [sT_ne (by omega)]; exact h2.2.1
  · show sT (tC t2) x.1 4 (nI t2.1) x.1 2 = _
    rw [sT_ne (by omega)]; exact h2.2.2
  · show sT (tC t2) x.1 4 (nI t2.1) x.1 3 = _
    rw [sT_ne (by omega), h3]
    exact sT_same
  · exact sT_same
theorem rsv_1 {c : Nat} (h : c < 120) : rsv c = c + 1 := if_pos h
theorem neg_add_z (a b : Int32) : a + b + -a = b := by grind
theorem add_neg_z (a : Int32) : a + -a = 0 := by grind
theorem mvP_0 {a b c d e f g : Int32} : mvP (-a) (-b) (c, d, a, b, e, f) = (c, d, 0, 0, e, f) := by
  unfold mvP
  dsimp only
  rw [add_neg_z, add_neg_z]
theorem mvP_y {a b c d e f g : Int32} : mvP (-a) (-b) (c, d, a, b + g, e, f) = (c, d, 0, g, e, f) := by
  unfold mvP
  dsimp only
  rw [add_neg_z, neg_add_z]
theorem mvP_xy {a b c d e f g h : Int32} : mvP (-a) (-b) (c, d, a + h, b + g, e, f) = (c, d, h, g, e, f) := by
  unfold mvP
  dsimp only
  rw [neg_add_z, neg_add_z]
section
variable {C0 : Nat → Nat → Int32} {R : Nat → Nat → Option Nat} {CL0 : Nat → Nat → Int32} {RL : Nat → Nat → Option Nat} {B X : Nat → Nat → Int32} {N s0 : Nat}
/-- a leaf's own pieces -/
theorem wo_leaf {k n : Nat} (hv : X 1 n = 1 ∨ X 1 n = 2) (h10 : X 10 n = 0) (h11 : X 11 n = 0) : wo X k n = sayB X n (ixI (X 20 n)) := by
  unfold wo
  rw [if_neg (by rcases hv with v | v <;> rw [v] <;> decide), h10, h11, if_pos (show ixI 0 = 0 from rfl)]
  have : sayH X n (ixI (X 20 n)) = [] := by
    unfold sayH
    rcases hv with v | v <;> rw [v, if_neg (by decide), if_neg (by decide), if_neg (by decide), if_neg (by decide)]
  rw [this, List.append_nil, List.append_nil, List.append_nil]
theorem k_char {x : XT} {t : TS} {si k : Nat} (hv : X 1 (xn x) = 1) (h10 : X 10 (xn x) = 0) (h11 : X 11 (xn x) = 0) (h2 : X 2 (xn x) = C0 x.1 7) (hs : ixI (X 20 (xn x)) = si) (E : EQ X (xn x)) (hI : tI C0 CL0 t) (hx : x.1 < x.2.2.1) (hc : t.1 + 2 * (x.2.2.1 - x.1) ≤ 120) : RK C0 CL0 X k x t (sChar x.1 si t) := by
  obtain ⟨c, F, W, H, D, ro, co, C, CL⟩ := t
  have hc : c + 2 * (x.2.2.1 - x.1) ≤ 120 := hc
  have E := E.1
  unfold EB at E
  rw [hv, if_neg (by decide), if_pos rfl, hs] at E
  have e7 : C x.1 7 = X 2 (xn x) := by rw [h2]; exact hI.1 x.1 7 (by decide)
  have hwo : wo X k (xn x) = [(0, X 2 (xn x), X 31 (xn x) + X 28 (xn x), X 32 (xn x), yS si, X 22 (xn x))] := by
    rw [wo_leaf (Or.inl hv) h10 h11, hs]
    unfold sayB
    rw [if_pos hv]
  unfold RK RG
  rw [hwo]
  refine ⟨⟨rsv_1 (by omega), by show 1 ≤ _; omega, ⟨?_, fun q j hq => meas_n (by omega), fun _ _ _ => rfl, fun p hp => getP_putn (by have hp : p < c := hp; omega)⟩, ⟨meas_5 hI.1, hI.2⟩, REL_1 ?_⟩, ⟨meas_v.1.trans ?_, meas_v.2.1.trans ?_, meas_v.2.2.1.trans ?_⟩, meas_v.2.2.2 3 (Nat.le_refl _)⟩
  · show c ≤ rsv c
    rw [rsv_1 (by omega)]; omega
  · show getP (putF F c 0 (C x.1 7) 0 0 (yS si) (sgW (C x.1 7) (yS si))) c = _
    rw [getP_put (by omega), mvP_0 (g := 0), e7, E.1]
  · rw [e7]; exact E.1.symm
  · rw [e7]; exact E.2.1.symm
  · rw [e7]; exact E.2.2.symm
theorem k_oper {x : XT} {t : TS} {si k kk : Nat} (hs4 : si < 4) (hkk : 2 ≤ kk ∧ kk ≤ 4) (hv : X 1 (xn x) = 2) (h10 : X 10 (xn x) = 0) (h11 : X 11 (xn x) = 0) (h2 : X 2 (xn x) = C0 x.1 7) (h7 : C0 x.1 7 = kO kk) (hs : ixI (X 20 (xn x)) = si) (E : EQ X (xn x)) (hI : tI C0 CL0 t) (hx : x.1 < x.2.2.1) (hc : t.1 + 2 * (x.2.2.1 - x.1) ≤ 120) : RK C0 CL0 X k x t (sOper x.1 si t) := by
  obtain ⟨c, F, W, H, D, ro, co, C, CL⟩ := t
  have hc : c + 2 * (x.2.2.1 - x.1) ≤ 120 := hc
  have E := E.1
  unfold EB at E
  rw [hv, if_neg (by decide), if_neg (by decide), if_pos rfl, hs] at E
  have e7 : C x.1 7 = X 2 (xn x) := by rw [h2]; exact hI.1 x.1 7 (by decide)
  have hwo : wo X k (xn x) = [(0, X 2 (xn x), X 31 (xn x) + X 28 (xn x), X 32 (xn x) + X 35 (xn x), opS si, X 22 (xn x))] := by
    rw [wo_leaf (Or.inr hv) h10 h11, hs]
    unfold sayB
    rw [if_neg (by rw [hv]; decide), if_pos hv]
  unfold RK RG
  rw [hwo]
  refine ⟨⟨rsv_1 (by omega), by show 1 ≤ _; omega, ⟨?_, fun q j hq => meas_n (by omega), fun _ _ _ => rfl, fun p hp => getP_putn (by have hp : p < c := hp; omega)⟩, ⟨meas_5 hI.1, hI.2⟩, REL_1 ?_⟩, ⟨meas_v.1.trans ?_, meas_v.2.1.trans ?_, meas_v.2.2.1.trans ?_⟩, meas_v.2.2.2 3 (Nat.le_refl _)⟩
  · show c ≤ rsv c
    rw [rsv_1 (by omega)]; omega
  · show getP (putF F c 0 (C x.1 7) 0 (opY si (C x.1 7)) (opS si) (sgW (C x.1 7) (opS si))) c = _
    rw [getP_put (by omega), mvP_y, e7, E.1, E.2.2.2]
  · rw [e7]; exact E.1.symm
  · rw [e7, E.2.1]
    have q := (op_b kk hkk si hs4).2.1
    rw [← h7, ← h2] at q
    apply Int32.toInt_inj.mp
    rw [mx_toInt, show (0 : Int32).toInt = 0 from by decide]
    split <;> omega
  · rw [e7]; exact E.2.2.1.symm
end
