/-! Pure: the class's setting against the reference's arrays: matrices. By hand. -/
theorem cpo_len {CL : Nat → Nat → Int32} : ∀ (xs : List XT) (r c : Nat), 8 * r + c ≤ 64 → c ≤ 8 → cpo CL r c xs → xs.length + (8 * r + c) ≤ 64
  | [], r, c, h, _, _ => by rw [List.length_nil]; omega
  | q :: t, r, c, h, h8, g => by
    rw [List.length_cons]
    rcases g.2.2.2.2 with w | w
    · have := cpo_len t r (c + 1) (by have := g.1; have := g.2.1; omega) (by have := g.2.1; omega) w
      omega
    · have := cpo_len t (r + 1) 0 (by have := g.1; omega) (by omega) w
      have := g.2.1
      omega
theorem lf_mLf {W W' : Nat → Int32} {s : Int32} : ∀ c, (∀ j, j < c → W j = W' j) → lfO W s c = mLf W' s c
  | 0, _ => rfl
  | c + 1, h => by
    show lfO W s c + (W c + 4 * s) = mLf W' s c + (W' c + 4 * s)
    rw [lf_mLf c (fun j hj => h j (by omega)), h c (Nat.lt_succ_self c)]
theorem lf_mWd {W W' : Nat → Int32} {s : Int32} : ∀ c, (∀ j, j < c + 1 → W j = W' j) → lfO W s (c + 1) - 4 * s = mWd W' s (c + 1)
  | 0, h => by
    show 0 + (W 0 + 4 * s) - 4 * s = 0 + (W' 0 + (if 0 < 0 then 4 * s else 0))
    rw [h 0 (by decide), if_neg (by decide)]
    grind
  | c + 1, h => by
    have ih := lf_mWd (W := W) (W' := W') (s := s) c (fun j hj => h j (by omega))
    show lfO W s (c + 1) + (W (c + 1) + 4 * s) - 4 * s = mWd W' s (c + 1) + (W' (c + 1) + (if 0 < c + 1 then 4 * s else 0))
    rw [← ih, h (c + 1) (by omega), if_pos (by omega)]
    grind
theorem tp_mAl {H D H' D' : Nat → Int32} {s : Int32} : ∀ c, (∀ j, j < c + 1 → H j = H' j ∧ D j = D' j) → tpO H D s (c + 1) - s = mAl H' D' s (c + 1)
  | 0, h => by
    show 0 + ((H 0 + D 0) + s) - s = 0 + ((H' 0 + D' 0) + (if 0 < 0 then s else 0))
    rw [(h 0 (by decide)).1, (h 0 (by decide)).2, if_neg (by decide)]
    grind
  | c + 1, h => by
    have ih := tp_mAl (H := H) (D := D) (H' := H') (D' := D') (s := s) c (fun j hj => h j (by omega))
    show tpO H D s (c + 1) + ((H (c + 1) + D (c + 1)) + s) - s = mAl H' D' s (c + 1) + ((H' (c + 1) + D' (c + 1)) + (if 0 < c + 1 then s else 0))
    rw [← ih, (h (c + 1) (by omega)).1, (h (c + 1) (by omega)).2, if_pos (by omega)]
    grind
theorem mBs_tp {H D H' D' : Nat → Int32} {s b : Int32} : ∀ r, (∀ j, j < r → H j = H' j ∧ D j = D' j) → mBs H' D' s b r = b - tpO H D s r
  | 0, _ => by show b = b - 0; grind
  | r + 1, h => by
    show mBs H' D' s b r - ((H' r + D' r) + s) = b - (tpO H D s r + ((H r + D r) + s))
    rw [mBs_tp (H := H) (D := D) r (fun j hj => h j (by omega)), (h r (Nat.lt_succ_self r)).1, (h r (Nat.lt_succ_self r)).2]
    grind
theorem cwc_eq {f : Nat → Int32} {co : Nat} (h1 : ∀ j, j < co → ¬ f j < 0) (h2 : co = 8 ∨ f co < 0) (h3 : co ≤ 8) : cwc f 8 0 = co := by
  have g := cwc_ok f 8 0 (fun j hj => absurd hj (Nat.not_lt_zero j))
  rcases Nat.lt_trichotomy (cwc f 8 0) co with w | w | w
  · rcases g.2.2 with z | z
    · omega
    · exact absurd z (h1 _ w)
  · exact w
  · rcases h2 with z | z
    · omega
    · exact absurd z (g.2.1 co w)
def GI (g : GS) (p : MS) (r c : Nat) : Prop := (∀ j, j < 8 → g.2.1 j = p.2.1 j ∧ g.2.2.1 j = p.2.2.1 j) ∧ (∀ j, j < g.2.2.2.2 → g.1 j = p.1 j ∧ 0 ≤ (p.1 j).toInt) ∧ (∀ j, g.2.2.2.2 ≤ j → j < 8 → p.1 j = -1 ∧ g.1 j = 0) ∧ g.2.2.2.1 = p.2.2.2 ∧ g.2.2.2.2 ≤ 8 ∧ c ≤ g.2.2.2.2 ∧ (g.2.2.2.1 = r ∨ g.2.2.2.1 = r + 1) ∧ g.2.2.2.1 ≤ 8
theorem grid_rel {CL0 CLf X : Nat → Nat → Int32} : ∀ (xs : List XT) (r c : Nat) (g : GS) (p : MS), cpo CL0 r c xs → (∀ q ∈ xs, (CLf q.2.1 0 = X 22 (xn q) ∧ CLf q.2.1 1 = X 23 (xn q) ∧ CLf q.2.1 2 = X 24 (xn q)) ∧ (CLf q.2.1 6 = CL0 q.2.1 6 ∧ CLf q.2.1 7 = CL0 q.2.1 7) ∧ (X 8 (xn q) = CL0 q.2.1 6 ∧ X 9 (xn q) = CL0 q.2.1 7) ∧ 0 ≤ (X 22 (xn q)).toInt) → GI g p r c → ∃ r' c', GI ((xs.map (fun z => z.2.1)).foldl (gmS CLf) g) ((xs.map xn).foldl (mcF X) p) r' c' ∧ g.2.2.2.2 ≤ ((xs.map (fun z => z.2.1)).foldl (gmS CLf) g).2.2.2.2 ∧ g.2.2.2.1 ≤ ((xs.map (fun z => z.2.1)).foldl (gmS CLf) g).2.2.2.1 ∧ ∀ q ∈ xs, ixI (CL0 q.2.1 7) < ((xs.map (fun z => z.2.1)).foldl (gmS CLf) g).2.2.2.2 ∧ ixI (CL0 q.2.1 6) < ((xs.map (fun z => z.2.1)).foldl (gmS CLf) g).2.2.2.1
  | [], r, c, g, p, _, _, h => ⟨r, c, h, Nat.le_refl _, Nat.le_refl _, fun q hq => absurd hq List.not_mem_nil⟩
  | q :: t, r, c, g, p, hp, hq, h => by
    obtain ⟨⟨a0, a1, a2⟩, ⟨a6, a7⟩, ⟨b8, b9⟩, hw⟩ := hq q List.mem_cons_self
    obtain ⟨p1, p2, p3, p4, p5⟩ := hp
    obtain ⟨g1, g2, g3, g4, g5, g6, g7, g8⟩ := h
    have er : ixI (CL0 q.2.1 6) = r := by rw [p3]; exact nI_clamp (by omega)
    have ec : ixI (CL0 q.2.1 7) = c := by rw [p4]; exact nI_clamp (by omega)
    obtain ⟨W, H, D, ro, co⟩ := g
    obtain ⟨W', H', D', ro'⟩ := p
    dsimp only at g1 g2 g3 g4 g5 g6 g7 g8
    have eg : gmS CLf (W, H, D, ro, co) q.2.1 = (upd W c (mx (W c) (X 22 (xn q))), upd H r (mx (H r) (X 23 (xn q))), upd D r (mx (D r) (X 24 (xn q))), Nat.max ro (r + 1), Nat.max co (c + 1)) := by
      unfold gmS
      dsimp only
      rw [a6, a7, er, ec, a0, a1, a2]
    have ep : mcF X (W', H', D', ro') (xn q) = (upd W' c (ms (W' c) (X 22 (xn q))), upd H' r (ms (H' r) (X 23 (xn q))), upd D' r (ms (D' r) (X 24 (xn q))), r + 1) := by
      unfold mcF
      dsimp only
      rw [b8, b9, er, ec]
    have ero : Nat.max ro (r + 1) = r + 1 := Nat.max_eq_right (by omega)
    have eco : co ≤ Nat.max co (c + 1) ∧ c + 1 ≤ Nat.max co (c + 1) ∧ Nat.max co (c + 1) ≤ 8 ∧ (Nat.max co (c + 1) = co ∨ (Nat.max co (c + 1) = c + 1 ∧ co = c)) := by
      have e1 : co ≤ Nat.max co (c + 1) := Nat.le_max_left _ _
      have e2 : c + 1 ≤ Nat.max co (c + 1) := Nat.le_max_right _ _
      by_cases z : c + 1 ≤ co
      · have e3 : Nat.max co (c + 1) = co := Nat.max_eq_left z
        omega
      · have e3 : Nat.max co (c + 1) = c + 1 := Nat.max_eq_right (by omega)
        omega
    have z1 : (-1 : Int32).toInt = -1 := by decide
    have z0 : (0 : Int32).toInt = 0 := by decide
    have step : ∀ r2 c2, ((r2 = r ∧ c2 = c + 1) ∨ (r2 = r + 1 ∧ c2 = 0)) → GI (gmS CLf (W, H, D, ro, co) q.2.1) (mcF X (W', H', D', ro') (xn q)) r2 c2 := by
      intro r2 c2 h2
      rw [eg, ep, ero]
      refine ⟨fun j hj => ?_, fun j hj => ?_, fun j hj hj8 => ?_, rfl, eco.2.2.1, ?_, ?_, ?_⟩
      · dsimp only
        have gj := g1 j hj
        by_cases z : j = r
        · subst z
          rw [upd_s, upd_s, upd_s, upd_s, ms_mx, ms_mx, gj.1, gj.2]
          exact ⟨rfl, rfl⟩
        · rw [upd_n z, upd_n z, upd_n z, upd_n z]; exact gj
      · dsimp only at hj ⊢
        by_cases z : j = c
        · subst z
          rw [upd_s, upd_s]
          by_cases zc : j < co
          · have gj := g2 j zc
            rw [ms_mx, gj.1]
            refine ⟨rfl, ?_⟩
            rw [mx_toInt]
            split <;> omega
          · have gj := g3 j (by omega) (by omega)
            rw [gj.1, gj.2, ms_mx]
            refine ⟨?_, ?_⟩
            · apply Int32.toInt_inj.mp
              rw [mx_toInt, mx_toInt, z0, z1]
              (repeat' split) <;> omega
            · rw [mx_toInt, z1]
              split <;> omega
        · rw [upd_n z, upd_n z]
          exact g2 j (by omega)
      · dsimp only at hj ⊢
        rw [upd_n (by omega), upd_n (by omega)]
        exact g3 j (by omega) hj8
      · dsimp only; omega
      · dsimp only; omega
      · dsimp only; omega
    have go : ∀ r2 c2, ((r2 = r ∧ c2 = c + 1) ∨ (r2 = r + 1 ∧ c2 = 0)) → cpo CL0 r2 c2 t → ∃ r' c', GI (((q :: t).map (fun z => z.2.1)).foldl (gmS CLf) (W, H, D, ro, co)) (((q :: t).map xn).foldl (mcF X) (W', H', D', ro')) r' c' ∧ co ≤ (((q :: t).map (fun z => z.2.1)).foldl (gmS CLf) (W, H, D, ro, co)).2.2.2.2 ∧ ro ≤ (((q :: t).map (fun z => z.2.1)).foldl (gmS CLf) (W, H, D, ro, co)).2.2.2.1 ∧ ∀ z ∈ q :: t, ixI (CL0 z.2.1 7) < (((q :: t).map (fun z => z.2.1)).foldl (gmS CLf) (W, H, D, ro, co)).2.2.2.2 ∧ ixI (CL0 z.2.1 6) < (((q :: t).map (fun z => z.2.1)).foldl (gmS CLf) (W, H, D, ro, co)).2.2.2.1 := by
      intro r2 c2 h2 hp2
      obtain ⟨r', c', k1, k2, k3, k4⟩ := grid_rel t r2 c2 (gmS CLf (W, H, D, ro, co) q.2.1) (mcF X (W', H', D', ro') (xn q)) hp2 (fun z hz => hq z (List.mem_cons_of_mem _ hz)) (step r2 c2 h2)
      have e1 : (gmS CLf (W, H, D, ro, co) q.2.1).2.2.2.2 = Nat.max co (c + 1) := by rw [eg]
      have e2 : (gmS CLf (W, H, D, ro, co) q.2.1).2.2.2.1 = r + 1 := by rw [eg]; exact ero
      rw [e1] at k2
      rw [e2] at k3
      rw [List.map_cons, List.map_cons, List.foldl_cons, List.foldl_cons]
      refine ⟨r', c', k1, by omega, by omega, fun z hz => ?_⟩
      rcases List.mem_cons.mp hz with rfl | hz
      · rw [er, ec]; omega
      · exact k4 z hz
    rcases p5 with w | w
    · exact go r (c + 1) (Or.inl ⟨rfl, rfl⟩) w
    · exact go (r + 1) 0 (Or.inr ⟨rfl, rfl⟩) w
section
variable {C0 : Nat → Nat → Int32} {R : Nat → Nat → Option Nat} {CL0 : Nat → Nat → Int32} {RL : Nat → Nat → Option Nat} {B X : Nat → Nat → Int32} {N s0 : Nat}
/-- cells set one behind the other, each as seen from itself -/
def CRq (X F : Nat → Nat → Int32) (G : Nat → Int32) (k : Nat) : Nat → List XT → Nat → Prop
  | c, [], c' => c = c'
  | c, q :: t, c' => (F q.2.1 3 = nI c ∧ F q.2.1 4 = nI (c + (wl X k (xn q)).length)) ∧ (F q.2.1 0 = X 22 (xn q) ∧ F q.2.1 1 = X 23 (xn q) ∧ F q.2.1 2 = X 24 (xn q)) ∧ REL G c (wl X k (xn q)) (X 31 (xn q)) (X 32 (xn q)) ∧ CRq X F G k (c + (wl X k (xn q)).length) t c'
theorem CRq_le {F : Nat → Nat → Int32} {G : Nat → Int32} {k : Nat} : ∀ (xs : List XT) (c c' : Nat), CRq X F G k c xs c' → c ≤ c' ∧ c' = c + ((xs.map xn).flatMap (wl X k)).length
  | [], c, c', h => ⟨Nat.le_of_eq h, by have h : c = c' := h; rw [← h]; rfl⟩
  | q :: t, c, c', h => by
    have g := CRq_le t _ _ h.2.2.2
    rw [List.map_cons, List.flatMap_cons, List.length_append]
    omega
theorem cells_go {d : Nat} (hR : RLd C0 CL0 X B R RL N d) {si cr k : Nat} (hs : si < 4) (hcr : cr < 2) (hk : 3 * d + 2 ≤ k) : ∀ (xs : List XT) (t : TS) (i l i' l' : Nat), chn i l xs i' l' → i' + l' ≤ N → (∀ q ∈ xs, SL R RL B (SN C0 R CL0 RL B d) q ∧ X 20 (xn q) = nI si ∧ X 21 (xn q) = nI cr) → t.1 + 2 * (i' - i) ≤ 120 → tI C0 CL0 t → ∃ t', t' = (xs.map (fun z => z.2.1)).foldl (fun t l => sL R RL d t l si cr) t ∧ EF (i, l, i', l') t t' ∧ tI C0 CL0 t' ∧ t'.1 ≤ t.1 + 2 * (i' - i) ∧ CRq X (tL t') t'.2.1 k t.1 xs t'.1
  | [], t, i, l, i', l', hc, _, _, _, hI => ⟨t, rfl, ⟨Nat.le_refl _, fun _ _ _ => rfl, fun _ _ _ => rfl, fun _ _ => rfl⟩, hI, by omega, rfl⟩
  | q :: xs, t, i, l, i', l', hc, hN, hq, h120, hI => by
    obtain ⟨c1, c2, c3⟩ := hc
    have hle := SN_le (C := C0) (R := R) (CL := CL0) (RL := RL) (A := B) d
    obtain ⟨qS, q20, q21⟩ := hq q List.mem_cons_self
    have ql := SL_le hle qS
    have hlet := chn_le hle xs _ _ _ _ c3 (fun z hz => by have := SL_le hle (hq z (List.mem_cons_of_mem _ hz)).1; omega)
    obtain ⟨⟨p1, p2, p3, p4, p5⟩, p6, p9, p10⟩ := hR q t si cr k qS (by omega) q20 hs q21 hcr hk (by omega) hI
    obtain ⟨t1, ht1⟩ : ∃ z, z = sL R RL d t q.2.1 si cr := ⟨_, rfl⟩
    rw [← ht1] at p1 p3 p4 p5 p6 p9 p10
    obtain ⟨t', e', E', I', n', K'⟩ := cells_go hR hs hcr hk xs t1 q.2.2.1 q.2.2.2 i' l' c3 hN (fun z hz => hq z (List.mem_cons_of_mem _ hz)) (by omega) p4
    have row : ∀ j, tL t' q.2.1 j = tL t1 q.2.1 j := fun j => E'.2.2.1 q.2.1 j (by dsimp only; omega)
    refine ⟨t', ?_, EF.trans p3 E' (by dsimp only; omega) (by dsimp only; omega) (by dsimp only; omega) (by dsimp only; omega), I', by omega, ⟨?_, ?_⟩, ⟨?_, ?_, ?_⟩, ?_, ?_⟩
    · rw [e', ht1]; rfl
    · rw [row 3]; exact p9
    · rw [row 4, p10, p1]
    · rw [row 0]; exact p6.1
    · rw [row 1]; exact p6.2.1
    · rw [row 2]; exact p6.2.2
    · refine REL_ag p5 (fun p h1 h2 => E'.2.2.2 p (by omega))
    · rw [← p1]; exact K'
/-- then each is moved to its place -/
theorem cells_mv {F : Nat → Nat → Int32} {G0 : Nat → Int32} {k : Nat} {rx ry : Nat → Int32} {bx bY : Int32} : ∀ (xs : List XT) (G : Nat → Int32) (c c' : Nat), c' ≤ 120 → CRq X F G0 k c xs c' → (∀ p, c ≤ p → p < c' → getP G p = getP G0 p) → (∀ q ∈ xs, X 31 (xn q) = bx + rx q.2.1 ∧ X 32 (xn q) = bY + ry q.2.1) → REL ((xs.map (fun z => z.2.1)).foldl (fun G l => mvN G F l (rx l) (ry l)) G) c ((xs.map xn).flatMap (wl X k)) bx bY ∧ ∀ p, (p < c ∨ c' ≤ p) → getP ((xs.map (fun z => z.2.1)).foldl (fun G l => mvN G F l (rx l) (ry l)) G) p = getP G p
  | [], G, c, c', _, _, _, _ => ⟨REL_0, fun _ _ => rfl⟩
  | q :: xs, G, c, c', h120, h, hG, hxy => by
    obtain ⟨⟨h3, h4⟩, -, hr, ht⟩ := h
    have hle := CRq_le xs _ _ ht
    obtain ⟨x1, x2⟩ := hxy q List.mem_cons_self
    have e3 : ixI (F q.2.1 3) = c := by rw [h3]; exact nI_clamp (by omega)
    have e4 : ixI (F q.2.1 4) = c + (wl X k (xn q)).length := by rw [h4]; exact nI_clamp (by omega)
    obtain ⟨G1, hG1⟩ : ∃ z, z = mvN G F q.2.1 (rx q.2.1) (ry q.2.1) := ⟨_, rfl⟩
    have g1 : ∀ p, ¬ (c ≤ p ∧ p < c + (wl X k (xn q)).length) → getP G1 p = getP G p := fun p hp => by
      rw [hG1]; unfold mvN; rw [getP_mv, e3, e4, if_neg hp]
    obtain ⟨k1, k2⟩ := cells_mv xs G1 (c + (wl X k (xn q)).length) c' h120 ht (fun p hp1 hp2 => by rw [g1 p (by omega)]; exact hG p (by omega) hp2) (fun z hz => hxy z (List.mem_cons_of_mem _ hz))
    rw [List.map_cons, List.map_cons, List.foldl_cons, List.flatMap_cons, ← hG1]
    refine ⟨REL_app ?_ k1, fun p hp => ?_⟩
    · have a := REL_ag hr (F' := G) (fun p hp1 hp2 => hG p hp1 (by omega))
      have b := REL_mv0 (a := c) (e := c + (wl X k (xn q)).length) (r := rx q.2.1) (u := ry q.2.1) a (Nat.le_refl _) (Nat.le_refl _) x1 x2
      refine REL_ag b (fun p hp1 hp2 => ?_)
      rw [k2 p (by omega), hG1]; unfold mvN; rw [e3, e4]
    · rw [k2 p (by omega), g1 p (by omega)]
end
