/-! Pure: the class and the reference set the same pieces. By hand. -/
theorem wr6_lo {f : Nat → Int32} {P j : Nat} {t : PT} (h : j < 6 * P) : wr6 f P t j = f j := by
  unfold wr6
  rw [upd_n (by omega), upd_n (by omega), upd_n (by omega), upd_n (by omega), upd_n (by omega), upd_n (by omega)]
theorem putL_lo : ∀ (l : List PT) (f : Nat → Int32) (P j : Nat), j < 6 * P → putL f P l j = f j
  | [], _, _, _, _ => rfl
  | t :: l, f, P, j, h => by
    show putL (wr6 f P t) (P + 1) l j = _
    rw [putL_lo l _ _ _ (by omega), wr6_lo h]
theorem getP_wr6 {f : Nat → Int32} {P : Nat} {t : PT} : getP (wr6 f P t) P = t := by
  unfold getP wr6
  rw [show P * 6 = 6 * P by omega]
  simp [upd]
theorem putL_pcs : ∀ (l : List PT) (f : Nat → Int32) (P : Nat), pcs (putL f P l) P l.length = l
  | [], _, _ => rfl
  | t :: l, f, P => by
    show getP (putL (wr6 f P t) (P + 1) l) P :: pcs (putL (wr6 f P t) (P + 1) l) (P + 1) l.length = _
    rw [putL_pcs l]
    have e : getP (putL (wr6 f P t) (P + 1) l) P = getP (wr6 f P t) P := by
      unfold getP
      rw [putL_lo l _ _ _ (by omega), putL_lo l _ _ _ (by omega), putL_lo l _ _ _ (by omega), putL_lo l _ _ _ (by omega), putL_lo l _ _ _ (by omega), putL_lo l _ _ _ (by omega)]
    rw [e, getP_wr6]
theorem pcs_get {F F' : Nat → Int32} : ∀ (n c : Nat), pcs F c n = pcs F' c n → ∀ j, 6 * c ≤ j → j < 6 * (c + n) → F j = F' j
  | 0, _, _, _, h1, h2 => by omega
  | n + 1, c, h, j, h1, h2 => by
    have h : getP F c :: pcs F (c + 1) n = getP F' c :: pcs F' (c + 1) n := h
    injection h with g1 g2
    by_cases w : j < 6 * (c + 1)
    · unfold getP at g1
      injection g1 with a0 g1
      injection g1 with a1 g1
      injection g1 with a2 g1
      injection g1 with a3 g1
      injection g1 with a4 a5
      rcases (by omega : j = c * 6 ∨ j = c * 6 + 1 ∨ j = c * 6 + 2 ∨ j = c * 6 + 3 ∨ j = c * 6 + 4 ∨ j = c * 6 + 5) with e | e | e | e | e | e <;> rw [e] <;> assumption
    · exact pcs_get n (c + 1) g2 j (by omega) (by omega)
theorem nxA_lt {f : Nat → Int32} : ∀ (t : List Nat), nxA f t → ∀ c ∈ t, c < 400
  | [], _, _, hc => absurd hc List.not_mem_nil
  | a :: t, h, c, hc => by
    rcases List.mem_cons.mp hc with rfl | hc
    · exact h.1.2
    · exact nxA_lt t h.2.2 c hc
theorem mvP_z (l : List PT) : l.map (mvP (-0) (-0)) = l := by
  have e : mvP (-0) (-0) = id := by
    funext t
    unfold mvP
    rw [show (-0 : Int32) = 0 from by decide, Int32.add_zero, Int32.add_zero]
    rfl
  rw [e, List.map_id]
theorem okX_of {X B : Nat → Nat → Int32} {N s0 : Nat} (hN : N ≤ 221) (h70 : B 7 0 = 0) (hND : ∀ n, n < N → ND B N n) (hF : FINX X B N s0) : okX X N := by
  obtain ⟨h19, h2, -, -⟩ := hF
  refine ⟨⟨by omega, by rw [h19 7 (by decide)]; exact h70⟩, fun n hn => ?_⟩
  obtain ⟨⟨k12, k13, k10, k11⟩, ⟨k6, k7⟩, -⟩ := hND n hn
  rw [(kdN_ag h19).2.2, h19 10 (by decide), h19 11 (by decide), h19 12 (by decide), h19 13 (by decide), h19 6 (by decide), h19 7 (by decide)]
  exact ⟨(h2 n hn).1, k10, k11, k12, k13, ⟨k6, k7⟩, nxA_lt _ k7⟩
theorem set_eq {C : Nat → Nat → Int32} {R : Nat → Nat → Option Nat} {CL : Nat → Nat → Int32} {RL : Nat → Nat → Option Nat} {B : Nat → Nat → Int32} {nc lc s0 : Nat} (hs0 : s0 < 4) (hSL : SL R RL B (SN C R CL RL B 7) (0, 0, nc, lc)) (hn : nc ≤ 60) (hl : lc ≤ 161) (h7 : B 7 0 = 0 ∧ B 14 0 = 0 ∧ B 15 0 = 0) (t0 tf : TS) (ht0 : t0.1 = 0) (htC : tC t0 = C) (htL : tL t0 = CL) (htf : tf = sL R RL 7 t0 0 s0 0) :
    1 ≤ nc + lc ∧ (∀ k, k < nc + lc → okH (hdF (rf_a1 B s0) k) k) ∧ (∀ j, j < nc + lc → okMN (meF (nc + lc) (hdF (rf_a1 B s0) (nc + lc)) j) (nc + lc - 1 - j)) ∧ (∀ q, q < nc + lc → okm (rf_a2 B (nc + lc) s0 14 q) 400) ∧ (tf.1 ≤ 120 ∧ tL tf 0 0 = rf_a3 B (nc + lc) s0 22 0 ∧ tL tf 0 1 = rf_a3 B (nc + lc) s0 23 0 ∧ tL tf 0 2 = rf_a3 B (nc + lc) s0 24 0) ∧ ∃ (K : Nat) (W : Nat → Nat → Int32), wkI K (rf_ent (rf_a3 B (nc + lc) s0) 0 0, 1, 0) = (W, 0, tf.1) ∧ (∀ i, i < K → okW (wkI i (rf_ent (rf_a3 B (nc + lc) s0) 0 0, 1, 0))) ∧ W 0 = B 0 ∧ ∀ j, j < 6 * tf.1 → tf.2.1 j = W 41 j := by
  have hN9 : nc + lc ≤ 221 := by omega
  have hle := SN_le (C := C) (R := R) (CL := CL) (RL := RL) (A := B) 7
  have hl1 : 0 ≤ nc ∧ 0 < lc := SL_le hle hSL
  obtain ⟨N, hN⟩ : ∃ z, z = nc + lc := ⟨_, rfl⟩
  rw [← hN] at hN9 ⊢
  obtain ⟨gND, gOW, gTB⟩ := ng_all hN9 hN hSL
  obtain ⟨f1, f2, f3, f4, -⟩ := fin_ok hs0 hN9 (by omega) h7.2.1 gND gOW gTB
  obtain ⟨X, hX⟩ : ∃ z, z = rf_a3 B N s0 := ⟨_, rfl⟩
  rw [← hX] at f4 ⊢
  have oX := okX_of hN9 h7.1 gND f4
  have f19 := f4.1
  have hdep : dep X 23 0 := dep_L (x := (0, 0, nc, lc)) f19 (dep_N f19 7) hSL (by dsimp only; omega) 23 (by decide)
  have hS : SUB X 23 0 := sub_all oX (fun n hn => by
    obtain ⟨-, -, -, k4, -, -, -, -, -, -, k10, k11⟩ := gND n hn
    rw [f19 1 (by decide), f19 10 (by decide), f19 11 (by decide), (kdN_ag f19).1]
    exact ⟨k10, k11, fun c hc c0 => (k4 c hc c0).2.1⟩) 23 0 (by omega) hdep
  have hI : tI C CL t0 := ⟨fun q k _ => by rw [htC], fun q k _ => by rw [htL]⟩
  have hRL := r_line (by decide) (rn_all (C0 := C) (CL0 := CL) (R := R) (RL := RL) f4 hN9 7 (by decide)) f4 hN9 (0, 0, nc, lc) t0 s0 0 23 hSL (by dsimp only; omega) f4.2.2.2.1 hs0 f4.2.2.2.2.1 (by decide) (by decide) (by rw [ht0]; dsimp only; omega) hI
  have hRL : RLn C CL X 23 (0, 0, nc, lc) t0 tf := by rw [htf]; exact hRL
  obtain ⟨⟨r1, r2, -, -, r5⟩, ⟨m0, m1, m2⟩, -, -⟩ := hRL
  have e0 : xn (0, 0, nc, lc) = 0 := rfl
  rw [e0] at r1 r2 r5 m0 m1 m2
  rw [ht0, Nat.zero_add] at r1
  rw [ht0, f4.2.2.2.2.2.1, f4.2.2.2.2.2.2] at r5
  dsimp only at r2 m0 m1 m2
  obtain ⟨e1, -, e3⟩ := ent_f (V := X) (O := 0) (v := 0)
  obtain ⟨W, ⟨K, w1, w2⟩, w3, w4, -⟩ := hS (rf_ent X 0 0) 0 0 (fun j a b c d => e3 j a b c) e1 (by decide) (by omega)
  rw [Nat.zero_add, Nat.zero_add, ← r1] at w1
  refine ⟨by omega, f1, f2, f3, ⟨by omega, m0, m1, m2⟩, K, W, w1, w2, ?_, fun j hj => ?_⟩
  · rw [w3 0 (by decide) (by decide) (by decide) (by decide)]; exact f19 0 (by decide)
  · refine pcs_get (wl X 23 0).length 0 ?_ j (by omega) (by omega)
    rw [r5, mvP_z, w4, putL_pcs]
