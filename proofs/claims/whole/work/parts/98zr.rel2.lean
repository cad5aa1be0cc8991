/-! Pure: the class's setting against the reference's arrays: parts. By hand. -/
section
variable {C0 : Nat → Nat → Int32} {R : Nat → Nat → Option Nat} {CL0 : Nat → Nat → Int32} {RL : Nat → Nat → Option Nat} {B X : Nat → Nat → Int32} {N s0 : Nat}
theorem exy_p {n c : Nat} (hF : FINX X B N s0) (hN9 : N ≤ 221) (hn : n < N) (hc0 : 0 < c) (hc : c < N) (h14 : B 14 c = nI n) (h15 : B 15 c = 0) (hv : ¬ X 1 n = 0) : X 31 c = X 31 n + X 28 n + X 29 c ∧ X 32 c = X 32 n + X 30 c := by
  have g := hF.2.2.1 c hc0 hc
  unfold EXY xyD at g
  rw [hF.1 14 (by decide), h14, show ixI (nI n) = n from nI_clamp (by omega), hF.1 15 (by decide), h15, if_neg (fun z => z.elim (fun w => w rfl) hv)] at g
  exact ⟨by rw [g.1]; grind, g.2⟩
theorem exy_i {n c : Nat} (hF : FINX X B N s0) (hN9 : N ≤ 221) (hn : n < N) (hc0 : 0 < c) (hc : c < N) (h14 : B 14 c = nI n) (h : ¬ B 15 c = 0 ∨ X 1 n = 0) : X 31 c = X 31 n + X 29 c ∧ X 32 c = X 32 n + X 30 c := by
  have g := hF.2.2.1 c hc0 hc
  unfold EXY xyD at g
  rw [hF.1 14 (by decide), h14, show ixI (nI n) = n from nI_clamp (by omega), hF.1 15 (by decide), if_pos h] at g
  exact ⟨by rw [g.1]; grind, g.2⟩
/-- what is known of nuclei d levels above the deepest -/
def RNd (C0 CL0 X B : Nat → Nat → Int32) (R RL : Nat → Nat → Option Nat) (N d : Nat) : Prop := ∀ (x : XT) (t : TS) (si cr k : Nat), SN C0 R CL0 RL B d x.1 x.2.1 x.2.2.1 x.2.2.2 → 0 < xn x → x.2.2.1 + x.2.2.2 ≤ N → X 20 (xn x) = nI si → si < 4 → X 21 (xn x) = nI cr → cr < 2 → 3 * d ≤ k + 1 → t.1 + 2 * (x.2.2.1 - x.1) ≤ 120 → tI C0 CL0 t → RN C0 CL0 X k x t (sN R RL d t x.1 si cr)
theorem r_part {d : Nat} (hR : RNd C0 CL0 X B R RL N d) (hF : FINX X B N s0) (hN9 : N ≤ 221) {o : Nat} {sc : Int32} {q : XT} {t : TS} {si cr k : Nat} (h : SB R B (SN C0 R CL0 RL B d) o sc q) (h0 : 0 < xn q) (hN : q.2.2.1 + q.2.2.2 ≤ N) (h20 : X 20 (xn q) = nI si) (hs : si < 4) (h21 : X 21 (xn q) = nI cr) (hcr : cr < 2) (hk : 3 * d ≤ k) (hc : t.1 + 2 * (q.2.2.1 - q.1) ≤ 120) (hI : tI C0 CL0 t) : RI C0 CL0 X k q t (sN R RL d t q.1 si cr) := by
  have l1 := SN_le _ _ _ _ _ h.1
  cases d with
  | zero => exact h.1.elim
  | succ d =>
    obtain ⟨k, rfl⟩ : ∃ z, k = z + 1 := ⟨k - 1, by omega⟩
    obtain ⟨g1, g2, g3⟩ := hR q t si cr k h.1 h0 hN h20 hs h21 hcr (by omega) hc hI
    have hn : xn q < N := by show q.1 + q.2.1 < N; omega
    have e12 : X 12 (xn q) = 0 := by rw [hF.1 12 (by decide)]; exact h.2.2.1.1
    have e13 : X 13 (xn q) = 0 := by rw [hF.1 13 (by decide)]; exact h.2.2.1.2
    have ns := no_sc (hF.2.1 (xn q) hn).2.2.2 e12 e13
    have ewl : wl X (k + 1) (xn q) = wo X k (xn q) := by
      rw [wl_s, e12, e13, if_pos (show ixI 0 = 0 from rfl), List.append_nil, List.append_nil]
    unfold RI
    rw [ewl, ns.1, ns.2.1, ns.2.2.1]
    refine ⟨⟨g1.1, g1.2.1, g1.2.2.1, g1.2.2.2.1, REL_e g1.2.2.2.2 ?_ rfl⟩, g2, g3⟩
    rw [ns.2.2.2]; grind
theorem wo_part {k n o : Nat} (hv : ¬ (X 1 n = 0 ∨ X 1 n = 9)) (h10 : ixI (X 10 n) = o) (ho : o ≠ 0) (h11 : X 11 n = 0) : wo X k n = sayB X n (ixI (X 20 n)) ++ wl X k o ++ sayH X n (ixI (X 20 n)) := by
  unfold wo
  rw [if_neg hv, h10, if_neg ho, h11, if_pos (show ixI 0 = 0 from rfl), List.append_nil]
theorem REL_mv0 {F : Nat → Int32} {c a e : Nat} {l : List PT} {x y x' y' r u : Int32} (g : REL F c l x y) (h1 : a ≤ c) (h2 : c + l.length ≤ e) (hx : x = x' + r) (hy : y = y' + u) : REL (mvF F a e r u) c l x' y' := REL_e (REL_mv g h1 h2) (by rw [hx]; grind) (by rw [hy]; grind)
/-- a hat or a bar over a part -/
theorem k_acc {d : Nat} (hR : RNd C0 CL0 X B R RL N d) (hF : FINX X B N s0) (hN9 : N ≤ 221) {x : XT} {t : TS} {si k : Nat} {v : Int32} (hv : v = 6 ∨ v = 7) (h1 : X 1 (xn x) = v) (hx0 : 0 < xn x) (hN : x.2.2.1 + x.2.2.2 ≤ N) (h10 : B 10 (xn x) = nI (xn x + 1)) (h11 : B 11 (xn x) = 0) (gA : SB R B (SN C0 R CL0 RL B d) (xn x) 0 (x.1 + 1, x.2.1, x.2.2.1, x.2.2.2)) (h20 : X 20 (xn x) = nI si) (hs : si < 4) (hk : 3 * (d + 1) ≤ k + 1) (hc : t.1 + 2 * (x.2.2.1 - x.1) ≤ 120) (hI : tI C0 CL0 t) : RK C0 CL0 X k x t (if v = 6 then sHat (sN R RL d) x.1 (x.1 + 1) si t else sBar (sN R RL d) x.1 (x.1 + 1) si t) := by
  have l1 := SN_le _ _ _ _ _ gA.1
  dsimp only at l1
  have en : xn (x.1 + 1, x.2.1, x.2.2.1, x.2.2.2) = xn x + 1 := by show (x.1 + 1) + x.2.1 = x.1 + x.2.1 + 1; omega
  have hn : xn x < N := by show x.1 + x.2.1 < N; omega
  have hn1 : xn x + 1 < N := by show x.1 + x.2.1 + 1 < N; omega
  obtain ⟨q20, q21, EH, E⟩ := hF.2.1 (xn x) hn
  have esi : ixI (X 20 (xn x)) = si := by rw [h20]; exact nI_clamp (by omega)
  have eo : ixI (X 10 (xn x)) = xn x + 1 := by rw [hF.1 10 (by decide), h10]; exact nI_clamp (show x.1 + x.2.1 + 1 < _ by omega)
  have EH6 := EH.2.2.2.2.2 (by rcases hv with v9 | v9 <;> rw [h1, v9] <;> decide)
  rw [eo, esi] at EH6
  have P := r_part hR hF hN9 (t := t) (k := k) (si := si) (cr := 1) gA (by rw [en]; omega) hN (by rw [en]; exact EH6.1) hs (by rw [en]; exact EH6.2) (by decide) (by omega) (by dsimp only; omega) hI
  rw [show sN R RL d t (x.1 + 1, x.2.1, x.2.2.1, x.2.2.2).1 si 1 = sN R RL d t (x.1 + 1) si 1 from rfl] at P
  unfold RI at P
  rw [en] at P
  obtain ⟨⟨p1, p2, p3, p4, p5⟩, ⟨p6, p7, p8⟩, p9, p10⟩ := P
  dsimp only at p2 p6 p7 p8 p9 p10
  have E1 := E.1
  unfold EB at E1
  have E2 : X 29 (xn x + 1) = 0 ∧ X 30 (xn x + 1) = 0 ∧ X 22 (xn x) = X 25 (xn x + 1) ∧ X 24 (xn x) = X 27 (xn x + 1) ∧ X 35 (xn x) = (if v = 6 then htY si (X 26 (xn x + 1)) else X 26 (xn x + 1) + yT si) ∧ X 23 (xn x) = (if v = 6 then mx (X 26 (xn x + 1)) (htY si (X 26 (xn x + 1)) + sgH 94 (yS si)) else X 26 (xn x + 1) + 3 * yT si) := by
    rcases hv with v9 | v9 <;> (rw [h1, v9, if_neg (by decide), if_neg (by decide), if_neg (by decide), if_neg (by decide), if_neg (by decide), if_neg (by decide), if_neg (by decide), if_neg (by decide), eo, esi] at E1; rw [v9]; exact E1)
  obtain ⟨f29, f30, f22, f24, f35, f23⟩ := E2
  have xy := exy_p hF hN9 hn (Nat.succ_pos _) hn1 (by have := gA.2.2.2.1; rw [en] at this; exact this) (by have := gA.2.2.2.2; rw [en] at this; exact this) (by rcases hv with v9 | v9 <;> rw [h1, v9] <;> decide)
  rw [f29, f30] at xy
  have hwo : wo X k (xn x) = wl X k (xn x + 1) ++ sayH X (xn x) si := by
    rw [wo_part (by rcases hv with v9 | v9 <;> rw [h1, v9] <;> decide) eo (by omega) (by rw [hF.1 11 (by decide)]; exact h11), esi]
    have : sayB X (xn x) si = [] := by
      unfold sayB
      rcases hv with v9 | v9 <;> rw [h1, v9, if_neg (by decide), if_neg (by decide), if_neg (by decide), if_neg (by decide)]
    rw [this, List.nil_append]
  obtain ⟨ta, hta⟩ : ∃ z, z = sN R RL d t (x.1 + 1) si 1 := ⟨_, rfl⟩
  rw [← hta] at p1 p3 p4 p5 p6 p7 p8 p9 p10
  have hlt : ta.1 < 120 := by omega
  have hlen : (wl X k (xn x + 1)).length ≤ 2 * (x.2.2.1 - (x.1 + 1)) := p2
  -- both forms
  have gen : ∀ (k0 cd xx yy ss ww hh dd : Int32) (t2 : TS), t2.1 = rsv ta.1 → t2.2.1 = putF ta.2.1 ta.1 k0 cd xx yy ss ww → tC t2 = meas (tC ta) x.1 (tC ta (x.1 + 1) 0) hh dd → tL t2 = tL ta → sayH X (xn x) si = [(k0, cd, X 31 (xn x) + X 28 (xn x) + xx, X 32 (xn x) + yy, ss, ww)] → hh = X 23 (xn x) → dd = X 24 (xn x) → RK C0 CL0 X k x t t2 := by
    intro k0 cd xx yy ss ww hh dd t2 e1 e2 e3 e4 eH eh ed
    unfold RK RG
    rw [hwo, eH, List.length_append]
    refine ⟨⟨?_, ?_, ⟨?_, fun q j hq => ?_, fun j q hq => ?_, fun p hp => ?_⟩, ⟨?_, ?_⟩, REL_app ?_ (REL_1 ?_)⟩, ⟨?_, ?_, ?_⟩, ?_⟩
    · rw [e1, rsv_1 hlt, p1]; rfl
    · show _ + 1 ≤ _; omega
    · rw [e1, rsv_1 hlt]; omega
    · rw [e3, meas_n (by omega)]; exact p3.2.1 q j (by dsimp only; omega)
    · rw [e4]; exact p3.2.2.1 j q (by dsimp only; omega)
    · rw [e2, getP_putn (by omega)]; exact p3.2.2.2 p hp
    · rw [e3]; exact meas_5 p4.1
    · rw [e4]; exact p4.2
    · rw [e2]
      refine REL_ag (REL_e p5 ?_ ?_) (fun q h1 h2 => getP_putn (by omega))
      · rw [xy.1]; grind
      · rw [xy.2]; grind
    · rw [e2, ← p1, getP_put hlt, mvP_xy]
    · rw [e3, meas_v.1, p6, f22]
    · rw [e3, meas_v.2.1]; exact eh
    · rw [e3, meas_v.2.2.1]; exact ed
    · rw [e3, meas_v.2.2.2 3 (Nat.le_refl _)]; exact p3.2.1 x.1 3 (by dsimp only; omega)
  rcases hv with v9 | v9
  · rw [v9, if_pos rfl]
    rw [v9, if_pos rfl] at f35 f23
    refine gen 0 94 ((tC ta (x.1 + 1) 0 - sgW 94 (yS si)) / 2) (htY si (tC ta (x.1 + 1) 1)) (yS si) (sgW 94 (yS si)) (mx (tC ta (x.1 + 1) 1) (htY si (tC ta (x.1 + 1) 1) + sgH 94 (yS si))) (tC ta (x.1 + 1) 2) _ ?_ ?_ ?_ ?_ ?_ ?_ ?_
    · unfold sHat; rw [← hta]
    · unfold sHat; rw [← hta]
    · unfold sHat; rw [← hta]
    · unfold sHat; rw [← hta]
    · unfold sayH
      rw [if_neg (by rw [h1, v9]; decide), if_pos (by rw [h1, v9]), p6, p7, f22, f35]
    · rw [p7, f23]
    · rw [p8, f24]
  · rw [v9, if_neg (by decide)]
    rw [v9, if_neg (by decide)] at f35 f23
    refine gen 1 0 0 (tC ta (x.1 + 1) 1 + yT si) (yT si) (tC ta (x.1 + 1) 0) (tC ta (x.1 + 1) 1 + 3 * yT si) (tC ta (x.1 + 1) 2) _ ?_ ?_ ?_ ?_ ?_ ?_ ?_
    · unfold sBar; rw [← hta]
    · unfold sBar; rw [← hta]
    · unfold sBar; rw [← hta]
    · unfold sBar; rw [← hta]
    · unfold sayH
      rw [if_neg (by rw [h1, v9]; decide), if_neg (by rw [h1, v9]; decide), if_pos (by rw [h1, v9]), p6, p7, f22, f35, Int32.add_zero]
    · rw [p7, f23]
    · rw [p8, f24]
end
