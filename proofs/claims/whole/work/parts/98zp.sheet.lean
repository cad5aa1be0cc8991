/-! Pure: pieces in a sheet, and all that is known of the reference's arrays when they are set. By hand. -/
def getP (F : Nat → Int32) (p : Nat) : PT := (F (p * 6), F (p * 6 + 1), F (p * 6 + 2), F (p * 6 + 3), F (p * 6 + 4), F (p * 6 + 5))
def mvP (r u : Int32) (t : PT) : PT := (t.1, t.2.1, t.2.2.1 + r, t.2.2.2.1 + u, t.2.2.2.2.1, t.2.2.2.2.2)
def pcs (F : Nat → Int32) : Nat → Nat → List PT
  | _, 0 => []
  | c, n + 1 => getP F c :: pcs F (c + 1) n
theorem getP_put {F : Nat → Int32} {p : Nat} {k c x y s w : Int32} (h : p < 120) : getP (putF F p k c x y s w) p = (k, c, x, y, s, w) := by
  unfold getP putF
  rw [if_pos h]
  simp [upd]
theorem getP_putn {F : Nat → Int32} {p q : Nat} {k c x y s w : Int32} (h : q ≠ p) : getP (putF F p k c x y s w) q = getP F q := by
  unfold putF
  by_cases h2 : p < 120
  · rw [if_pos h2]
    have e : ∀ j, j < 6 → upd (upd (upd (upd (upd (upd F (p * 6) k) (p * 6 + 1) c) (p * 6 + 2) x) (p * 6 + 3) y) (p * 6 + 4) s) (p * 6 + 5) w (q * 6 + j) = F (q * 6 + j) := fun j hj => by
      rw [upd_n (by omega), upd_n (by omega), upd_n (by omega), upd_n (by omega), upd_n (by omega), upd_n (by omega)]
    unfold getP
    have e0 : _ = F (q * 6) := e 0 (by decide)
    rw [show q * 6 + 0 = q * 6 from rfl] at e0
    rw [e0, e 1 (by decide), e 2 (by decide), e 3 (by decide), e 4 (by decide), e 5 (by decide)]
  · rw [if_neg h2]
theorem getP_mv {F : Nat → Int32} {a e p : Nat} {r u : Int32} : getP (mvF F a e r u) p = if a ≤ p ∧ p < e then mvP r u (getP F p) else getP F p := by
  have d : ∀ j, j < 6 → (p * 6 + j) / 6 = p ∧ (p * 6 + j) % 6 = j := fun j hj => by omega
  have d0 := d 0 (by decide)
  rw [Nat.add_zero] at d0
  unfold getP mvF
  rw [d0.1, d0.2, (d 1 (by decide)).1, (d 1 (by decide)).2, (d 2 (by decide)).1, (d 2 (by decide)).2, (d 3 (by decide)).1, (d 3 (by decide)).2, (d 4 (by decide)).1, (d 4 (by decide)).2, (d 5 (by decide)).1, (d 5 (by decide)).2]
  by_cases h : a ≤ p ∧ p < e
  · simp [h, mvP]
  · simp [h]
theorem pcs_ag {F F' : Nat → Int32} : ∀ (n c : Nat), (∀ q, c ≤ q → q < c + n → getP F' q = getP F q) → pcs F' c n = pcs F c n
  | 0, _, _ => rfl
  | n + 1, c, h => by
    show getP F' c :: pcs F' (c + 1) n = getP F c :: pcs F (c + 1) n
    rw [h c (Nat.le_refl _) (by omega), pcs_ag n (c + 1) (fun q h1 h2 => h q (by omega) (by omega))]
theorem pcs_len {F : Nat → Int32} : ∀ (n c : Nat), (pcs F c n).length = n
  | 0, _ => rfl
  | n + 1, c => by
    show (getP F c :: pcs F (c + 1) n).length = _
    rw [List.length_cons, pcs_len n]
theorem pcs_add {F : Nat → Int32} : ∀ (a c b : Nat), pcs F c (a + b) = pcs F c a ++ pcs F (c + a) b
  | 0, c, b => by rw [Nat.zero_add]; rfl
  | a + 1, c, b => by
    rw [show a + 1 + b = (a + b) + 1 by omega]
    show getP F c :: pcs F (c + 1) (a + b) = getP F c :: (pcs F (c + 1) a ++ pcs F (c + (a + 1)) b)
    rw [pcs_add a, show c + 1 + a = c + (a + 1) by omega]
theorem pcs_mv {F : Nat → Int32} {a e : Nat} {r u : Int32} : ∀ (n c : Nat), a ≤ c → c + n ≤ e → pcs (mvF F a e r u) c n = (pcs F c n).map (mvP r u)
  | 0, _, _, _ => rfl
  | n + 1, c, h1, h2 => by
    show getP (mvF F a e r u) c :: pcs (mvF F a e r u) (c + 1) n = mvP r u (getP F c) :: (pcs F (c + 1) n).map (mvP r u)
    rw [getP_mv, if_pos ⟨h1, by omega⟩, pcs_mv n (c + 1) (by omega) (by omega)]
/-- from piece c on lie the pieces l, as seen from (x, y) -/
def REL (F : Nat → Int32) (c : Nat) (l : List PT) (x y : Int32) : Prop := pcs F c l.length = l.map (mvP (-x) (-y))
theorem REL_ag {F F' : Nat → Int32} {c : Nat} {l : List PT} {x y : Int32} (g : REL F c l x y) (h : ∀ q, c ≤ q → q < c + l.length → getP F' q = getP F q) : REL F' c l x y := (pcs_ag _ _ h).trans g
theorem mvP_mvP {r u r' u' : Int32} {t : PT} : mvP r' u' (mvP r u t) = mvP (r + r') (u + u') t := by
  unfold mvP
  dsimp only
  rw [Int32.add_assoc, Int32.add_assoc]
theorem REL_mv {F : Nat → Int32} {c a e : Nat} {l : List PT} {x y r u : Int32} (g : REL F c l x y) (h1 : a ≤ c) (h2 : c + l.length ≤ e) : REL (mvF F a e r u) c l (x - r) (y - u) := by
  unfold REL at g ⊢
  rw [pcs_mv _ _ h1 h2, g, List.map_map]
  refine List.map_congr_left (fun t _ => ?_)
  show mvP r u (mvP (-x) (-y) t) = _
  rw [mvP_mvP]
  congr 1
  · grind
  · grind
theorem REL_app {F : Nat → Int32} {c : Nat} {l l' : List PT} {x y : Int32} (g : REL F c l x y) (h : REL F (c + l.length) l' x y) : REL F c (l ++ l') x y := by
  unfold REL at g h ⊢
  rw [List.length_append, pcs_add, g, h, List.map_append]
theorem REL_0 {F : Nat → Int32} {c : Nat} {x y : Int32} : REL F c [] x y := rfl
theorem REL_1 {F : Nat → Int32} {c : Nat} {p : PT} {x y : Int32} (h : getP F c = mvP (-x) (-y) p) : REL F c [p] x y := by
  show [getP F c] = [mvP (-x) (-y) p]
  rw [h]
theorem REL_e {F : Nat → Int32} {c : Nat} {l : List PT} {x y x' y' : Int32} (g : REL F c l x y) (hx : x = x') (hy : y = y') : REL F c l x' y' := by rw [← hx, ← hy]; exact g
/-- all that is known of the arrays when they are set -/
def FINX (X B : Nat → Nat → Int32) (N s0 : Nat) : Prop := (∀ k, k ≤ 19 → X k = B k) ∧ (∀ n, n < N → okm (X 20 n) 4 ∧ (X 21 n = 0 ∨ X 21 n = 1) ∧ EH X n ∧ EQ X n) ∧ (∀ c, 0 < c → c < N → EXY X c) ∧ (X 20 0 = nI s0 ∧ X 21 0 = 0 ∧ X 31 0 = 0 ∧ X 32 0 = 0)
theorem fin_ok {B : Nat → Nat → Int32} {N s0 : Nat} (hs0 : s0 < 4) (hN9 : N ≤ 221) (hN1 : 1 ≤ N) (h14 : B 14 0 = 0) (hND : ∀ n, n < N → ND B N n) (hOW : ∀ n, n < N → OW B n) (hTB : ∀ H : Nat → Nat → Int32, (∀ k, k ≤ 19 → H k = B k) → (∀ m, m < N → okm (H 20 m) 4) → ∀ n, n < N → TB H N n) :
    (∀ k, k < N → okH (hdF (rf_a1 B s0) k) k) ∧ (∀ j, j < N → okMN (meF N (hdF (rf_a1 B s0) N) j) (N - 1 - j)) ∧ (∀ q, q < N → okm (rf_a2 B N s0 14 q) 400) ∧ FINX (rf_a3 B N s0) B N s0 ∧ (∀ c, 0 < c → c < N → ∃ o, o < c ∧ c ∈ kdN B o ∧ B 14 c = nI o) := by
  have hN : N ≤ 400 := by omega
  obtain ⟨I1, I2, I3, I4⟩ := hdF_ok hs0 hN hND hOW N (Nat.le_refl _)
  obtain ⟨H, hH⟩ : ∃ z, z = hdF (rf_a1 B s0) N := ⟨_, rfl⟩
  rw [← hH] at I1 I2 I3 I4
  have h19 : ∀ k, k ≤ 19 → H k = B k := fun k hk => I1 k (by omega) (by omega)
  have hst : ∀ m, m < N → okm (H 20 m) 4 ∧ (H 21 m = 0 ∨ H 21 m = 1) := fun m hm => I2 m hm ((hOW m hm).imp id (fun ⟨o, o1, o2⟩ => ⟨o, by omega, o2⟩))
  have hNDH : ∀ n, n < N → ND H N n := fun n hn => ND_ag h19 (hND n hn)
  have mm := meF_ok hN hNDH (fun n hn => (hst n hn).1) (hTB H h19 (fun m hm => (hst m hm).1))
  obtain ⟨⟨M1, M2⟩, -⟩ := mm N (Nat.le_refl _)
  have eM : rf_a2 B N s0 = meF N H N := by rw [hH]; rfl
  obtain ⟨M, hM⟩ : ∃ z, z = meF N H N := ⟨_, rfl⟩
  rw [← hM] at M1 M2 eM
  have m19 : ∀ k, k ≤ 19 → M k = B k := fun k hk => (M1 k (by omega)).trans (h19 k hk)
  have hown : ∀ c, 0 < c → c < N → ∃ o, o < c ∧ c ∈ kdN B o ∧ B 14 c = nI o := fun c c0 hc => by
    rcases hOW c hc with z | ⟨o, o1, o2⟩
    · omega
    · exact ⟨o, o1, o2, ((hND o (by omega)).2.2.2.1 c o2 (by omega)).2.2⟩
  refine ⟨hdF_H hs0 hN hND hOW, fun j hj => by rw [← hH]; exact (mm j (by omega)).2 hj, fun q hq => ?_, ?_, hown⟩
  · rw [eM, m19 14 (by decide)]
    by_cases c : q = 0
    · rw [c, h14]; exact ⟨rfl, by decide⟩
    · obtain ⟨o, o1, -, o3⟩ := hown q (by omega) hq
      rw [o3]; exact okm_n (by omega) (Nat.le_refl _)
  · have eX : rf_a3 B N s0 = xyF (rf_x0 M) (N - 1) := by unfold rf_a3; rw [eM]
    rw [eX]
    have x0k : ∀ k, k ≠ 31 → k ≠ 32 → rf_x0 M k = M k := fun k h1 h2 => by unfold rf_x0 up2; rw [if_neg h2, if_neg h1]
    obtain ⟨X, hX⟩ : ∃ z, z = xyF (rf_x0 M) (N - 1) := ⟨_, rfl⟩
    rw [← hX]
    have xk : ∀ k, k ≠ 31 → k ≠ 32 → X k = M k := fun k h1 h2 => by rw [hX, xyF_c h1 h2]; exact x0k k h1 h2
    obtain ⟨X1, X2, X3⟩ := xyF_ok (A := rf_x0 M) (N := N) (fun c c0 hc => by
      obtain ⟨o, o1, -, o3⟩ := hown c c0 hc
      rw [x0k 14 (by decide) (by decide), m19 14 (by decide), o3, show ixI (nI o) = o from nI_clamp (by omega)]
      exact o1) (N - 1) (by omega)
    rw [← hX] at X1 X2 X3
    refine ⟨fun k hk => (xk k (by omega) (by omega)).trans (m19 k hk), fun n hn => ⟨?_, ?_, ?_, ?_⟩, fun c c0 hc => X1 c c0 (by omega), ?_, ?_, ?_, ?_⟩
    · rw [xk 20 (by decide) (by decide), M1 20 (by decide)]; exact (hst n hn).1
    · rw [xk 21 (by decide) (by decide), M1 21 (by decide)]; exact (hst n hn).2
    · have e : ∀ k, k ≤ 21 → X k = H k := fun k hk => (xk k (by omega) (by omega)).trans (M1 k hk)
      refine EH_ag (A := fun k => if k ≤ 21 then H k else X k) ?_ ?_ ?_ ?_ ?_
      · intro k h1 h2
        by_cases c : k ≤ 21
        · show X k = if k ≤ 21 then H k else X k
          rw [if_pos c]; exact e k c
        · show X k = if k ≤ 21 then H k else X k
          rw [if_neg c]
      · exact ⟨congrFun (e 20 (by decide)) n, congrFun (e 21 (by decide)) n⟩
      · exact fun c _ _ => ⟨congrFun (e 20 (by decide)) c, congrFun (e 21 (by decide)) c⟩
      · exact (hNDH n hn).2.2.2.2.1
      · exact I3 n hn
    · refine EQ_ag (fun k hk => xk k (by omega) (by omega)) (fun k hk => ?_) (fun c _ k hk => ?_) (fun _ k hk => ?_) (fun _ k hk => ?_) (M2 n (by omega) hn)
      · rw [xk k (by unfold cM at hk; omega) (by unfold cM at hk; omega)]
      · rw [xk k (by unfold cK at hk; omega) (by unfold cK at hk; omega)]
      · rw [xk k (by unfold cK at hk; omega) (by unfold cK at hk; omega)]
      · rw [xk k (by unfold cK at hk; omega) (by unfold cK at hk; omega)]
    · rw [xk 20 (by decide) (by decide), M1 20 (by decide)]; exact I4.1
    · rw [xk 21 (by decide) (by decide), M1 21 (by decide)]; exact I4.2
    · rw [X2]
      show upd (M 31) 0 0 0 = 0
      exact upd_s
    · rw [X3]
      show upd (M 32) 0 0 0 = 0
      exact upd_s
