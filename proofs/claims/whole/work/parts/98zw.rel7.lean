/-! Pure: the class's setting against the reference's arrays: a line. By hand. -/
theorem sp_eq : ∀ s, s < 4 → ∀ p, p < 8 → ∀ q, q < 8 → sp3 s (spR p q) = spB s p q := by decide +kernel
theorem sp_0 (s : Nat) : sp3 s 0 = 0 := by
  unfold sp3
  rw [if_neg (by decide), if_pos (Or.inl rfl)]
section
variable {C0 : Nat → Nat → Int32} {R : Nat → Nat → Option Nat} {CL0 : Nat → Nat → Int32} {RL : Nat → Nat → Option Nat} {B X : Nat → Nat → Int32} {N s0 : Nat}
/-- a line as far as it is set -/
def LnP (C0 CL0 X : Nat → Nat → Int32) (n i0 j : Nat) (t0 t : TS) (ie le : Nat) (l : List PT) (w h d : Int32) : Prop := RG C0 CL0 (i0, j, ie, le) t0 t l (X 31 n) (X 32 n) ∧ (tL t j 0 = w ∧ tL t j 1 = h ∧ tL t j 2 = d) ∧ tL t j 3 = nI t0.1
theorem LP_step {n i0 j : Nat} {t0 t : TS} {l : List PT} {w h d : Int32} {q : XT} {k si cr : Nat} {bf : Option Nat} (hF : FINX X B N s0) (hN9 : N ≤ 221) (hn : n < N) (hv : X 1 n = 0) (hj : j < q.2.1) (hi0 : i0 ≤ q.1) (hq : q.1 < q.2.2.1 ∧ q.2.1 ≤ q.2.2.2) (hqN : q.2.2.1 + q.2.2.2 ≤ N) (h14 : B 14 (xn q) = nI n) (hL : LnP C0 CL0 X n i0 j t0 t q.1 q.2.1 l w h d) (tq : TS) (hI : RI C0 CL0 X k q t tq) (hc : tq.1 ≤ 120) (xp : Int32) (hxp : X 29 (xn q) = xp) (h30 : X 30 (xn q) = 0) (t' : TS) (e1 : t'.1 = tq.1) (e2 : t'.2.1 = mvN tq.2.1 (tC tq) q.1 xp 0) (e3 : tC t' = tC tq) (e4 : tL t' = meas (tL tq) j (xp + tC tq q.1 0) (mx (tL tq j 1) (tC tq q.1 1)) (mx (tL tq j 2) (tC tq q.1 2))) : LnP C0 CL0 X n i0 j t0 t' q.2.2.1 q.2.2.2 (l ++ wl X k (xn q)) (xp + X 25 (xn q)) (mx h (X 26 (xn q))) (mx d (X 27 (xn q))) := by
  obtain ⟨⟨g1, g2, g3, g4, g5⟩, ⟨b0, b1, b2⟩, b3⟩ := hL
  obtain ⟨⟨r1, r2, r3, r4, r5⟩, ⟨r6, r7, r8⟩, r9, r10⟩ := hI
  dsimp only at g2
  have cj : ∀ c, tL tq j c = tL t j c := fun c => r3.2.2.1 j c (by omega)
  have ei3 : ixI (tC tq q.1 3) = t.1 := by rw [r9]; exact nI_clamp (by omega)
  have ei4 : ixI (tC tq q.1 4) = tq.1 := by rw [r10]; exact nI_clamp (by omega)
  have xy := exy_i hF hN9 hn (c := xn q) (by show 0 < q.1 + q.2.1; omega) (by show q.1 + q.2.1 < N; omega) h14 (Or.inr hv)
  rw [hxp, h30] at xy
  have gF : ∀ p, ¬ (t.1 ≤ p ∧ p < tq.1) → getP t'.2.1 p = getP tq.2.1 p := fun p hp => by
    rw [e2]; unfold mvN; rw [getP_mv, ei3, ei4, if_neg hp]
  refine ⟨⟨?_, ?_, ⟨?_, fun p c hp => ?_, fun p c hp => ?_, fun p hp => ?_⟩, ⟨?_, ?_⟩, REL_app ?_ ?_⟩, ⟨?_, ?_, ?_⟩, ?_⟩
  · rw [e1, List.length_append]; omega
  · rw [List.length_append]; dsimp only; omega
  · rw [e1]; have := g3.1; omega
  · dsimp only at hp
    rw [e3, r3.2.1 p c (by omega)]
    exact g3.2.1 p c (by dsimp only; omega)
  · dsimp only at hp
    rw [e4, meas_n (by omega), r3.2.2.1 p c (by omega)]
    exact g3.2.2.1 p c (by dsimp only; omega)
  · have := g3.1
    rw [gF p (by omega), r3.2.2.2 p (by omega)]
    exact g3.2.2.2 p hp
  · show ∀ a b, 5 ≤ b → tC t' a b = C0 a b
    rw [e3]; exact r4.1
  · show ∀ a b, 5 ≤ b → tL t' a b = CL0 a b
    rw [e4]; exact meas_5 r4.2
  · refine REL_ag g5 (fun p h1 h2 => ?_)
    rw [gF p (by omega), r3.2.2.2 p (by omega)]
  · rw [← g1]
    have a := REL_mv0 (a := t.1) (e := tq.1) (r := xp) (u := 0) r5 (Nat.le_refl _) (by omega) xy.1 xy.2
    refine REL_ag a (fun p h1 h2 => ?_)
    rw [e2]; unfold mvN; rw [ei3, ei4]
  · rw [e4, meas_v.1, r6]
  · rw [e4, meas_v.2.1, r7, cj 1, b1]
  · rw [e4, meas_v.2.2.1, r8, cj 2, b2]
  · rw [e4, meas_v.2.2.2 3 (Nat.le_refl _), cj 3]; exact b3
theorem line_its {d : Nat} (hd7 : d ≤ 7) (hR : RNd C0 CL0 X B R RL N d) (hF : FINX X B N s0) (hN9 : N ≤ 221) {n i0 j si cr k : Nat} {t0 : TS} (hn : n < N) (hv : X 1 n = 0) (hs : si < 4) (hcr : cr < 2) (hk : 3 * d + 1 ≤ k) : ∀ (xs : List XT) (bs : List Nat) (bf : Option Nat) (pb : Option Nat) (t : TS) (ie le i' l' : Nat) (l : List PT) (w h dd : Int32), chn ie le xs i' l' → i' + l' ≤ N → i0 ≤ ie → j < le → (∀ q ∈ xs, SI R B (SN C0 R CL0 RL B d) q ∧ B 14 (xn q) = nI n ∧ X 20 (xn q) = nI si ∧ X 21 (xn q) = nI cr) → xs.map (fun q => R q.1 6) = bs.map some → xs.map (fun q => X 33 (xn q)) = bs.map nI → (∀ b ∈ bs, b < 8) → ((bf = none ∧ pb = none) ∨ ∃ p b, bf = some p ∧ pb = some b ∧ R p 6 = some b ∧ b < 8) → t0.1 + 2 * (i' - i0) ≤ 120 → LnP C0 CL0 X n i0 j t0 t ie le l w h dd → liE X n si (xs.map xn) (w + (pb.elim 0 (fun b => bs.head?.elim 0 (fun c => spB si b c)))) h dd → ∃ w' h' d', LnP C0 CL0 X n i0 j t0 (sIts R (sN R RL d) j si cr bf (xs.map (fun z => z.1)) t) i' l' (l ++ (xs.map xn).flatMap (wl X k)) w' h' d' ∧ X 22 n = w' ∧ X 23 n = h' ∧ X 24 n = d'
  | [], bs, bf, pb, t, ie, le, i', l', l, w, h, dd, hch, _, _, _, _, hbs, _, _, hpb, _, hL, E => by
    obtain ⟨rfl, rfl⟩ := hch
    have hb : bs = [] := by cases bs with | nil => rfl | cons a b => cases hbs
    subst hb
    refine ⟨w, h, dd, ?_, ?_, E.2.1, E.2.2⟩
    · show LnP C0 CL0 X n i0 j t0 t ie le (l ++ []) w h dd
      rw [List.append_nil]; exact hL
    · have e := E.1
      rw [e]
      cases pb with
      | none => exact Int32.add_zero _
      | some b => exact Int32.add_zero _
  | q :: xs, bs, bf, pb, t, ie, le, i', l', l, w, h, dd, hch, hN, hi, hj, hq, hbs, hxs, hb8, hpb, hc, hL, E => by
    obtain ⟨c1, c2, c3⟩ := hch
    have hle := SN_le (C := C0) (R := R) (CL := CL0) (RL := RL) (A := B) d
    obtain ⟨b, bs, rfl⟩ : ∃ b bt, bs = b :: bt := by
      cases bs with
      | nil => cases hbs
      | cons b bt => exact ⟨b, bt, rfl⟩
    have hb := hb8 b List.mem_cons_self
    have eb : R q.1 6 = some b := (List.cons.inj hbs).1
    have ex : X 33 (xn q) = nI b := (List.cons.inj hxs).1
    obtain ⟨qI, q14, q20, q21⟩ := hq q List.mem_cons_self
    have ql := SI_le hle qI
    have hlet := chn_le hle xs _ _ _ _ c3 (fun z hz => by have := SI_le hle (hq z (List.mem_cons_of_mem _ hz)).1; omega)
    obtain ⟨⟨L1, L2, L3, L4, L5⟩, ⟨L6, L7, L8⟩, L9⟩ := id hL
    dsimp only at L2
    have hI := r_item hd7 hR hF hN9 (t := t) qI (by show 0 < q.1 + q.2.1; omega) (by omega) q20 hs q21 hcr hk (by omega) L4
    obtain ⟨tq, htq⟩ : ∃ z, z = sItem R (sN R RL d) t q.1 si cr := ⟨_, rfl⟩
    rw [← htq] at hI
    have hI2 := hI
    obtain ⟨⟨r1, r2, r3, r4, r5⟩, -⟩ := hI2
    -- the place
    obtain ⟨xp, hxp⟩ : ∃ z, z = tL tq j 0 + bf.elim 0 (fun p => spB si ((R p 6).getD 0) ((R q.1 6).getD 0)) := ⟨_, rfl⟩
    have cj : tL tq j 0 = w := (r3.2.2.1 j 0 (by omega)).trans L6
    have exp : xp = w + (pb.elim 0 (fun b' => (b :: bs).head?.elim 0 (fun c => spB si b' c))) := by
      rw [hxp, cj]
      rcases hpb with ⟨rfl, rfl⟩ | ⟨p, b', rfl, rfl, h6, -⟩
      · rfl
      · show w + spB si ((R p 6).getD 0) ((R q.1 6).getD 0) = w + spB si b' b
        rw [h6, eb]; rfl
    rw [← exp] at E
    have E1 : (X 29 (xn q) = xp ∧ X 30 (xn q) = 0) ∧ liE X n si (xs.map xn) (xp + (X 25 (xn q) + sp3 si (spv X (xn q) (xs.map xn)))) (ms h (X 26 (xn q))) (ms dd (X 27 (xn q))) := E
    obtain ⟨t', ht'⟩ : ∃ z, z = sIt R (sN R RL d) j si cr t bf q.1 := ⟨_, rfl⟩
    have et' : t' = (tq.1, mvN tq.2.1 (tC tq) q.1 xp 0, tq.2.2.1, tq.2.2.2.1, tq.2.2.2.2.1, tq.2.2.2.2.2.1, tq.2.2.2.2.2.2.1, tC tq, meas (tL tq) j (xp + tC tq q.1 0) (mx (tL tq j 1) (tC tq q.1 1)) (mx (tL tq j 2) (tC tq q.1 2))) := by
      rw [ht', hxp]
      unfold sIt
      rw [← htq]
    have hS := LP_step (n := n) (i0 := i0) (j := j) (t0 := t0) (t := t) (l := l) (w := w) (h := h) (d := dd) (k := k) (si := si) (cr := cr) (bf := bf) hF hN9 hn hv (q := q) (by omega) (by omega) ql (by omega) q14 (by rw [c1, c2]; exact hL) tq hI (by omega) xp E1.1.1 E1.1.2 t' (by rw [et']) (by rw [et']) (by rw [et']) (by rw [et'])
    have espace : sp3 si (spv X (xn q) (xs.map xn)) = bs.head?.elim 0 (fun c => spB si b c) := by
      cases xs with
      | nil =>
        have hb2 := (List.cons.inj hbs).2
        have : bs = [] := by cases bs with | nil => rfl | cons a b => cases hb2
        rw [this]
        exact sp_0 si
      | cons p xs =>
        have hb3 := (List.cons.inj hbs).2
        obtain ⟨b2, bt, rfl⟩ : ∃ b2 bt, bs = b2 :: bt := by
          cases bs with
          | nil => cases hb3
          | cons b2 bt => exact ⟨b2, bt, rfl⟩
        have e2 : X 33 (xn p) = nI b2 := (List.cons.inj (List.cons.inj hxs).2).1
        have hb2 := hb8 b2 (List.mem_cons_of_mem _ List.mem_cons_self)
        show sp3 si (spR (ixI (X 33 (xn q))) (ixI (X 33 (xn p)))) = spB si b b2
        rw [ex, e2, show ixI (nI b) = b from nI_clamp (by omega), show ixI (nI b2) = b2 from nI_clamp (by omega)]
        exact sp_eq si hs b hb b2 hb2
    have E2 := E1.2
    rw [espace, ms_mx, ms_mx] at E2
    have E3 : liE X n si (xs.map xn) ((xp + X 25 (xn q)) + (some b).elim 0 (fun b' => bs.head?.elim 0 (fun c => spB si b' c))) (mx h (X 26 (xn q))) (mx dd (X 27 (xn q))) := by
      have : (xp + X 25 (xn q)) + (some b).elim 0 (fun b' => bs.head?.elim 0 (fun c => spB si b' c)) = xp + (X 25 (xn q) + bs.head?.elim 0 (fun c => spB si b c)) := Int32.add_assoc _ _ _
      rw [this]; exact E2
    obtain ⟨w', h', d', g1, g2⟩ := line_its hd7 hR hF hN9 hn hv hs hcr hk xs bs (some q.1) (some b) t' q.2.2.1 q.2.2.2 i' l' (l ++ wl X k (xn q)) (xp + X 25 (xn q)) (mx h (X 26 (xn q))) (mx dd (X 27 (xn q))) c3 hN (by omega) (by omega) (fun z hz => hq z (List.mem_cons_of_mem _ hz)) (List.cons.inj hbs).2 (List.cons.inj hxs).2 (fun z hz => hb8 z (List.mem_cons_of_mem _ hz)) (Or.inr ⟨q.1, b, rfl, rfl, eb, hb⟩) hc hS E3
    refine ⟨w', h', d', ?_, g2⟩
    rw [List.map_cons, List.map_cons, List.flatMap_cons, ← List.append_assoc]
    show LnP C0 CL0 X n i0 j t0 (sIts R (sN R RL d) j si cr (some q.1) (xs.map (fun z => z.1)) (sIt R (sN R RL d) j si cr t bf q.1)) i' l' _ w' h' d'
    rw [← ht']
    exact g1
/-- what is known of lines -/
def RLd (C0 CL0 X B : Nat → Nat → Int32) (R RL : Nat → Nat → Option Nat) (N d : Nat) : Prop := ∀ (x : XT) (t : TS) (si cr k : Nat), SL R RL B (SN C0 R CL0 RL B d) x → x.2.2.1 + x.2.2.2 ≤ N → X 20 (xn x) = nI si → si < 4 → X 21 (xn x) = nI cr → cr < 2 → 3 * d + 2 ≤ k → t.1 + 2 * (x.2.2.1 - x.1) ≤ 120 → tI C0 CL0 t → RLn C0 CL0 X k x t (sL R RL d t x.2.1 si cr)
theorem r_line {d : Nat} (hd7 : d ≤ 7) (hR : RNd C0 CL0 X B R RL N d) (hF : FINX X B N s0) (hN9 : N ≤ 221) : RLd C0 CL0 X B R RL N d := by
  intro x t si cr k h hN h20 hs h21 hcr hk hc hI
  have hle := SN_le (C := C0) (R := R) (CL := CL0) (RL := RL) (A := B) d
  have hl9 := SL_le hle h
  obtain ⟨⟨a1, a10, a11, a12, a13⟩, xs, so, h1, h2, h3, h4, h5, h6, h7, h8, h9⟩ := h
  have hn : xn x < N := by show x.1 + x.2.1 < N; omega
  have l1 : ∀ q ∈ xs, q.1 < q.2.2.1 ∧ q.2.1 ≤ q.2.2.2 := fun q hq => SI_le hle (h2 q hq).1
  have hlen := chn_len xs _ _ _ _ h1 (fun q hq => (l1 q hq).1)
  have ch := SL_ch hle (by omega) h1 (fun q hq => (h2 q hq).1) h4 h6
  have chX' : chN X (xn x) = xs.map xn := by
    show chR (X 7) 400 (X 6 (xn x)) = _
    rw [hF.1 7 (by decide), hF.1 6 (by decide)]; exact ch.1
  obtain ⟨q20, q21, EH, E⟩ := hF.2.1 (xn x) hn
  have esi : ixI (X 20 (xn x)) = si := by rw [h20]; exact nI_clamp (by omega)
  have hv : X 1 (xn x) = 0 := by rw [hF.1 1 (by decide)]; exact a1
  have EHl := EH.1 hv
  rw [chX', esi, h21] at EHl
  have E1 := E.1
  unfold EB at E1
  rw [if_pos hv, chX', esi] at E1
  have ns := no_sc E (by rw [hF.1 12 (by decide)]; exact a12) (by rw [hF.1 13 (by decide)]; exact a13)
  obtain ⟨k, rfl⟩ : ∃ z, k = z + 1 := ⟨k - 1, by omega⟩
  have ewl : wl X (k + 1) (xn x) = (xs.map xn).flatMap (wl X k) := by
    rw [wl_s, hF.1 12 (by decide), a12, hF.1 13 (by decide), a13, if_pos (show ixI 0 = 0 from rfl), List.append_nil, List.append_nil]
    unfold wo
    rw [if_pos (Or.inl hv), chX']
  have eits : chX R 14 61 (RL x.2.1 5) = xs.map (fun z => z.1) := by
    rw [h3]; exact lkR_ch xs 60 h5 (by omega)
  have e33 : xs.map (fun q => X 33 (xn q)) = (se2 (se1 none so)).map nI := by
    have := E1.2 so (by rw [List.map_map, hF.1 4 (by decide)]; exact h7) h8
    rw [List.map_map] at this
    exact this
  obtain ⟨c, F, W, H, D, ro, co, C, CL⟩ := t
  have hc : c + 2 * (x.2.2.1 - x.1) ≤ 120 := hc
  obtain ⟨t1, ht1⟩ : ∃ z : TS, z = (c, F, W, H, D, ro, co, C, meas (sT CL x.2.1 3 (nI c)) x.2.1 0 0 0) := ⟨_, rfl⟩
  have hLP : LnP C0 CL0 X (xn x) x.1 x.2.1 (c, F, W, H, D, ro, co, C, CL) t1 x.1 (x.2.1 + 1) [] 0 0 0 := by
    rw [ht1]
    refine ⟨⟨rfl, Nat.zero_le _, ⟨Nat.le_refl _, fun _ _ _ => rfl, fun p j hp => ?_, fun _ _ => rfl⟩, ⟨hI.1, meas_5 (sT_5 hI.2 (by decide))⟩, REL_0⟩, ⟨meas_v.1, meas_v.2.1, meas_v.2.2.1⟩, ?_⟩
    · dsimp only at hp
      show meas (sT CL x.2.1 3 (nI c)) x.2.1 0 0 0 p j = CL p j
      rw [meas_n (by omega), sT_ne (by omega)]
    · show meas (sT CL x.2.1 3 (nI c)) x.2.1 0 0 0 x.2.1 3 = nI c
      rw [meas_v.2.2.2 3 (Nat.le_refl _)]; exact sT_same
  obtain ⟨w', h', d', g, gw, gh, gd⟩ := line_its hd7 hR hF hN9 (k := k) (si := si) (cr := cr) (t0 := (c, F, W, H, D, ro, co, C, CL)) hn hv hs hcr (by omega) xs (se2 (se1 none so)) none none t1 x.1 (x.2.1 + 1) x.2.2.1 x.2.2.2 [] 0 0 0 h1 hN (Nat.le_refl _) (by omega) (fun q hq => ⟨(h2 q hq).1, (h2 q hq).2.1, (EHl (xn q) (List.mem_map.mpr ⟨q, hq, rfl⟩)).1, (EHl (xn q) (List.mem_map.mpr ⟨q, hq, rfl⟩)).2⟩) h9 e33 (se2_len _ (se1_len _ _ h8)) (Or.inl ⟨rfl, rfl⟩) hc hLP (by show liE X (xn x) si (xs.map xn) (0 + 0) 0 0; rw [Int32.add_zero]; exact E1.1)
  obtain ⟨t2, ht2⟩ : ∃ z, z = sIts R (sN R RL d) x.2.1 si cr none (xs.map (fun z => z.1)) t1 := ⟨_, rfl⟩
  rw [← ht2, List.nil_append] at g
  have eS : sL R RL d (c, F, W, H, D, ro, co, C, CL) x.2.1 si cr = (t2.1, t2.2.1, t2.2.2.1, t2.2.2.2.1, t2.2.2.2.2.1, t2.2.2.2.2.2.1, t2.2.2.2.2.2.2.1, t2.2.2.2.2.2.2.2.1, sT t2.2.2.2.2.2.2.2.2 x.2.1 4 (nI t2.1)) := by
    unfold sL sLi
    rw [eits]
    dsimp only
    rw [← ht1, ← ht2]
  rw [eS]
  obtain ⟨⟨p1, p2, p3, p4, p5⟩, ⟨p6, p7, p8⟩, p9⟩ := g
  have p3b : (x.1, x.2.1, x.2.2.1, x.2.2.2) = x := rfl
  unfold RLn
  rw [ewl]
  refine ⟨⟨p1, p2, ⟨p3.1, p3.2.1, fun p j hp => ?_, p3.2.2.2⟩, ⟨p4.1, sT_5 p4.2 (by decide)⟩, p5⟩, ⟨?_, ?_, ?_⟩, ?_, sT_same⟩
  · show sT (tL t2) x.2.1 4 (nI t2.1) p j = _
    rw [sT_ne (by omega)]
    exact p3.2.2.1 p j hp
  · show sT (tL t2) x.2.1 4 (nI t2.1) x.2.1 0 = _
    rw [sT_ne (by omega), gw]; exact p6
  · show sT (tL t2) x.2.1 4 (nI t2.1) x.2.1 1 = _
    rw [sT_ne (by omega), gh]; exact p7
  · show sT (tL t2) x.2.1 4 (nI t2.1) x.2.1 2 = _
    rw [sT_ne (by omega), gd]; exact p8
  · show sT (tL t2) x.2.1 4 (nI t2.1) x.2.1 3 = _
    rw [sT_ne (by omega)]; exact p9
end
