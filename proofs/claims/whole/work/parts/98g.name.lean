/-! Pure: the names of commands, as the class and as the reference see them. By hand. -/
/-- bytes packed, the last one first -/
def pkR : List Nat → Nat
  | [] => 0
  | c :: t => c + 256 * pkR t
theorem pkR_inj : ∀ (x y : List Nat), (∀ c ∈ x, 0 < c ∧ c < 256) → (∀ c ∈ y, 0 < c ∧ c < 256) → pkR x = pkR y → x = y
  | [], [], _, _, _ => rfl
  | [], c :: t, _, h, e => by
    have := (h c List.mem_cons_self).1
    have e : 0 = c + 256 * pkR t := e
    omega
  | c :: t, [], h, _, e => by
    have := (h c List.mem_cons_self).1
    have e : c + 256 * pkR t = 0 := e
    omega
  | c :: t, c2 :: t2, h, h2, e => by
    have g1 := h c List.mem_cons_self
    have g2 := h2 c2 List.mem_cons_self
    have e : c + 256 * pkR t = c2 + 256 * pkR t2 := e
    have e1 : c = c2 := by omega
    have e2 : pkR t = pkR t2 := by omega
    rw [e1, pkR_inj t t2 (fun q hq => h q (List.mem_cons_of_mem _ hq)) (fun q hq => h2 q (List.mem_cons_of_mem _ hq)) e2]
theorem pkR_lt : ∀ (x : List Nat), (∀ c ∈ x, 0 < c ∧ c < 256) → pkR x < 256 ^ x.length
  | [], _ => by decide
  | c :: t, h => by
    have g1 := h c List.mem_cons_self
    have g2 := pkR_lt t (fun q hq => h q (List.mem_cons_of_mem _ hq))
    show c + 256 * pkR t < 256 ^ (t.length + 1)
    rw [Nat.pow_succ]
    omega
/-- the letters from k on, the last one first -/
def ltr (f : Nat → Int32) (L a k : Nat) (acc : List Nat) : List Nat := if h : isL (hre f L (a + k)) then ltr f L a (k + 1) (ixI (hre f L (a + k)) :: acc) else acc
termination_by L - (a + k)
decreasing_by have := isL_lt h; omega
theorem ltr_y {f : Nat → Int32} {L a k : Nat} {acc : List Nat} (h : isL (hre f L (a + k))) : ltr f L a k acc = ltr f L a (k + 1) (ixI (hre f L (a + k)) :: acc) := by rw [ltr, dif_pos h]
theorem ltr_n {f : Nat → Int32} {L a k : Nat} {acc : List Nat} (h : ¬ isL (hre f L (a + k))) : ltr f L a k acc = acc := by rw [ltr, dif_neg h]
theorem isL_n {c : Int32} (h : isL c) : c = nI (ixI c) ∧ 65 ≤ ixI c ∧ ixI c ≤ 122 := by
  have h1 : (65 : Int32) ≤ c := h.elim (fun z => Int32.le_trans (by decide) z.1) (fun z => z.1)
  have h2 : c ≤ (122 : Int32) := h.elim (fun z => z.2) (fun z => Int32.le_trans z.2 (by decide))
  have g1 : (65 : Int) ≤ c.toInt := Int32.le_iff_toInt_le.mp h1
  have g2 : c.toInt ≤ (122 : Int) := Int32.le_iff_toInt_le.mp h2
  have e : ((ixI c : Nat) : Int) = c.toInt := Int.toNat_of_nonneg (by omega)
  refine ⟨?_, by omega, by omega⟩
  apply Int32.toInt_inj.mp
  rw [nI_toInt (by omega), e]
theorem ltr_b {f : Nat → Int32} {L a : Nat} : ∀ (j k : Nat) (acc : List Nat), L - (a + k) = j → (∀ c ∈ acc, 0 < c ∧ c < 256) → ∀ c ∈ ltr f L a k acc, 0 < c ∧ c < 256 := by
  intro j
  induction j with
  | zero =>
    intro k acc hj h
    rw [ltr_n (fun z => by have := isL_lt z; omega)]; exact h
  | succ j ih =>
    intro k acc hj h
    by_cases e : isL (hre f L (a + k))
    · rw [ltr_y e]
      refine ih (k + 1) _ (by omega) (fun c hc => ?_)
      rcases List.mem_cons.mp hc with rfl | hc
      · have := isL_n e; omega
      · exact h c hc
    · rw [ltr_n e]; exact h
/-- one more letter packed -/
theorem pk_sh8 {v c : Nat} (hv : v < 2 ^ 40) (hc : c < 256) : (Int64.ofNat v <<< ((8 : Int32).toInt64 &&& 63)) ||| (nI c).toInt64 = Int64.ofNat (c + 256 * v) := by
  have e8 : ((8 : Int32).toInt64 &&& 63) = (8 : Int64) := by decide
  have ec : (nI c).toInt64 = Int64.ofNat c := by
    apply Int64.toInt_inj.mp
    have hs : Int64.size = 18446744073709551616 := rfl
    rw [Int32.toInt_toInt64, nI_toInt (by omega), Int64.toInt_ofNat', Int.bmod_eq_of_le] <;> omega
  rw [e8, ec]
  apply Int64.toBitVec_inj.mp
  rw [Int64.toBitVec_or, Int64.toBitVec_shiftLeft]
  apply BitVec.eq_of_toNat_eq
  have q1 : (Int64.ofNat v).toBitVec = BitVec.ofNat 64 v := rfl
  have q2 : (Int64.ofNat c).toBitVec = BitVec.ofNat 64 c := rfl
  have q3 : (Int64.ofNat (c + 256 * v)).toBitVec = BitVec.ofNat 64 (c + 256 * v) := rfl
  have q4 : ((8 : Int64).toBitVec.smod 64).toNat = 8 := by decide
  rw [q1, q2, q3]
  show (BitVec.ofNat 64 v <<< ((8 : Int64).toBitVec.smod 64) ||| BitVec.ofNat 64 c).toNat = _
  rw [BitVec.toNat_or, BitVec.shiftLeft_eq', q4, BitVec.toNat_shiftLeft, BitVec.toNat_ofNat, BitVec.toNat_ofNat, BitVec.toNat_ofNat]
  rw [Nat.mod_eq_of_lt (show v < 2 ^ 64 by omega), Nat.mod_eq_of_lt (show c < 2 ^ 64 by omega), Nat.mod_eq_of_lt (show c + 256 * v < 2 ^ 64 by omega)]
  rw [Nat.shiftLeft_eq, Nat.mod_eq_of_lt (by omega), Nat.mul_comm v, ← Nat.two_pow_add_eq_or_of_lt (show c < 2 ^ 8 by omega)]
  omega
theorem nh_7 {f : Nat → Int32} {L a : Nat} : ∀ (j k : Nat) (v : Int64), L - (a + k) = j → 7 ≤ k → nh f L a k v = 0 := by
  intro j
  induction j with
  | zero => intro k v hj hk; rw [nh_n (fun z => by have := isL_lt z; omega), if_pos (by omega)]
  | succ j ih =>
    intro k v hj hk
    by_cases e : isL (hre f L (a + k))
    · rw [nh_y e]; exact ih (k + 1) _ (by omega) (by omega)
    · rw [nh_n e, if_pos (by omega)]
theorem ltr_len {f : Nat → Int32} {L a : Nat} : ∀ (j k : Nat) (acc : List Nat), L - (a + k) = j → acc.length ≤ (ltr f L a k acc).length := by
  intro j
  induction j with
  | zero => intro k acc hj; rw [ltr_n (fun z => by have := isL_lt z; omega)]; exact Nat.le_refl _
  | succ j ih =>
    intro k acc hj
    by_cases e : isL (hre f L (a + k))
    · rw [ltr_y e]
      have := ih (k + 1) (ixI (hre f L (a + k)) :: acc) (by omega)
      rw [List.length_cons] at this
      omega
    · rw [ltr_n e]; exact Nat.le_refl _
theorem nh_ltr {f : Nat → Int32} {L a : Nat} : ∀ (j k : Nat) (acc : List Nat), L - (a + k) = j → acc.length + 1 = k → k ≤ 6 → (∀ c ∈ acc, 0 < c ∧ c < 256) → nh f L a k (Int64.ofNat (pkR acc)) = if (ltr f L a k acc).length ≤ 5 then Int64.ofNat (pkR (ltr f L a k acc)) else 0 := by
  intro j
  induction j with
  | zero =>
    intro k acc hj hk h6 hb
    have e : ¬ isL (hre f L (a + k)) := fun z => by have := isL_lt z; omega
    rw [nh_n e, ltr_n e, if_neg (by omega), if_pos (by omega)]
  | succ j ih =>
    intro k acc hj hk h6 hb
    by_cases e : isL (hre f L (a + k))
    · obtain ⟨e1, e2, e3⟩ := isL_n e
      rw [nh_y e, ltr_y e]
      by_cases h5 : k < 6
      · have hl := pkR_lt acc hb
        have hle : 256 ^ acc.length ≤ 256 ^ 5 := Nat.pow_le_pow_right (by decide) (by omega)
        rw [if_pos h5]
        have e9 : (Int64.ofNat (pkR acc) <<< ((8 : Int32).toInt64 &&& 63)) ||| (hre f L (a + k)).toInt64 = Int64.ofNat (pkR (ixI (hre f L (a + k)) :: acc)) := by
          rw [show (hre f L (a + k)).toInt64 = (nI (ixI (hre f L (a + k)))).toInt64 from congrArg _ e1]
          exact pk_sh8 (by omega) (by omega)
        rw [e9]
        refine ih (k + 1) _ (by omega) (by rw [List.length_cons]; omega) (by omega) (fun c hc => ?_)
        rcases List.mem_cons.mp hc with rfl | hc
        · omega
        · exact hb c hc
      · rw [if_neg h5, nh_7 _ (k + 1) _ rfl (by omega)]
        have := ltr_len (f := f) (L := L) (a := a) _ (k + 1) (ixI (hre f L (a + k)) :: acc) rfl
        rw [List.length_cons] at this
        rw [if_neg (by omega)]
    · rw [nh_n e, ltr_n e, if_neg (by omega), if_pos (by omega)]
/-- a word of letters stands at k -/
theorem ltr_w {f : Nat → Int32} {L a : Nat} : ∀ (w : List Int32) (k : Nat) (acc : List Nat), (∀ j, j < w.length → hre f L (a + k + j) = w.getD j 0 ∧ isL (w.getD j 0)) → ¬ isL (hre f L (a + k + w.length)) → ltr f L a k acc = (w.map ixI).reverse ++ acc
  | [], k, acc, _, h => ltr_n h
  | c :: w, k, acc, h, h2 => by
    have g := h 0 (Nat.succ_pos _)
    have e : hre f L (a + k) = c := g.1
    have e2 : isL c := g.2
    have g1 : ∀ j, j < w.length → hre f L (a + (k + 1) + j) = w.getD j 0 ∧ isL (w.getD j 0) := fun j hj => by
      have := h (j + 1) (Nat.succ_lt_succ hj)
      rw [show a + k + (j + 1) = a + (k + 1) + j by omega] at this
      exact this
    have g2 : ¬ isL (hre f L (a + (k + 1) + w.length)) := by
      rw [show a + (k + 1) + w.length = a + k + (c :: w).length by rw [List.length_cons]; omega]
      exact h2
    rw [ltr_y (by rw [e]; exact e2), e, ltr_w w (k + 1) (ixI c :: acc) g1 g2, List.map_cons, List.reverse_cons, List.append_assoc]
    rfl
/-- what the letters are, place by place -/
theorem ltr_x {f : Nat → Int32} {L a : Nat} : ∀ (j k : Nat) (acc : List Nat), L - (a + k) = j → ∃ w : List Int32, ltr f L a k acc = (w.map ixI).reverse ++ acc ∧ (∀ q, q < w.length → hre f L (a + k + q) = w.getD q 0 ∧ isL (w.getD q 0)) ∧ ¬ isL (hre f L (a + k + w.length)) := by
  intro j
  induction j with
  | zero =>
    intro k acc hj
    have e : ¬ isL (hre f L (a + k)) := fun z => by have := isL_lt z; omega
    exact ⟨[], by rw [ltr_n e]; rfl, fun q hq => absurd hq (Nat.not_lt_zero q), e⟩
  | succ j ih =>
    intro k acc hj
    by_cases e : isL (hre f L (a + k))
    · obtain ⟨w, h1, h2, h3⟩ := ih (k + 1) (ixI (hre f L (a + k)) :: acc) (by omega)
      refine ⟨hre f L (a + k) :: w, ?_, fun q hq => ?_, ?_⟩
      · rw [ltr_y e, h1, List.map_cons, List.reverse_cons, List.append_assoc]; rfl
      · rcases q with _ | q
        · exact ⟨rfl, e⟩
        · have := h2 q (Nat.lt_of_succ_lt_succ hq)
          rw [show a + (k + 1) + q = a + k + (q + 1) by omega] at this
          exact this
      · rw [show a + k + (hre f L (a + k) :: w).length = a + (k + 1) + w.length by rw [List.length_cons]; omega]
        exact h3
    · exact ⟨[], by rw [ltr_n e]; rfl, fun q hq => absurd hq (Nat.not_lt_zero q), e⟩
theorem map_ixI_inj : ∀ (x y : List Int32), (∀ q, q < x.length → isL (x.getD q 0)) → (∀ q, q < y.length → isL (y.getD q 0)) → x.map ixI = y.map ixI → x = y
  | [], [], _, _, _ => rfl
  | [], c :: t, _, _, e => by cases e
  | c :: t, [], _, _, e => by cases e
  | c :: t, c2 :: t2, h, h2, e => by
    rw [List.map_cons, List.map_cons] at e
    have e1 : ixI c = ixI c2 := (List.cons.inj e).1
    have e2 := (List.cons.inj e).2
    have g1 := (isL_n (h 0 (Nat.succ_pos _))).1
    have g2 := (isL_n (h2 0 (Nat.succ_pos _))).1
    have g1 : c = nI (ixI c) := g1
    have g2 : c2 = nI (ixI c2) := g2
    rw [g1, g2, e1, map_ixI_inj t t2 (fun q hq => h (q + 1) (Nat.succ_lt_succ hq)) (fun q hq => h2 (q + 1) (Nat.succ_lt_succ hq)) e2]
/-- the class sees word i iff the reference reads its name -/
theorem scm_ltr {f : Nat → Int32} {L a i : Nat} (hw : ∀ q, q < (st_b i).length → isL ((st_b i).getD q 0)) (h92 : hre f L a = 92) : scm f L a i ↔ ltr f L a 1 [] = ((st_b i).map ixI).reverse := by
  constructor
  · rintro ⟨-, h1, h2, h3⟩
    have := ltr_w (f := f) (L := L) (a := a) (st_b i) 1 [] (fun j hj => ⟨by rw [show hre f L (a + 1 + j) = f (a + 1 + j) from if_pos (by omega)]; exact h2 j hj, hw j hj⟩) (by
      rcases h3 with h3 | h3
      · rw [show hre f L (a + 1 + (st_b i).length) = 0 from if_neg (by omega)]; exact isL_0
      · intro z
        have := isL_lt z
        rw [show hre f L (a + 1 + (st_b i).length) = f (a + 1 + (st_b i).length) from if_pos (by omega)] at z
        exact h3 z)
    rw [this, List.append_nil]
  · intro h
    obtain ⟨w, e, h1, h2⟩ := ltr_x (f := f) (L := L) (a := a) _ 1 [] rfl
    rw [e, List.append_nil] at h
    have e9 : w = st_b i := map_ixI_inj w (st_b i) (fun q hq => (h1 q hq).2) hw (List.reverse_inj.mp h)
    subst e9
    have hlt : ∀ q, q < (st_b i).length → a + 1 + q < L := fun q hq => by
      have g := h1 q hq
      exact isL_lt (by rw [g.1]; exact g.2)
    refine ⟨h92, ?_, fun j hj => ?_, ?_⟩
    · rcases Nat.eq_zero_or_pos (st_b i).length with e0 | e0
      · rw [e0]
        have : a < L := hre_lt (by rw [h92]; decide)
        omega
      · have := hlt ((st_b i).length - 1) (by omega)
        omega
    · have g := (h1 j hj).1
      rw [show hre f L (a + 1 + j) = f (a + 1 + j) from if_pos (hlt j hj)] at g
      exact g
    · by_cases e0 : a + 1 + (st_b i).length < L
      · refine Or.inr ?_
        rw [show hre f L (a + 1 + (st_b i).length) = f (a + 1 + (st_b i).length) from if_pos e0] at h2
        exact h2
      · refine Or.inl ?_
        rcases Nat.eq_zero_or_pos (st_b i).length with e1 | e1
        · rw [e1] at e0 ⊢
          have : a < L := hre_lt (by rw [h92]; decide)
          omega
        · have := hlt ((st_b i).length - 1) (by omega)
          omega
/-- the name of word i, as the reference packs it -/
theorem nh_scm {f : Nat → Int32} {L a i : Nat} {v : Nat} (hw : ∀ q, q < (st_b i).length → isL ((st_b i).getD q 0)) (hl : (st_b i).length ≤ 5 ∧ 1 ≤ (st_b i).length) (hv : pkR ((st_b i).map ixI).reverse = v) (h92 : hre f L a = 92) : nh f L a 1 0 = Int64.ofNat v ↔ scm f L a i := by
  have hN := nh_ltr (f := f) (L := L) (a := a) _ 1 [] rfl rfl (by decide) (fun c hc => absurd hc List.not_mem_nil)
  have hb := ltr_b (f := f) (L := L) (a := a) _ 1 [] rfl (fun c hc => absurd hc List.not_mem_nil)
  have hb2 : ∀ c ∈ ((st_b i).map ixI).reverse, 0 < c ∧ c < 256 := by
    intro c hc
    obtain ⟨z, hz, rfl⟩ := List.mem_map.mp (List.mem_reverse.mp hc)
    obtain ⟨q, hq, rfl⟩ := List.mem_iff_getElem.mp hz
    have := hw q hq
    rw [List.getD_eq_getElem?_getD, List.getElem?_eq_getElem hq] at this
    have := isL_n this
    dsimp only [Option.getD] at this
    omega
  have hlen : (((st_b i).map ixI).reverse).length = (st_b i).length := by rw [List.length_reverse, List.length_map]
  have hvl : v < 256 ^ 5 ∧ 0 < v := by
    have h1 := pkR_lt _ hb2
    rw [hlen, hv] at h1
    refine ⟨Nat.lt_of_lt_of_le h1 (Nat.pow_le_pow_right (by decide) hl.1), ?_⟩
    rcases Nat.eq_zero_or_pos v with e | e
    · have := pkR_inj _ [] hb2 (fun c hc => absurd hc List.not_mem_nil) (hv.trans e)
      rw [this] at hlen
      have := hl.2
      rw [List.length_nil] at hlen
      omega
    · exact e
  have hN : nh f L a 1 0 = _ := hN
  rw [hN, scm_ltr hw h92]
  have inj : ∀ x y : Nat, x < 256 ^ 5 → y < 256 ^ 5 → Int64.ofNat x = Int64.ofNat y → x = y := by
    intro x y hx hy e
    have := congrArg (fun z : Int64 => z.toBitVec.toNat) e
    have e1 : (BitVec.ofNat 64 x).toNat = (BitVec.ofNat 64 y).toNat := this
    rw [BitVec.toNat_ofNat, BitVec.toNat_ofNat, Nat.mod_eq_of_lt (by omega), Nat.mod_eq_of_lt (by omega)] at e1
    exact e1
  constructor
  · intro h
    by_cases h5 : (ltr f L a 1 []).length ≤ 5
    · rw [if_pos h5] at h
      have g := pkR_lt _ hb
      have := inj _ _ (Nat.lt_of_lt_of_le g (Nat.pow_le_pow_right (by decide) h5)) hvl.1 h
      exact pkR_inj _ _ hb hb2 (this.trans hv.symm)
    · rw [if_neg h5] at h
      have := inj 0 v (by decide) hvl.1 h
      omega
  · intro h
    rw [h, if_pos (by rw [hlen]; exact hl.1), hv]
