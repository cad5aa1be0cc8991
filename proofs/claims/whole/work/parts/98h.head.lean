/-! Pure: the head of a nucleus, as the class and as the reference see it. By hand. -/
theorem ll_ltr {f : Nat → Int32} {L a : Nat} : ∀ (j k : Nat) (acc : List Nat), L - (a + k) = j → (ltr f L a k acc).length + k = ll f L a k + acc.length := by
  intro j
  induction j with
  | zero =>
    intro k acc hj
    have e : ¬ isL (hre f L (a + k)) := fun z => by have := isL_lt z; omega
    rw [ltr_n e, ll, dif_neg e]; omega
  | succ j ih =>
    intro k acc hj
    by_cases e : isL (hre f L (a + k))
    · have := ih (k + 1) (ixI (hre f L (a + k)) :: acc) (by omega)
      rw [List.length_cons] at this
      rw [ltr_y e, ll, dif_pos e]
      omega
    · rw [ltr_n e, ll, dif_neg e]; omega
theorem st_L : ∀ i, i ∈ [0, 18, 19, 20, 22, 23, 24, 25, 26, 27] → (∀ q, q < (st_b i).length → isL ((st_b i).getD q 0)) ∧ (st_b i).length ≤ 5 ∧ 1 ≤ (st_b i).length := by decide
theorem scm_ll {f : Nat → Int32} {L a i : Nat} (hi : i ∈ [0, 18, 19, 20, 22, 23, 24, 25, 26, 27]) (h : scm f L a i) : ll f L a 1 = (st_b i).length + 1 := by
  have h1 := (scm_ltr (st_L i hi).1 h.1).mp h
  have h2 := ll_ltr (f := f) (L := L) (a := a) _ 1 [] rfl
  rw [h1, List.length_reverse, List.length_map, List.length_nil] at h2
  omega
/-- two words are never seen at one place -/
theorem scm_un {f : Nat → Int32} {L a i j : Nat} (hi : i ∈ [0, 18, 19, 20, 22, 23, 24, 25, 26, 27]) (hj : j ∈ [0, 18, 19, 20, 22, 23, 24, 25, 26, 27]) (h : scm f L a i) (h2 : scm f L a j) : i = j := by
  have e := ((scm_ltr (st_L i hi).1 h.1).mp h).symm.trans ((scm_ltr (st_L j hj).1 h2.1).mp h2)
  have u : ∀ i, i ∈ [0, 18, 19, 20, 22, 23, 24, 25, 26, 27] → ∀ j, j ∈ [0, 18, 19, 20, 22, 23, 24, 25, 26, 27] → ((st_b i).map ixI).reverse = ((st_b j).map ixI).reverse → i = j := by decide
  exact u i hi j hj e
theorem kC_in : ∀ k, k < 11 → 2 ≤ k → kC k ∈ [0, 18, 19, 20, 22, 23, 24, 25, 26, 27] := by decide
theorem kC_un : ∀ k, k < 11 → 2 ≤ k → ∀ j, j < 11 → 2 ≤ j → kC k = kC j → k = j := by decide
theorem kC_len : ∀ k, k < 11 → (¬ (st_b (kC k)).length = 0 ↔ 2 ≤ k) := by decide
theorem cmdK_some {f : Nat → Int32} {L a : Nat} : ∀ (t k q : Nat), t + k = 11 → cmdK f L a k = some q → k ≤ q ∧ q < 11 ∧ 2 ≤ q ∧ scm f L a (kC q) := by
  intro t
  induction t with
  | zero => intro k q ht h; rw [cmdK, dif_neg (by omega)] at h; cases h
  | succ t ih =>
    intro k q ht h
    rw [cmdK, dif_pos (by omega)] at h
    by_cases e : ¬ (st_b (kC k)).length = 0 ∧ scm f L a (kC k)
    · rw [if_pos e] at h
      cases h
      exact ⟨Nat.le_refl _, by omega, (kC_len k (by omega)).mp e.1, e.2⟩
    · rw [if_neg e] at h
      have := ih (k + 1) q (by omega) h
      exact ⟨by omega, this.2⟩
theorem cmdK_none {f : Nat → Int32} {L a : Nat} : ∀ (t k : Nat), t + k = 11 → cmdK f L a k = none → ∀ q, k ≤ q → q < 11 → 2 ≤ q → ¬ scm f L a (kC q) := by
  intro t
  induction t with
  | zero => intro k ht h q h1 h2; omega
  | succ t ih =>
    intro k ht h q h1 h2 h3 hs
    rw [cmdK, dif_pos (by omega)] at h
    by_cases e : ¬ (st_b (kC k)).length = 0 ∧ scm f L a (kC k)
    · rw [if_pos e] at h; cases h
    · rw [if_neg e] at h
      by_cases e2 : k = q
      · subst e2; exact e ⟨(kC_len k (by omega)).mpr h3, hs⟩
      · exact ih (k + 1) (by omega) h q (by omega) h2 h3 hs
/-- the names the reference knows -/
def nmV (k : Nat) : Nat := [0, 0, 7566701, 1886547812, 6909556, 1718772067, 1936814708, 6840692, 6447474, 1818584692, 7168372].getD k 0
theorem nmV_pk : ∀ k, k < 11 → 2 ≤ k → pkR ((st_b (kC k)).map ixI).reverse = nmV k := by decide
theorem nm_scm {f : Nat → Int32} {L a k : Nat} (h92 : hre f L a = 92) (hk : k < 11) (h2 : 2 ≤ k) : nh f L a 1 0 = Int64.ofNat (nmV k) ↔ scm f L a (kC k) :=
  nh_scm (st_L _ (kC_in k hk h2)).1 (st_L _ (kC_in k hk h2)).2 (nmV_pk k hk h2) h92
theorem nm_right {f : Nat → Int32} {L a : Nat} (h92 : hre f L a = 92) : nh f L a 1 0 = 491394656372 ↔ scm f L a 0 :=
  nh_scm (i := 0) (v := 491394656372) (st_L 0 (by decide)).1 (st_L 0 (by decide)).2 (by decide) h92
/-- what begins with a head of kind k -/
def rz_hd (A : Nat → Nat → Int32) (L k a1 : Nat) (cd : Int32) (t N U O : Nat) : RS :=
  if k = 0 then rz_one A a1 0 N U O 1 (nI t) cd
  else if k = 1 then (rf_ins (rz_N A N O 3 0) (N + 1) O N 1, a1, rz_W A O U 0, N + 2, U + 1, O + 1)
  else if k < 5 then rz_one A a1 0 N U O 2 1 cd
  else if k = 5 then rz_cmd A a1 0 N U O 4 7 else if k = 6 then rz_cmd A a1 0 N U O 5 0 else if k = 7 then rz_cmd A a1 0 N U O 6 0 else if k = 8 then rz_cmd A a1 0 N U O 7 0
  else if k = 9 then rz_left A L a1 0 N U O else rz_mat A L a1 0 N U O
theorem sort_chA (c : Int32) : sorto c = (chA c).elim (-1) nI := by
  have m1 : ∀ c : Int32, c ∈ st_b 1 ↔ c = 46 ∨ c = 33 ∨ c = 47 ∨ c = 124 := fun c => by show c ∈ [46, 33, 47, 124] ↔ _; simp only [List.mem_cons, List.not_mem_nil, or_false]
  have m2 : ∀ c : Int32, c ∈ st_b 2 ↔ c = 43 ∨ c = 45 ∨ c = 42 := fun c => by show c ∈ [43, 45, 42] ↔ _; simp only [List.mem_cons, List.not_mem_nil, or_false]
  have m3 : ∀ c : Int32, c ∈ st_b 3 ↔ c = 61 ∨ c = 60 ∨ c = 62 := fun c => by show c ∈ [61, 60, 62] ↔ _; simp only [List.mem_cons, List.not_mem_nil, or_false]
  have m4 : ∀ c : Int32, c ∈ st_b 4 ↔ c = 40 ∨ c = 91 := fun c => by show c ∈ [40, 91] ↔ _; simp only [List.mem_cons, List.not_mem_nil, or_false]
  have m5 : ∀ c : Int32, c ∈ st_b 5 ↔ c = 41 ∨ c = 93 := fun c => by show c ∈ [41, 93] ↔ _; simp only [List.mem_cons, List.not_mem_nil, or_false]
  have m6 : ∀ c : Int32, c ∈ st_b 6 ↔ c = 44 ∨ c = 59 := fun c => by show c ∈ [44, 59] ↔ _; simp only [List.mem_cons, List.not_mem_nil, or_false]
  unfold sorto chA ch0
  simp only [m1, m2, m3, m4, m5, m6]
  by_cases e0 : isL c ∨ (48 ≤ c ∧ c ≤ 57) ∨ c = 46 ∨ c = 33 ∨ c = 47 ∨ c = 124
  · rw [if_pos e0, if_pos e0]; rfl
  · rw [if_neg e0, if_neg e0]
    by_cases e1 : c = 43 ∨ c = 45 ∨ c = 42
    · rw [if_pos e1, if_pos e1]; rfl
    · rw [if_neg e1, if_neg e1]
      by_cases e2 : c = 61 ∨ c = 60 ∨ c = 62
      · rw [if_pos e2, if_pos e2]; rfl
      · rw [if_neg e2, if_neg e2]
        by_cases e3 : c = 40 ∨ c = 91
        · rw [if_pos e3, if_pos e3]; rfl
        · rw [if_neg e3, if_neg e3]
          by_cases e4 : c = 41 ∨ c = 93
          · rw [if_pos e4, if_pos e4]; rfl
          · rw [if_neg e4, if_neg e4]
            by_cases e5 : c = 44 ∨ c = 59
            · rw [if_pos e5, if_pos e5]; rfl
            · rw [if_neg e5, if_neg e5]; rfl
theorem begin_hd {f : Nat → Int32} {A : Nat → Nat → Int32} {L a k a1 t N U O : Nat} {cd : Int32} (hA : A 0 = f) (h : rdHead f L a = some (k, a1, cd, t)) : rz_begin A L a 0 N U O = rz_hd A L k a1 cd t N U O ∧ k < 11 ∧ t < 8 ∧ a < a1 := by
  subst hA
  unfold rdHead at h
  unfold rz_begin
  by_cases h92 : hre (A 0) L a = 92
  · rw [if_pos h92] at h
    obtain ⟨q, hq, e⟩ := Option.map_eq_some_iff.mp h
    cases e
    obtain ⟨-, g1, g2, g3⟩ := cmdK_some 11 0 k rfl hq
    have hll := scm_ll (kC_in k g1 g2) g3
    have hn : ∀ j, j < 11 → 2 ≤ j → (nh (A 0) L a 1 0 = Int64.ofNat (nmV j) ↔ k = j) := fun j hj hj2 =>
      ⟨fun z => kC_un k g1 g2 j hj hj2 (scm_un (kC_in k g1 g2) (kC_in j hj hj2) g3 ((nm_scm h92 hj hj2).mp z)), fun z => (nm_scm h92 hj hj2).mpr (z ▸ g3)⟩
    refine ⟨?_, g1, ?_, ?_⟩
    · rw [if_neg (by rw [h92]; decide), if_pos h92]
      unfold rz_obey
      have hc : cmdA a (some k) = a + ll (A 0) L a 1 := by rw [hll]; rfl
      rw [hc]
      have q2 : nh (A 0) L a 1 0 = 7566701 ↔ k = 2 := hn 2 (by decide) (by decide)
      have q3 : nh (A 0) L a 1 0 = 1886547812 ↔ k = 3 := hn 3 (by decide) (by decide)
      have q4 : nh (A 0) L a 1 0 = 6909556 ↔ k = 4 := hn 4 (by decide) (by decide)
      have q5 : nh (A 0) L a 1 0 = 1718772067 ↔ k = 5 := hn 5 (by decide) (by decide)
      have q6 : nh (A 0) L a 1 0 = 1936814708 ↔ k = 6 := hn 6 (by decide) (by decide)
      have q7 : nh (A 0) L a 1 0 = 6840692 ↔ k = 7 := hn 7 (by decide) (by decide)
      have q8 : nh (A 0) L a 1 0 = 6447474 ↔ k = 8 := hn 8 (by decide) (by decide)
      have q9 : nh (A 0) L a 1 0 = 1818584692 ↔ k = 9 := hn 9 (by decide) (by decide)
      have q10 : nh (A 0) L a 1 0 = 7168372 ↔ k = 10 := hn 10 (by decide) (by decide)
      simp only [q2, q3, q4, q5, q6, q7, q8, q9, q10]
      generalize a + ll (A 0) L a 1 = b1
      have o2 : kO 2 = 83 := rfl
      have o3 : kO 3 = 80 := rfl
      have o4 : kO 4 = 73 := rfl
      unfold rz_hd
      rcases (by omega : k = 2 ∨ k = 3 ∨ k = 4 ∨ k = 5 ∨ k = 6 ∨ k = 7 ∨ k = 8 ∨ k = 9 ∨ k = 10) with rfl | rfl | rfl | rfl | rfl | rfl | rfl | rfl | rfl <;> simp [o2, o3, o4]
    · have : ∀ k, k < 11 → kAt k < 8 := by decide
      exact this k g1
    · show a < a + ((st_b (kC k)).length + 1)
      omega
  · rw [if_neg h92] at h
    by_cases h123 : hre (A 0) L a = 123
    · rw [if_pos h123] at h
      cases h
      refine ⟨?_, by decide, by decide, by omega⟩
      rw [if_pos h123]
      rfl
    · rw [if_neg h123] at h
      obtain ⟨t9, ht, e⟩ := Option.map_eq_some_iff.mp h
      cases e
      have hs : sorto (hre (A 0) L a) = nI t := by rw [sort_chA, ht]; rfl
      have h7 := chA_lt ht
      refine ⟨?_, by decide, by omega, by omega⟩
      rw [if_neg h123, if_neg h92, if_pos (by rw [hs]; exact Int32.not_lt.mp (nI_pos (by omega))), hs]
      rfl
theorem begin_no {f : Nat → Int32} {A : Nat → Nat → Int32} {L a N U O : Nat} (hA : A 0 = f) (h : rdHead f L a = none) : (rz_begin A L a 0 N U O).2.2.1 = 1 := by
  subst hA
  unfold rdHead at h
  unfold rz_begin
  by_cases h92 : hre (A 0) L a = 92
  · rw [if_pos h92] at h
    have hk := Option.map_eq_none_iff.mp h
    have hn : ∀ j, j < 11 → 2 ≤ j → ¬ nh (A 0) L a 1 0 = Int64.ofNat (nmV j) := fun j hj hj2 z => cmdK_none 11 0 rfl hk j (Nat.zero_le _) hj hj2 ((nm_scm h92 hj hj2).mp z)
    rw [if_neg (by rw [h92]; decide), if_pos h92]
    unfold rz_obey
    have q2 : ¬ nh (A 0) L a 1 0 = 7566701 := hn 2 (by decide) (by decide)
    have q3 : ¬ nh (A 0) L a 1 0 = 1886547812 := hn 3 (by decide) (by decide)
    have q4 : ¬ nh (A 0) L a 1 0 = 6909556 := hn 4 (by decide) (by decide)
    have q5 : ¬ nh (A 0) L a 1 0 = 1718772067 := hn 5 (by decide) (by decide)
    have q6 : ¬ nh (A 0) L a 1 0 = 1936814708 := hn 6 (by decide) (by decide)
    have q7 : ¬ nh (A 0) L a 1 0 = 6840692 := hn 7 (by decide) (by decide)
    have q8 : ¬ nh (A 0) L a 1 0 = 6447474 := hn 8 (by decide) (by decide)
    have q9 : ¬ nh (A 0) L a 1 0 = 1818584692 := hn 9 (by decide) (by decide)
    have q10 : ¬ nh (A 0) L a 1 0 = 7168372 := hn 10 (by decide) (by decide)
    rw [if_neg q2, if_neg q3, if_neg q4, if_neg q5, if_neg q6, if_neg q7, if_neg q8, if_neg q9, if_neg q10]
  · rw [if_neg h92] at h
    by_cases h123 : hre (A 0) L a = 123
    · rw [if_pos h123] at h; cases h
    · rw [if_neg h123] at h
      have ht := Option.map_eq_none_iff.mp h
      have hs : sorto (hre (A 0) L a) = -1 := by rw [sort_chA, ht]; rfl
      rw [if_neg h123, if_neg h92, if_neg (by rw [hs]; decide)]
