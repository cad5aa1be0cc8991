/-! Pure: what measuring makes of a node's own body, in the class's words. By hand. -/
def liE (A : Nat → Nat → Int32) (n s : Nat) : List Nat → Int32 → Int32 → Int32 → Prop
  | [], w, h, d => A 22 n = w ∧ A 23 n = h ∧ A 24 n = d
  | i :: t, w, h, d => (A 29 i = w ∧ A 30 i = 0) ∧ liE A n s t (w + (A 25 i + sp3 s (spv A i t))) (ms h (A 26 i)) (ms d (A 27 i))
abbrev MS : Type := (Nat → Int32) × (Nat → Int32) × (Nat → Int32) × Nat
def mcF (A : Nat → Nat → Int32) (p : MS) (i : Nat) : MS := (upd p.1 (ixI (A 9 i)) (ms (p.1 (ixI (A 9 i))) (A 22 i)), upd p.2.1 (ixI (A 8 i)) (ms (p.2.1 (ixI (A 8 i))) (A 23 i)), upd p.2.2.1 (ixI (A 8 i)) (ms (p.2.2.1 (ixI (A 8 i))) (A 24 i)), ixI (A 8 i) + 1)
def mtQ (A : Nat → Nat → Int32) (n s : Nat) (cs : List Nat) (p : MS) : Prop := A 22 n = mWd p.1 (yS s) (cwc p.1 8 0) ∧ A 23 n = yX s + mAl p.2.1 p.2.2.1 (yS s) p.2.2.2 / 2 ∧ A 24 n = ms 0 (mAl p.2.1 p.2.2.1 (yS s) p.2.2.2 - A 23 n) ∧ ∀ i ∈ cs, A 29 i = mLf p.1 (yS s) (ixI (A 9 i)) + (p.1 (ixI (A 9 i)) - A 22 i) / 2 ∧ A 30 i = mBs p.2.1 p.2.2.1 (yS s) (A 23 n) (ixI (A 8 i)) - p.2.1 (ixI (A 8 i))
def mtE (A : Nat → Nat → Int32) (n s : Nat) (cs : List Nat) : Prop := ∃ f g h : Nat → Int32, mtQ A n s cs (cs.foldl (mcF A) (fil f (-1) 8, fil g (5 * yS s) 8, fil h (2 * yS s) 8, 0))
/-- what holds of node n's own body -/
def EB (A : Nat → Nat → Int32) (n s o t : Nat) (cs : List Nat) : Prop :=
  if A 1 n = 0 then liE A n s cs 0 0 0 ∧ ∀ so : List Nat, cs.map (A 4) = so.map nI → (∀ z ∈ so, z < 8) → cs.map (A 33) = (se2 (se1 none so)).map nI
  else if A 1 n = 1 then A 22 n = sgW (A 2 n) (yS s) ∧ A 23 n = sgH (A 2 n) (yS s) ∧ A 24 n = sgD (A 2 n) (yS s)
  else if A 1 n = 2 then A 22 n = sgW (A 2 n) (opS s) ∧ A 23 n = sgH (A 2 n) (opS s) + opY s (A 2 n) ∧ A 24 n = mx 0 (sgD (A 2 n) (opS s) - opY s (A 2 n)) ∧ A 35 n = opY s (A 2 n)
  else if A 1 n = 3 then A 22 n = A 22 o ∧ A 23 n = A 23 o ∧ A 24 n = A 24 o ∧ A 29 o = 0 ∧ A 30 o = 0
  else if A 1 n = 4 then A 22 n = frW s (A 25 o) (A 25 t) ∧ A 29 o = (A 22 n - A 25 o) / 2 ∧ A 29 t = (A 22 n - A 25 t) / 2 ∧ A 30 o = frU s (A 27 o) ∧ A 30 t = -(frD s (A 26 t)) ∧ A 35 n = frY s ∧ A 23 n = frU s (A 27 o) + A 26 o ∧ A 24 n = frD s (A 26 t) + A 27 t
  else if A 1 n = 5 then A 34 n = rtT s (A 26 o) (A 27 o) ∧ A 23 n = rtY s (A 26 o) + yT s ∧ A 35 n = A 23 n - A 34 n ∧ A 24 n = mx (A 27 o) (A 34 n - A 23 n) ∧ A 22 n = 5 * yS s + A 25 o ∧ A 29 o = 5 * yS s ∧ A 30 o = 0
  else if A 1 n = 8 then A 34 n = sdT s (A 26 o) (A 27 o) ∧ A 35 n = yX s - A 34 n / 2 ∧ A 29 o = (if A 2 n = 46 then 0 else 4 * yS s) ∧ A 30 o = 0 ∧ A 22 n = (if A 2 n = 46 then 0 else 4 * yS s) + A 25 o + (if A 3 n = 46 then 0 else 4 * yS s) ∧ A 23 n = (if A 2 n = 46 ∧ A 3 n = 46 then A 26 o else mx (A 26 o) (yX s + A 34 n / 2)) ∧ A 24 n = (if A 2 n = 46 ∧ A 3 n = 46 then A 27 o else mx (A 27 o) (A 34 n / 2 - yX s))
  else if A 1 n = 9 then mtE A n s cs
  else A 29 o = 0 ∧ A 30 o = 0 ∧ A 22 n = A 25 o ∧ A 24 n = A 27 o ∧ A 35 n = (if A 1 n = 6 then htY s (A 26 o) else A 26 o + yT s) ∧ A 23 n = (if A 1 n = 6 then mx (A 26 o) (htY s (A 26 o) + sgH 94 (yS s)) else A 26 o + 3 * yT s)
/-- what a body's setting may touch -/
def PB (n : Nat) (ks : List Nat) (k m : Nat) : Prop := ¬ ((k = 22 ∨ k = 23 ∨ k = 24 ∨ k = 34 ∨ k = 35) ∧ m = n) ∧ ¬ ((k = 29 ∨ k = 30 ∨ k = 33) ∧ m ∈ ks) ∧ ¬ (36 ≤ k ∧ k ≤ 38)
theorem fr_k {A : Nat → Nat → Int32} {n s a b : Nat} : sam (PB n [a, b]) A (rf_fr A n s a b) := by
  unfold rf_fr PB
  repeat' first | exact sam_0 | exact sgm_0 | apply sam_i | apply sam_u | apply sgm_u | intro _
  all_goals simp_all
theorem sq_k {A : Nat → Nat → Int32} {n s u : Nat} : sam (PB n [u]) A (rf_sq A n s u) := by
  unfold rf_sq PB
  repeat' first | exact sam_0 | exact sgm_0 | apply sam_i | apply sam_u | apply sgm_u | intro _
  all_goals simp_all
theorem ac_k {A : Nat → Nat → Int32} {n s u : Nat} : sam (PB n [u]) A (rf_ac A n s u) := by
  unfold rf_ac PB
  repeat' first | exact sam_0 | exact sgm_0 | apply sam_i | apply sam_u | apply sgm_u | intro _
  all_goals simp_all
theorem lf_k {A : Nat → Nat → Int32} {n s u : Nat} : sam (PB n [u]) A (rf_lf A n s u) := by
  unfold rf_lf PB
  repeat' first | exact sam_0 | exact sgm_0 | apply sam_i | apply sam_u | apply sgm_u | intro _
  all_goals simp_all
theorem la_k {A : Nat → Nat → Int32} {n s : Nat} : sam (PB n []) A (rf_la A n s) := by
  unfold rf_la PB
  repeat' first | exact sam_0 | exact sgm_0 | apply sam_i | apply sam_u | apply sgm_u | intro _
  all_goals simp_all
theorem gr_k {A : Nat → Nat → Int32} {n u : Nat} : sam (PB n [u]) A (rf_gr A n u) := by
  unfold rf_gr PB
  repeat' first | exact sam_0 | exact sgm_0 | apply sam_i | apply sam_u | apply sgm_u | intro _
  all_goals simp_all
theorem ch_k {A : Nat → Nat → Int32} {n s : Nat} : sam (PB n []) A (rf_ch A n s) := by
  unfold rf_ch PB
  repeat' first | exact sam_0 | exact sgm_0 | apply sam_i | apply sam_u | apply sgm_u | intro _
  all_goals simp_all
theorem sq_e {A : Nat → Nat → Int32} {n s u t : Nat} {cs : List Nat} (h1 : A 1 n = 5) (hu : u ≠ n) : EB (rf_sq A n s u) n s u t cs := by
  have hu' := Ne.symm hu
  by_cases c : s = 0
  · have q1 : A 26 u + A 27 u + (yT 0 + yS 0) + yT 0 = A 26 u + yT 0 + yS 0 + yT 0 + A 27 u := by grind
    have q2 : A 26 u + (yT 0 + yS 0) + yT 0 = A 26 u + yT 0 + yS 0 + yT 0 := by grind
    simp [EB, rf_sq, c, h1, up2, upd, hu, hu', rtT, rtY, ms_mx, q1, q2]
    try grind
  · have q1 : A 26 u + A 27 u + 2 * yT s + yT s = A 26 u + yT s + yT s + yT s + A 27 u := by grind
    have q2 : A 26 u + 2 * yT s + yT s = A 26 u + yT s + yT s + yT s := by grind
    simp [EB, rf_sq, c, h1, up2, upd, hu, hu', rtT, rtY, ms_mx, q1, q2]
    try grind
theorem ac_e {A : Nat → Nat → Int32} {n s u t : Nat} {cs : List Nat} (h1 : A 1 n = 6 ∨ A 1 n = 7) (hu : u ≠ n) : EB (rf_ac A n s u) n s u t cs := by
  have hu' := Ne.symm hu
  rcases h1 with h1 | h1
  · simp [EB, rf_ac, h1, up2, upd, hu, hu', htY, ms_mx]
  · simp [EB, rf_ac, h1, up2, upd, hu, hu', htY, ms_mx]
theorem lf_e {A : Nat → Nat → Int32} {n s u t : Nat} {cs : List Nat} (h1 : A 1 n = 8) (hu : u ≠ n) : EB (rf_lf A n s u) n s u t cs := by
  have hu' := Ne.symm hu
  have q : ms (ms (A 26 u - yX s) (A 27 u + yX s)) (4 * yS s) = mx (4 * yS s) (mx (A 26 u - yX s) (A 27 u + yX s)) := by rw [ms_mx, ms_mx, mx_comm]
  by_cases c2 : A 2 n = 46
  · by_cases c3 : A 3 n = 46
    · simp [EB, rf_lf, h1, c2, c3, up2, upd, hu, hu', sdT, q]
    · simp [EB, rf_lf, h1, c2, c3, up2, upd, hu, hu', sdT, q]
      simp [ms_mx]
  · by_cases c3 : A 3 n = 46
    · simp [EB, rf_lf, h1, c2, c3, up2, upd, hu, hu', sdT, q]
      simp [ms_mx]
    · simp [EB, rf_lf, h1, c2, c3, up2, upd, hu, hu', sdT, q]
      simp [ms_mx]
theorem la_e {A : Nat → Nat → Int32} {n s o t : Nat} {cs : List Nat} (h1 : A 1 n = 2) : EB (rf_la A n s) n s o t cs := by
  by_cases c : s = 0
  · simp [EB, rf_la, h1, c, up2, upd, opS, opY, ms_mx]
  · simp [EB, rf_la, h1, c, up2, upd, opS, opY, ms_mx]
theorem gr_e {A : Nat → Nat → Int32} {n s u t : Nat} {cs : List Nat} (h1 : A 1 n = 3) (hu : u ≠ n) : EB (rf_gr A n u) n s u t cs := by
  simp [EB, rf_gr, h1, up2, upd, hu, Ne.symm hu]
theorem ch_e {A : Nat → Nat → Int32} {n s o t : Nat} {cs : List Nat} (h1 : A 1 n = 1) : EB (rf_ch A n s) n s o t cs := by
  simp [EB, rf_ch, h1, up2, upd]
theorem fr_e {A : Nat → Nat → Int32} {n s a b : Nat} {cs : List Nat} (h1 : A 1 n = 4) (ha : a ≠ n) (hb : b ≠ n) (hab : a ≠ b) : EB (rf_fr A n s a b) n s a b cs := by
  have h' := Ne.symm hab
  have ha' := Ne.symm ha
  have hb' := Ne.symm hb
  by_cases c : s = 0
  · simp [EB, rf_fr, c, h1, up2, upd, ha, hb, hab, h', ha', hb', frW, frU, frD, frL, frC, frY, ms_mx]
    grind
  · simp [EB, rf_fr, c, h1, up2, upd, ha, hb, hab, h', ha', hb', frW, frU, frD, frL, frC, frY, ms_mx]
    grind
theorem rl3_f {n s : Nat} : ∀ (t : List Nat) (A : Nat → Nat → Int32), sam (fun k m => ¬ ((k = 22 ∨ k = 23 ∨ k = 24) ∧ m = n) ∧ ¬ ((k = 29 ∨ k = 30) ∧ m ∈ t)) A (rl3 n s t A)
  | [], _ => sam_0
  | i :: t, A => by
    intro k m h
    have e := rl3_f (s := s) t (rl3s n i A (sp3 s (spv A i t))) k m ⟨h.1, fun z => h.2 ⟨z.1, List.mem_cons_of_mem _ z.2⟩⟩
    show rl3 n s t (rl3s n i A (sp3 s (spv A i t))) k m = _
    rw [e]
    have hi : m ∈ [i] → m ∈ i :: t := fun z => by rw [List.mem_singleton.mp z]; exact List.mem_cons_self
    refine (show sam (fun k m => ¬ ((k = 22 ∨ k = 23 ∨ k = 24) ∧ m = n) ∧ ¬ ((k = 29 ∨ k = 30) ∧ m ∈ [i])) A (rl3s n i A (sp3 s (spv A i t))) from ?_) k m ⟨h.1, fun z => h.2 ⟨z.1, hi z.2⟩⟩
    unfold rl3s
    repeat' first | exact sam_0 | exact sgm_0 | apply sam_u | apply sgm_u
    all_goals simp
theorem rl3_e {n s : Nat} : ∀ (t : List Nat) (A : Nat → Nat → Int32), n ∉ t → t.Nodup → liE (rl3 n s t A) n s t (A 22 n) (A 23 n) (A 24 n)
  | [], _, _, _ => ⟨rfl, rfl, rfl⟩
  | i :: t, A, hn, hd => by
    have hi : i ∉ t := (List.nodup_cons.mp hd).1
    have hni : i ≠ n := fun z => hn (z ▸ List.mem_cons_self)
    have hnt : n ∉ t := fun z => hn (List.mem_cons_of_mem _ z)
    obtain ⟨A1, hA1⟩ : ∃ z, z = rl3s n i A (sp3 s (spv A i t)) := ⟨_, rfl⟩
    have g := rl3_e (s := s) t A1 hnt (List.nodup_cons.mp hd).2
    have fr := rl3_f (n := n) (s := s) t A1
    have e0 : rl3 n s (i :: t) A = rl3 n s t A1 := by rw [hA1]; rfl
    rw [e0]
    have o22 : A1 22 n = A 22 n + (A 25 i + sp3 s (spv A i t)) := by rw [hA1]; exact upd_s
    have o23 : A1 23 n = ms (A 23 n) (A 26 i) := by rw [hA1]; exact upd_s
    have o24 : A1 24 n = ms (A 24 n) (A 27 i) := by rw [hA1]; exact upd_s
    have k25 : ∀ k, k ≠ 22 → k ≠ 23 → k ≠ 24 → k ≠ 29 → k ≠ 30 → ∀ m, rl3 n s t A1 k m = A k m := fun k q1 q2 q3 q4 q5 m => by
      rw [fr k m ⟨by omega, by omega⟩, hA1]
      unfold rl3s up2
      rw [if_neg q3, if_neg q2, if_neg q1, if_neg q5, if_neg q4]
    have esp : spv (rl3 n s t A1) i t = spv A i t := by
      unfold spv
      cases t with
      | nil => rfl
      | cons j t =>
        dsimp only
        rw [k25 33 (by decide) (by decide) (by decide) (by decide) (by decide), k25 33 (by decide) (by decide) (by decide) (by decide) (by decide)]
    refine ⟨⟨?_, ?_⟩, ?_⟩
    · rw [fr 29 i ⟨by omega, fun z => hi z.2⟩, hA1]; exact upd_s
    · rw [fr 30 i ⟨by omega, fun z => hi z.2⟩, hA1]; exact upd_s
    · rw [esp, k25 25 (by decide) (by decide) (by decide) (by decide) (by decide), k25 26 (by decide) (by decide) (by decide) (by decide) (by decide), k25 27 (by decide) (by decide) (by decide) (by decide) (by decide), ← o22, ← o23, ← o24]
      exact g
theorem li_k {A : Nat → Nat → Int32} {n s : Nat} {cs : List Nat} : sam (PB n cs) A (rf_li A n s cs) := by
  intro k m h
  unfold rf_li
  rw [rl3_f cs _ k m ⟨fun z => h.1 ⟨by omega, z.2⟩, fun z => h.2.1 ⟨by omega, z.2⟩⟩]
  have e0 : rl0 n (rl2 cs (rl1 cs (-1) A)) k m = rl2 cs (rl1 cs (-1) A) k m := by
    refine (show sam (fun k m => ¬ ((k = 22 ∨ k = 23 ∨ k = 24) ∧ m = n)) (rl2 cs (rl1 cs (-1) A)) (rl0 n (rl2 cs (rl1 cs (-1) A))) from ?_) k m (fun z => h.1 ⟨by omega, z.2⟩)
    unfold rl0
    repeat' first | exact sam_0 | exact sgm_0 | apply sam_u | apply sgm_u
    all_goals simp
  rw [e0]
  by_cases c : k = 33
  · subst c
    have hm : m ∉ cs := fun z => h.2.1 ⟨by omega, z⟩
    rw [rl2_ne cs _ hm, rl1_ne cs _ _ hm]
  · rw [rl2_k c, rl1_k c]
theorem li_e {A : Nat → Nat → Int32} {n s o t : Nat} {cs : List Nat} (h1 : A 1 n = 0) (hn : n ∉ cs) (hd : cs.Nodup) : EB (rf_li A n s cs) n s o t cs := by
  have h1' : rf_li A n s cs 1 n = 0 := by rw [rf_li_k (by decide)]; exact h1
  unfold EB
  rw [if_pos h1']
  refine ⟨?_, fun so hs h8 => ?_⟩
  · have g := rl3_e (s := s) cs (rl0 n (rl2 cs (rl1 cs (-1) A))) hn hd
    have e22 : rl0 n (rl2 cs (rl1 cs (-1) A)) 22 n = 0 := upd_s
    have e23 : rl0 n (rl2 cs (rl1 cs (-1) A)) 23 n = 0 := upd_s
    have e24 : rl0 n (rl2 cs (rl1 cs (-1) A)) 24 n = 0 := upd_s
    rw [e22, e23, e24] at g
    exact g
  · have hs : cs.map (A 4) = so.map nI := by rw [rf_li_k (by decide)] at hs; exact hs
    rw [← rl_se hd hs h8]
    refine List.map_congr_left (fun q hq => ?_)
    unfold rf_li
    rw [rl3_f cs _ 33 q ⟨by omega, by omega⟩]
    rfl
theorem mce_k {k : Nat} (h6 : k ≠ 36) (h7 : k ≠ 37) (h8 : k ≠ 38) : ∀ (cs : List Nat) (p : (Nat → Nat → Int32) × Nat), (cs.foldl mceS p).1 k = p.1 k
  | [], _ => rfl
  | i :: t, p => by
    rw [List.foldl_cons, mce_k h6 h7 h8 t]
    unfold mceS up2
    dsimp only
    rw [if_neg h8, if_neg h7, if_neg h6]
theorem mce_F {A : Nat → Nat → Int32} : ∀ (cs : List Nat) (p : (Nat → Nat → Int32) × Nat), p.1 8 = A 8 → p.1 9 = A 9 → p.1 22 = A 22 → p.1 23 = A 23 → p.1 24 = A 24 → ((cs.foldl mceS p).1 36, (cs.foldl mceS p).1 37, (cs.foldl mceS p).1 38, (cs.foldl mceS p).2) = cs.foldl (mcF A) (p.1 36, p.1 37, p.1 38, p.2)
  | [], _, _, _, _, _, _ => rfl
  | i :: t, p, h8, h9, h22, h23, h24 => by
    have e : ((mceS p i).1 36, (mceS p i).1 37, (mceS p i).1 38, (mceS p i).2) = mcF A (p.1 36, p.1 37, p.1 38, p.2) i := by
      unfold mcF
      rw [← h8, ← h9, ← h22, ← h23, ← h24]
      rfl
    rw [List.foldl_cons, List.foldl_cons, mce_F t (mceS p i) h8 h9 h22 h23 h24, e]
theorem mpl_k {n : Nat} {z : Int32} : ∀ (cs : List Nat) (A : Nat → Nat → Int32), sam (fun k m => ¬ ((k = 29 ∨ k = 30) ∧ m ∈ cs)) A (cs.foldl (mpl n z) A)
  | [], _ => sam_0
  | i :: t, A => by
    intro k m h
    rw [List.foldl_cons, mpl_k t (mpl n z A i) k m (fun w => h ⟨w.1, List.mem_cons_of_mem _ w.2⟩)]
    refine (show sam (fun k m => ¬ ((k = 29 ∨ k = 30) ∧ m ∈ [i])) A (mpl n z A i) from ?_) k m (fun w => h ⟨w.1, by rw [List.mem_singleton.mp w.2]; exact List.mem_cons_self⟩)
    unfold mpl
    repeat' first | exact sam_0 | exact sgm_0 | apply sam_u | apply sgm_u
    all_goals simp
theorem mpl_e {n : Nat} {z : Int32} : ∀ (cs : List Nat) (A : Nat → Nat → Int32), cs.Nodup → ∀ i ∈ cs, (cs.foldl (mpl n z) A) 29 i = mLf (A 36) z (ixI (A 9 i)) + (A 36 (ixI (A 9 i)) - A 22 i) / 2 ∧ (cs.foldl (mpl n z) A) 30 i = mBs (A 37) (A 38) z (A 23 n) (ixI (A 8 i)) - A 37 (ixI (A 8 i))
  | [], _, _, i, hi => absurd hi List.not_mem_nil
  | q :: t, A, hd, i, hi => by
    have hq : q ∉ t := (List.nodup_cons.mp hd).1
    rw [List.foldl_cons]
    have hk : ∀ k, k ≠ 29 → k ≠ 30 → mpl n z A q k = A k := fun k h1 h2 => by
      unfold mpl up2; rw [if_neg h2, if_neg h1]
    by_cases c : i = q
    · subst c
      rw [mpl_k t _ 29 i (fun w => hq w.2), mpl_k t _ 30 i (fun w => hq w.2)]
      exact ⟨upd_s, upd_s⟩
    · have hit : i ∈ t := (List.mem_cons.mp hi).resolve_left c
      have g := mpl_e (n := n) (z := z) t (mpl n z A q) (List.nodup_cons.mp hd).2 i hit
      rw [hk 36 (by decide) (by decide), hk 37 (by decide) (by decide), hk 38 (by decide) (by decide), hk 9 (by decide) (by decide), hk 8 (by decide) (by decide), hk 22 (by decide) (by decide), hk 23 (by decide) (by decide)] at g
      exact g
theorem mPk {A : Nat → Nat → Int32} {s k : Nat} {cs : List Nat} (h6 : k ≠ 36) (h7 : k ≠ 37) (h8 : k ≠ 38) : (mP A s cs).1 k = A k := by
  unfold mP
  rw [mce_k h6 h7 h8]
  unfold rmz up2
  dsimp only
  rw [if_neg h8, if_neg h7, if_neg h6]
theorem mP_F {A : Nat → Nat → Int32} {s : Nat} {cs : List Nat} : ((mP A s cs).1 36, (mP A s cs).1 37, (mP A s cs).1 38, (mP A s cs).2) = cs.foldl (mcF A) (fil (A 36) (-1) 8, fil (A 37) (5 * yS s) 8, fil (A 38) (2 * yS s) 8, 0) := mce_F cs (rmz A (yS s) 8, 0) rfl rfl rfl rfl rfl
theorem mcF_1 {A A' : Nat → Nat → Int32} {i : Nat} {p : MS} (h : A' 8 i = A 8 i ∧ A' 9 i = A 9 i ∧ A' 22 i = A 22 i ∧ A' 23 i = A 23 i ∧ A' 24 i = A 24 i) : mcF A' p i = mcF A p i := by
  obtain ⟨h1, h2, h3, h4, h5⟩ := h
  unfold mcF
  rw [h1, h2, h3, h4, h5]
theorem mcF_ag {A A' : Nat → Nat → Int32} (cs : List Nat) (p : MS) (h : ∀ i ∈ cs, A' 8 i = A 8 i ∧ A' 9 i = A 9 i ∧ A' 22 i = A 22 i ∧ A' 23 i = A 23 i ∧ A' 24 i = A 24 i) : cs.foldl (mcF A') p = cs.foldl (mcF A) p := by
  induction cs generalizing p with
  | nil => rw [List.foldl_nil, List.foldl_nil]
  | cons i t ih =>
    rw [List.foldl_cons, List.foldl_cons, mcF_1 (h i List.mem_cons_self)]
    exact ih _ (fun q hq => h q (List.mem_cons_of_mem _ hq))
theorem mt_k {A : Nat → Nat → Int32} {n s cw : Nat} {cs : List Nat} : sam (PB n cs) A (rf_mt A n s cw cs) := by
  intro k m h
  unfold rf_mt
  rw [mpl_k cs _ k m (fun z => h.2.1 ⟨by omega, z.2⟩)]
  have e : mwS (mA3 n s (mP A s cs)) n (yS s) cw k m = (mP A s cs).1 k m := by
    refine (show sam (fun k m => ¬ ((k = 22 ∨ k = 23 ∨ k = 24) ∧ m = n)) (mP A s cs).1 (mwS (mA3 n s (mP A s cs)) n (yS s) cw) from ?_) k m (fun z => h.1 ⟨by omega, z.2⟩)
    unfold mwS mA3
    repeat' first | exact sam_0 | exact sgm_0 | apply sam_u | apply sgm_u
    all_goals simp
  rw [e]
  exact congrFun (mPk (fun z => h.2.2 (by omega)) (fun z => h.2.2 (by omega)) (fun z => h.2.2 (by omega))) m
theorem mt_e {A : Nat → Nat → Int32} {n s o t : Nat} {cs : List Nat} (h1 : A 1 n = 9) (hn : n ∉ cs) (hd : cs.Nodup) : EB (rf_mt A n s (cwc ((mP A s cs).1 36) 8 0) cs) n s o t cs := by
  obtain ⟨cw, hcw⟩ : ∃ z, z = cwc ((mP A s cs).1 36) 8 0 := ⟨_, rfl⟩
  rw [← hcw]
  have h1' : rf_mt A n s cw cs 1 n = 9 := by rw [rf_mt_k (by decide)]; exact h1
  unfold EB
  rw [h1', if_neg (by decide), if_neg (by decide), if_neg (by decide), if_neg (by decide), if_neg (by decide), if_neg (by decide), if_neg (by decide), if_pos rfl]
  refine ⟨A 36, A 37, A 38, ?_⟩
  have eA : ∀ i ∈ cs, rf_mt A n s cw cs 8 i = A 8 i ∧ rf_mt A n s cw cs 9 i = A 9 i ∧ rf_mt A n s cw cs 22 i = A 22 i ∧ rf_mt A n s cw cs 23 i = A 23 i ∧ rf_mt A n s cw cs 24 i = A 24 i := fun i hi => by
    have hin : i ≠ n := fun z => hn (z ▸ hi)
    exact ⟨by rw [rf_mt_k (by decide)], by rw [rf_mt_k (by decide)], mt_k 22 i ⟨by omega, by omega, by omega⟩, mt_k 23 i ⟨by omega, by omega, by omega⟩, mt_k 24 i ⟨by omega, by omega, by omega⟩⟩
  rw [mcF_ag cs _ eA, ← mP_F]
  obtain ⟨B, hB⟩ : ∃ z, z = mwS (mA3 n s (mP A s cs)) n (yS s) cw := ⟨_, rfl⟩
  have eR : rf_mt A n s cw cs = cs.foldl (mpl n (yS s)) B := by rw [hB]; rfl
  have e22 : rf_mt A n s cw cs 22 n = mWd ((mP A s cs).1 36) (yS s) cw := by
    rw [eR, mpl_k cs _ 22 n (by omega), hB]
    exact upd_s
  have e23 : rf_mt A n s cw cs 23 n = yX s + mAl ((mP A s cs).1 37) ((mP A s cs).1 38) (yS s) (mP A s cs).2 / 2 := by
    rw [eR, mpl_k cs _ 23 n (by omega), hB]
    exact upd_s
  have e24 : rf_mt A n s cw cs 24 n = ms 0 (mAl ((mP A s cs).1 37) ((mP A s cs).1 38) (yS s) (mP A s cs).2 - (yX s + mAl ((mP A s cs).1 37) ((mP A s cs).1 38) (yS s) (mP A s cs).2 / 2)) := by
    rw [eR, mpl_k cs _ 24 n (by omega), hB]
    exact upd_s
  refine ⟨by rw [e22, hcw], e23, by rw [e24, e23], fun i hi => ?_⟩
  have hin : i ≠ n := fun z => hn (z ▸ hi)
  obtain ⟨q1, q2, q3, q4, q5⟩ := eA i hi
  have g := mpl_e (n := n) (z := yS s) cs B hd i hi
  rw [← eR] at g
  have bk : ∀ k, k ≠ 22 → k ≠ 23 → k ≠ 24 → B k = (mP A s cs).1 k := fun k h2 h3 h4 => by
    rw [hB]; unfold mwS mA3 up2
    rw [if_neg h2, if_neg h4, if_neg h3]
  have b22 : B 22 i = A 22 i := by
    have : B 22 i = (mP A s cs).1 22 i := by rw [hB]; exact upd_n hin
    rw [this, mPk (by decide) (by decide) (by decide)]
  have b23 : B 23 n = rf_mt A n s cw cs 23 n := by rw [eR, mpl_k cs _ 23 n (by omega)]
  rw [bk 36 (by decide) (by decide) (by decide), bk 37 (by decide) (by decide) (by decide), bk 38 (by decide) (by decide) (by decide), bk 9 (by decide) (by decide) (by decide), bk 8 (by decide) (by decide) (by decide), mPk (k := 9) (by decide) (by decide) (by decide), mPk (k := 8) (by decide) (by decide) (by decide), b22, b23] at g
  rw [q1, q2, q3]
  exact g
