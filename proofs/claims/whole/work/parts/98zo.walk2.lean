/-! Pure: the walk over a node, over a tree. By hand. -/
theorem nxA_tl {f : Nat → Int32} {c : Nat} {t : List Nat} (h : nxA f (c :: t)) : nxA f t := h.2.2
theorem list_go {X : Nat → Nat → Int32} {N k n : Nat} (hX : okX X N) (hn : n < N) (hv : X 1 n = 0 ∨ X 1 n = 9) (hS : ∀ c ∈ chN X n, SUB X k c) : ∀ (t : List Nat) (W : Nat → Nat → Int32) (T P cu : Nat), nxA (X 7) t → (∀ c ∈ t, c ∈ chN X n) → eqW W X → fr W T n 0 cu → cu < 400 → ((cu = 0 ∧ t = chN X n) ∨ (cu ≠ 0 ∧ X 7 cu = nI (hdz t))) → T + (k + 1) < 39 → P + (t.flatMap (wl X k)).length < 240 → ∃ W', WK (W, T + 1, P) (W', T + 1, P + (t.flatMap (wl X k)).length) ∧ eqW W' X ∧ W' 41 = putL (W 41) P (t.flatMap (wl X k)) ∧ fr W' T n 2 0 ∧ ∀ j, j < T → W' 17 j = W 17 j ∧ W' 39 j = W 39 j ∧ W' 40 j = W 40 j := by
  intro t
  have h70 : X 7 0 = nI 0 := hX.1.2
  have hkc := (hX.2 n hn).2.2.2.2.2.2
  have hN := hX.1.1
  -- one turn
  have turn : ∀ (t : List Nat) (W : Nat → Nat → Int32) (T P cu : Nat), (∀ c ∈ t, c ∈ chN X n) → eqW W X → fr W T n 0 cu → cu < 400 → ((cu = 0 ∧ t = chN X n) ∨ (cu ≠ 0 ∧ X 7 cu = nI (hdz t))) → T + (k + 1) < 39 → P < 240 → WK (W, T + 1, P) (if hdz t = 0 then (up2 (up2 W 40 (upd (W 40) T (nI (hdz t)))) 39 (upd (W 39) T 2), T + 1, P) else (rf_ent (up2 W 40 (upd (W 40) T (nI (hdz t)))) (T + 1) (nI (hdz t)), T + 1 + 1, P)) := by
    intro t W T P cu ht hW hf hcu hc hT hP
    have hh : hdz t < 400 := by
      unfold hdz
      cases t with
      | nil => decide
      | cons c t => exact hkc c (ht c List.mem_cons_self)
    have w1 : W 1 = X 1 := hW 1 (by decide) (by decide) (by decide) (by decide)
    rcases hc with ⟨c0, ct⟩ | ⟨c0, ct⟩
    · have r := wk_go (P := P) hX hW hf hn (by decide) hcu (by rw [c0]; exact h70) (by decide) (by omega) hP
      have e : rf_wk W T n (ixI (X 20 n)) 0 cu (hdz (chN X n)) 0 (ixI (X 10 n)) (ixI (X 11 n)) (ixI (X 12 n)) (ixI (X 13 n)) P = if hdz t = 0 then (up2 (up2 W 40 (upd (W 40) T (nI (hdz t)))) 39 (upd (W 39) T 2), T + 1, P) else (rf_ent (up2 W 40 (upd (W 40) T (nI (hdz t)))) (T + 1) (nI (hdz t)), T + 1 + 1, P) := by
        unfold rf_wk
        rw [if_pos rfl, w1, ct]
        rcases hv with v | v
        · rw [if_pos v, if_pos c0]
        · rw [if_neg (by rw [v]; decide), if_pos v, if_pos c0]
      rw [e] at r
      exact r
    · have r := wk_go (P := P) hX hW hf hn (by decide) hcu ct hh (by omega) hP
      have e : rf_wk W T n (ixI (X 20 n)) 0 cu (hdz (chN X n)) (hdz t) (ixI (X 10 n)) (ixI (X 11 n)) (ixI (X 12 n)) (ixI (X 13 n)) P = if hdz t = 0 then (up2 (up2 W 40 (upd (W 40) T (nI (hdz t)))) 39 (upd (W 39) T 2), T + 1, P) else (rf_ent (up2 W 40 (upd (W 40) T (nI (hdz t)))) (T + 1) (nI (hdz t)), T + 1 + 1, P) := by
        unfold rf_wk
        rw [if_pos rfl, w1]
        rcases hv with v | v
        · rw [if_pos v, if_neg c0]
        · rw [if_neg (by rw [v]; decide), if_pos v, if_neg c0]
      rw [e] at r
      exact r
  induction t with
  | nil =>
    intro W T P cu hnt ht hW hf hcu hc hT hP
    have r := turn [] W T P cu ht hW hf hcu hc hT (by simp at hP; omega)
    rw [if_pos (show hdz [] = 0 from rfl)] at r
    refine ⟨_, r, fun j a b c d => ?_, rfl, ⟨hf.1, ?_, ?_⟩, fun j hj => ⟨rfl, ?_, ?_⟩⟩
    · rw [up2_n b, up2_n c]; exact hW j a b c d
    · show upd (W 39) T 2 T = _
      rw [upd_s]; rfl
    · show upd (W 40) T (nI 0) T = _
      rw [upd_s]
    · exact upd_n (by omega)
    · exact upd_n (by omega)
  | cons c t ih =>
    intro W T P cu hnt ht hW hf hcu hc hT hP
    rw [List.flatMap_cons, List.length_append] at hP
    have hc0 : 0 < c ∧ c < 400 := hnt.1
    have r := turn (c :: t) W T P cu ht hW hf hcu hc hT (by omega)
    rw [show hdz (c :: t) = c from rfl, if_neg (by omega)] at r
    obtain ⟨V, hV⟩ : ∃ z, z = up2 W 40 (upd (W 40) T (nI c)) := ⟨_, rfl⟩
    rw [← hV] at r
    have v1 : eqW V X := fun j a b d e => by rw [hV, up2_n d]; exact hW j a b d e
    have v2 : fr V T n 0 c := ⟨by rw [hV]; exact hf.1, by rw [hV]; exact hf.2.1, by rw [hV]; show upd (W 40) T (nI c) T = _; rw [upd_s]⟩
    have v3 : ∀ j, j < T → V 17 j = W 17 j ∧ V 39 j = W 39 j ∧ V 40 j = W 40 j := fun j hj => by rw [hV]; exact ⟨rfl, rfl, upd_n (by omega)⟩
    have v4 : V 41 = W 41 := by rw [hV]; rfl
    have hS' := hS c (ht c List.mem_cons_self)
    have ec : ¬ c = 0 := by omega
    obtain ⟨W1, w1, w2, w3, w4, w5⟩ := part_go (k := k) (P := P) (c := c) v1 v2 (by omega) (by rw [if_neg ec]; omega) (fun _ => hS')
    rw [if_neg ec] at w1 w3
    rw [if_neg ec] at w1
    obtain ⟨W2, z1, z2, z3, z4, z5⟩ := ih W1 T (P + (wl X k c).length) c hnt.2.2 (fun q hq => ht q (List.mem_cons_of_mem _ hq)) w2 w4 hc0.2 (Or.inr ⟨ec, hnt.2.1⟩) hT (by omega)
    refine ⟨W2, ?_, z2, ?_, z4, fun j hj => ?_⟩
    · rw [List.flatMap_cons, List.length_append, ← Nat.add_assoc]
      exact (r.trans w1).trans z1
    · rw [z3, w3, v4, List.flatMap_cons, putL_app]
    · have a := z5 j hj
      have b := w5 j hj
      have d := v3 j hj
      exact ⟨a.1.trans (b.1.trans d.1), a.2.1.trans (b.2.1.trans d.2.1), a.2.2.trans (b.2.2.trans d.2.2)⟩
theorem node_go {X : Nat → Nat → Int32} {N k n : Nat} (hX : okX X N) (hn : n < N) (hS : ∀ c ∈ kdN X n, c ≠ 0 → SUB X k c) (hb : X 1 n = 1 ∨ X 1 n = 2 → ixI (X 10 n) = 0) (ht : ¬ X 1 n = 4 → ixI (X 11 n) = 0) : SUB X (k + 1) n := by
  intro W T P hW hf hT hP
  have h12 : ixI (X 12 n) ≠ 0 → SUB X k (ixI (X 12 n)) := hS _ (by show _ ∈ kd _ _ _ _ _ _; unfold kd; simp)
  have h13 : ixI (X 13 n) ≠ 0 → SUB X k (ixI (X 13 n)) := hS _ (by show _ ∈ kd _ _ _ _ _ _; unfold kd; simp)
  have h70 : X 7 0 = nI 0 := hX.1.2
  obtain ⟨sc, hsc⟩ : ∃ z, z = (if ixI (X 12 n) = 0 then ([] : List PT) else wl X k (ixI (X 12 n))) ++ (if ixI (X 13 n) = 0 then ([] : List PT) else wl X k (ixI (X 13 n))) := ⟨_, rfl⟩
  by_cases hv : X 1 n = 0 ∨ X 1 n = 9
  · have ewl : wl X (k + 1) n = (chN X n).flatMap (wl X k) ++ sc := by
      rw [wl, if_pos hv, hsc, List.append_assoc]
    rw [ewl, List.length_append] at hP ⊢
    have hkb : ∀ c ∈ chN X n, c ∈ kdN X n := fun c hc => by
      show _ ∈ kd _ _ _ _ _ _
      unfold kd kb
      rw [if_pos hv]
      exact List.mem_cons_of_mem _ (List.mem_cons_of_mem _ hc)
    have hnx := (hX.2 n hn).2.2.2.2.2.1.2
    have h0 : ∀ (t : List Nat), nxA (X 7) t → ∀ c ∈ t, c ≠ 0 := by
      intro t
      induction t with
      | nil => exact fun _ c hc => absurd hc List.not_mem_nil
      | cons a t ih =>
        intro h c hc
        rcases List.mem_cons.mp hc with rfl | hc
        · have := h.1; omega
        · exact ih h.2.2 c hc
    obtain ⟨W1, w1, w2, w3, w4, w5⟩ := list_go hX hn hv (fun c hc => hS c (hkb c hc) (h0 _ hnx c hc)) (chN X n) W T P 0 hnx (fun c hc => hc) hW hf (by decide) (Or.inl ⟨rfl, rfl⟩) (by omega) (by omega)
    obtain ⟨W2, z1, z2, z3, z5⟩ := scr_go (k := k) (P := P + ((chN X n).flatMap (wl X k)).length) hX w2 w4 hn ⟨0, h70, by decide, by decide⟩ (by omega) (by rw [← hsc]; omega) h12 h13
    rw [← hsc] at z1 z3
    refine ⟨W2, ?_, z2, ?_, fun j hj => ?_⟩
    · rw [← Nat.add_assoc]; exact w1.trans z1
    · rw [z3, w3, putL_app]
    · have a := z5 j hj
      have b := w5 j hj
      exact ⟨a.1.trans b.1, a.2.1.trans b.2.1, a.2.2.trans b.2.2⟩
  · have hv0 : ¬ X 1 n = 0 := fun z => hv (Or.inl z)
    have hv9 : ¬ X 1 n = 9 := fun z => hv (Or.inr z)
    obtain ⟨s, hs⟩ : ∃ z, z = ixI (X 20 n) := ⟨_, rfl⟩
    obtain ⟨po, hpo⟩ : ∃ z, z = (if ixI (X 10 n) = 0 then ([] : List PT) else wl X k (ixI (X 10 n))) := ⟨_, rfl⟩
    obtain ⟨pt, hpt⟩ : ∃ z, z = (if ixI (X 11 n) = 0 then ([] : List PT) else wl X k (ixI (X 11 n))) := ⟨_, rfl⟩
    have ewl : wl X (k + 1) n = sayB X n s ++ po ++ sayH X n s ++ pt ++ sc := by
      rw [wl, if_neg hv, hsc, hpo, hpt, hs, List.append_assoc _ (if ixI (X 12 n) = 0 then ([] : List PT) else wl X k (ixI (X 12 n)))]
    have elen : (wl X (k + 1) n).length = (sayB X n s).length + po.length + (sayH X n s).length + pt.length + sc.length := by
      rw [ewl, List.length_append, List.length_append, List.length_append, List.length_append]
    rw [elen] at hP ⊢
    have ho : ixI (X 10 n) ≠ 0 → SUB X k (ixI (X 10 n)) := fun z => hS _ (by
      show _ ∈ kd _ _ _ _ _ _
      unfold kd kb
      rw [if_neg hv]
      by_cases c4 : X 1 n = 4
      · rw [if_pos c4]; simp
      · rw [if_neg c4]
        by_cases c1 : X 1 n = 1 ∨ X 1 n = 2
        · exact absurd (hb c1) z
        · rw [if_neg c1]; simp) z
    have htt : ixI (X 11 n) ≠ 0 → SUB X k (ixI (X 11 n)) := fun z => hS _ (by
      show _ ∈ kd _ _ _ _ _ _
      unfold kd kb
      rw [if_neg hv]
      by_cases c4 : X 1 n = 4
      · rw [if_pos c4]; simp
      · exact absurd (ht c4) z) z
    -- step 0
    have r0 := wk_go (P := P) hX hW hf hn (by decide) (by decide) h70 (by decide) (by omega) (by omega)
    obtain ⟨v1, v2, v3, v4⟩ := set39 (v := 0 + 1) (sp' := 1) hW hf rfl
    obtain ⟨V0, hV0⟩ : ∃ z, z = up2 W 39 (upd (W 39) T (0 + 1)) := ⟨_, rfl⟩
    rw [← hV0] at v1 v2 v3 v4
    have w1 : W 1 = X 1 := hW 1 (by decide) (by decide) (by decide) (by decide)
    have esb : rf_sb V0 n s P = (up2 V0 41 (putL (V0 41) P (sayB X n s)), P + (sayB X n s).length) := by rw [sb_w, sayB_ag v1]
    obtain ⟨V, hV⟩ : ∃ z, z = up2 V0 41 (putL (V0 41) P (sayB X n s)) := ⟨_, rfl⟩
    rw [← hV] at esb
    have e0 : rf_wk W T n (ixI (X 20 n)) 0 0 (hdz (chN X n)) 0 (ixI (X 10 n)) (ixI (X 11 n)) (ixI (X 12 n)) (ixI (X 13 n)) P = if ixI (X 10 n) = 0 then (V, T + 1, P + (sayB X n s).length) else (rf_ent V (T + 1) (nI (ixI (X 10 n))), T + 1 + 1, P + (sayB X n s).length) := by
      unfold rf_wk
      rw [if_pos rfl, w1, if_neg hv0, if_neg hv9, ← hV0, ← hs, esb]
    rw [e0] at r0
    have u1 : eqW V X := fun j a b c d => by rw [hV, up2_n d]; exact v1 j a b c d
    have u2 : fr V T n 1 0 := by rw [hV]; exact v2
    have u3 : V 41 = putL (W 41) P (sayB X n s) := by rw [hV, up2_s, v3]
    have u4 : ∀ j, j < T → V 17 j = W 17 j ∧ V 39 j = W 39 j ∧ V 40 j = W 40 j := fun j hj => by rw [hV]; exact v4 j hj
    obtain ⟨W1, a1, a2, a3, a4, a5⟩ := part_go (k := k) (P := P + (sayB X n s).length) u1 u2 (by omega) (by rw [← hpo]; omega) ho
    rw [← hpo] at a1 a3
    -- step 1
    have r1 := wk_go (P := P + (sayB X n s).length + po.length) hX a2 a4 hn (by decide) (by decide) h70 (by decide) (by omega) (by omega)
    obtain ⟨b1, b2, b3, b4⟩ := set39 (v := 1 + 1) (sp' := 2) a2 a4 rfl
    obtain ⟨Y0, hY0⟩ : ∃ z, z = up2 W1 39 (upd (W1 39) T (1 + 1)) := ⟨_, rfl⟩
    rw [← hY0] at b1 b2 b3 b4
    have esh : ∀ Q, rf_sh Y0 n s Q = (up2 Y0 41 (putL (Y0 41) Q (sayH X n s)), Q + (sayH X n s).length) := fun Q => by rw [sh_w, sayH_ag b1]
    obtain ⟨Y, hY⟩ : ∃ z, z = up2 Y0 41 (putL (Y0 41) (P + (sayB X n s).length + po.length) (sayH X n s)) := ⟨_, rfl⟩
    have e1 : rf_wk W1 T n (ixI (X 20 n)) 1 0 (hdz (chN X n)) 0 (ixI (X 10 n)) (ixI (X 11 n)) (ixI (X 12 n)) (ixI (X 13 n)) (P + (sayB X n s).length + po.length) = if ixI (X 11 n) = 0 then (Y, T + 1, P + (sayB X n s).length + po.length + (sayH X n s).length) else (rf_ent Y (T + 1) (nI (ixI (X 11 n))), T + 1 + 1, P + (sayB X n s).length + po.length + (sayH X n s).length) := by
      unfold rf_wk
      rw [if_neg (by decide), if_pos rfl, ← hY0, ← hs, esh, ← hY]
    rw [e1] at r1
    have c1 : eqW Y X := fun j a b c d => by rw [hY, up2_n d]; exact b1 j a b c d
    have c2 : fr Y T n 2 0 := by rw [hY]; exact b2
    have c3 : Y 41 = putL (W1 41) (P + (sayB X n s).length + po.length) (sayH X n s) := by rw [hY, up2_s, b3]
    have c4 : ∀ j, j < T → Y 17 j = W1 17 j ∧ Y 39 j = W1 39 j ∧ Y 40 j = W1 40 j := fun j hj => by rw [hY]; exact b4 j hj
    obtain ⟨W2, d1, d2, d3, d4, d5⟩ := part_go (k := k) (P := P + (sayB X n s).length + po.length + (sayH X n s).length) c1 c2 (by omega) (by rw [← hpt]; omega) htt
    rw [← hpt] at d1 d3
    obtain ⟨W3, z1, z2, z3, z5⟩ := scr_go (k := k) (P := P + (sayB X n s).length + po.length + (sayH X n s).length + pt.length) hX d2 d4 hn ⟨0, h70, by decide, by decide⟩ (by omega) (by rw [← hsc]; omega) h12 h13
    rw [← hsc] at z1 z3
    refine ⟨W3, ?_, z2, ?_, fun j hj => ?_⟩
    · have r := (((r0.trans a1).trans r1).trans d1).trans z1
      rw [show P + ((sayB X n s).length + po.length + (sayH X n s).length + pt.length + sc.length) = P + (sayB X n s).length + po.length + (sayH X n s).length + pt.length + sc.length by omega]
      exact r
    · rw [z3, d3, c3, a3, u3, ewl, putL_app, putL_app, putL_app, putL_app]
      simp only [List.length_append, Nat.add_assoc]
    · have q1 := z5 j hj
      have q2 := d5 j hj
      have q3 := c4 j hj
      have q4 := a5 j hj
      have q5 := u4 j hj
      exact ⟨q1.1.trans (q2.1.trans (q3.1.trans (q4.1.trans q5.1))), q1.2.1.trans (q2.2.1.trans (q3.2.1.trans (q4.2.1.trans q5.2.1))), q1.2.2.trans (q2.2.2.trans (q3.2.2.trans (q4.2.2.trans q5.2.2)))⟩
/-- at most k levels below n -/
def dep (X : Nat → Nat → Int32) : Nat → Nat → Prop
  | 0, _ => False
  | k + 1, n => ∀ c ∈ kdN X n, c ≠ 0 → dep X k c
theorem sub_all {X : Nat → Nat → Int32} {N : Nat} (hX : okX X N) (hb : ∀ n, n < N → (X 1 n = 1 ∨ X 1 n = 2 → ixI (X 10 n) = 0) ∧ (¬ X 1 n = 4 → ixI (X 11 n) = 0) ∧ ∀ c ∈ kdN X n, c ≠ 0 → c < N) : ∀ (k n : Nat), n < N → dep X k n → SUB X k n
  | 0, _, _, h => h.elim
  | k + 1, n, hn, h => node_go hX hn (fun c hc c0 => sub_all hX hb k c ((hb n hn).2.2 c hc c0) (h c hc c0)) (hb n hn).1 (hb n hn).2.1
theorem dep_m {X : Nat → Nat → Int32} : ∀ (k n : Nat), dep X k n → dep X (k + 1) n
  | 0, _, h => h.elim
  | k + 1, n, h => fun c hc c0 => dep_m k c (h c hc c0)
section
variable {C : Nat → Nat → Int32} {R : Nat → Nat → Option Nat} {CL : Nat → Nat → Int32} {RL : Nat → Nat → Option Nat} {B X : Nat → Nat → Int32} {N : Nat}
theorem dep_B (hX : ∀ k, k ≤ 19 → X k = B k) {d : Nat} (IH : ∀ x : XT, SN C R CL RL B d x.1 x.2.1 x.2.2.1 x.2.2.2 → x.2.2.1 + x.2.2.2 ≤ 221 → ∀ k, 3 * d ≤ k + 1 → ∀ c ∈ kbN X (xn x), dep X k c) {o : Nat} {sc : Int32} {q : XT} (h : SB R B (SN C R CL RL B d) o sc q) (hN : q.2.2.1 + q.2.2.2 ≤ 221) (k : Nat) (hk : 3 * d ≤ k) : dep X k (xn q) := by
  cases d with
  | zero => exact h.1.elim
  | succ d =>
    obtain ⟨k, rfl⟩ : ∃ z, k = z + 1 := ⟨k - 1, by omega⟩
    intro c hc c0
    have hc : c ∈ kd _ _ _ _ _ _ := hc
    unfold kd at hc
    rcases List.mem_cons.mp hc with w | w
    · rw [hX 12 (by decide), h.2.2.1.1] at w; exact absurd w c0
    · rcases List.mem_cons.mp w with w | w
      · rw [hX 13 (by decide), h.2.2.1.2] at w; exact absurd w c0
      · exact IH q h.1 hN k (by omega) c w
theorem dep_I (hX : ∀ k, k ≤ 19 → X k = B k) {d : Nat} (IH : ∀ x : XT, SN C R CL RL B d x.1 x.2.1 x.2.2.1 x.2.2.2 → x.2.2.1 + x.2.2.2 ≤ 221 → ∀ k, 3 * d ≤ k + 1 → ∀ c ∈ kbN X (xn x), dep X k c) {x : XT} (h : SI R B (SN C R CL RL B d) x) (hN : x.2.2.1 + x.2.2.2 ≤ 221) (k : Nat) (hk : 3 * d + 1 ≤ k) : dep X k (xn x) := by
  have hle := SN_le (C := C) (R := R) (CL := CL) (RL := RL) (A := B) d
  obtain ⟨i1, l1, ou, ol, h1, h2, h3, h4, h5, h6, -, -⟩ := h
  obtain ⟨k, rfl⟩ : ∃ z, k = z + 1 := ⟨k - 1, by omega⟩
  intro c hc c0
  have hc : c ∈ kd _ _ _ _ _ _ := hc
  unfold kd at hc
  have cl : ∀ q : XT, q.1 < q.2.2.1 ∧ q.2.1 ≤ q.2.2.2 → q.2.2.1 ≤ x.2.2.1 ∧ q.2.2.2 ≤ x.2.2.2 → ixI (nI (xn q)) = xn q := fun q a b => nI_clamp (show q.1 + q.2.1 < _ by omega)
  rcases List.mem_cons.mp hc with w | w
  · rw [hX 12 (by decide), h4.1] at w
    cases ou with
    | none => exact absurd w c0
    | some q =>
      obtain ⟨q1, q2⟩ := h5 q rfl
      have e : ixI (nI (xo (some q))) = xn q := cl q (hle _ _ _ _ q1.1) ⟨by omega, by omega⟩
      rw [w, e]
      exact dep_B hX IH q1 (by omega) k (by omega)
  · rcases List.mem_cons.mp w with w | w
    · rw [hX 13 (by decide), h4.2] at w
      cases ol with
      | none => exact absurd w c0
      | some q =>
        obtain ⟨q1, q2⟩ := h6 q rfl
        have e : ixI (nI (xo (some q))) = xn q := cl q (hle _ _ _ _ q1.1) ⟨by omega, by omega⟩
        rw [w, e]
        exact dep_B hX IH q1 (by omega) k (by omega)
    · exact IH (x.1, x.2.1, i1, l1) h1 (by dsimp only; omega) k (by omega) c w
theorem dep_L (hX : ∀ k, k ≤ 19 → X k = B k) {d : Nat} (IH : ∀ x : XT, SN C R CL RL B d x.1 x.2.1 x.2.2.1 x.2.2.2 → x.2.2.1 + x.2.2.2 ≤ 221 → ∀ k, 3 * d ≤ k + 1 → ∀ c ∈ kbN X (xn x), dep X k c) {x : XT} (h : SL R RL B (SN C R CL RL B d) x) (hN : x.2.2.1 + x.2.2.2 ≤ 221) (k : Nat) (hk : 3 * d + 2 ≤ k) : dep X k (xn x) := by
  have hle := SN_le (C := C) (R := R) (CL := CL) (RL := RL) (A := B) d
  obtain ⟨hnd, xs, hc9, hI, ekb, hv⟩ := nd_L (N := 221) (Nat.le_refl _) hle h hN
  have l1 : ∀ q ∈ xs, q.1 < q.2.2.1 ∧ q.2.1 ≤ q.2.2.2 := fun q hq => SI_le hle (hI q hq)
  have hin := chn_in xs _ _ _ _ hc9 (fun q hq => by have := l1 q hq; omega)
  obtain ⟨k, rfl⟩ : ∃ z, k = z + 1 := ⟨k - 1, by omega⟩
  intro c hc c0
  have hc : c ∈ kd _ _ _ _ _ _ := hc
  unfold kd at hc
  have h00 := hnd.2.2.2.2.2.2.2.2.1 hv
  rcases List.mem_cons.mp hc with w | w
  · rw [hX 12 (by decide), h00.1] at w; exact absurd w c0
  · rcases List.mem_cons.mp w with w | w
    · rw [hX 13 (by decide), h00.2.1] at w; exact absurd w c0
    · have w : c ∈ kbN X (xn x) := w
      rw [(kdN_ag hX).2.1, ekb] at w
      obtain ⟨q, hq, rfl⟩ := List.mem_map.mp w
      have := hin q hq
      exact dep_I hX IH (hI q hq) (by omega) k (by omega)
theorem dep_N (hX : ∀ k, k ≤ 19 → X k = B k) : ∀ (d : Nat) (x : XT), SN C R CL RL B d x.1 x.2.1 x.2.2.1 x.2.2.2 → x.2.2.1 + x.2.2.2 ≤ 221 → ∀ k, 3 * d ≤ k + 1 → ∀ c ∈ kbN X (xn x), dep X k c
  | 0, _, h, _, _, _, _, _ => h.elim
  | d + 1, x, h, hN, k, hk, c, hc => by
    have hle := SN_le (C := C) (R := R) (CL := CL) (RL := RL) (A := B) d
    have IH := dep_N hX d
    have hl9 := SN_le _ _ _ _ _ h
    rw [(kdN_ag hX).2.1] at hc
    obtain ⟨v, hv11, -, ⟨h1, -⟩, -, -, h⟩ := h
    have h1 : B 1 (xn x) = kR v := h1
    have hc : c ∈ kb (B 1 (xn x)) (ixI (B 10 (xn x))) (ixI (B 11 (xn x))) (chN B (xn x)) := hc
    unfold kb at hc
    rw [h1] at hc
    have en : xn (x.1 + 1, x.2.1, x.2.2.1, x.2.2.2) = xn x + 1 := by show (x.1 + 1) + x.2.1 = x.1 + x.2.1 + 1; omega
    unfold SK at h
    by_cases c1 : v = 0 ∨ (2 ≤ v ∧ v ≤ 4)
    · rcases (by omega : v = 0 ∨ v = 2 ∨ v = 3 ∨ v = 4) with rfl | rfl | rfl | rfl <;> exact absurd hc List.not_mem_nil
    · rw [if_neg c1] at h
      by_cases c2 : v = 1 ∨ v = 9
      · rw [if_pos c2] at h
        obtain ⟨-, g10, -, gL, -⟩ := h
        dsimp only at gL
        have eo : ixI (B 10 (xn x)) = xn x + 1 := by rw [g10]; exact nI_clamp (show x.1 + x.2.1 + 1 < _ by omega)
        have hc : c = xn x + 1 := by rcases c2 with rfl | rfl <;> (rw [← eo]; exact List.mem_singleton.mp hc)
        rw [hc, ← en]
        exact dep_L hX IH gL hN k (by omega)
      · rw [if_neg c2] at h
        by_cases c3 : v = 5
        · rw [if_pos c3] at h
          subst c3
          obtain ⟨i1, l1, -, -, g10, g11, gA, gB⟩ := h
          have q1 := hle _ _ _ _ gA.1
          have q2 := hle _ _ _ _ gB.1
          dsimp only at q1 q2 gA gB
          have eo : ixI (B 10 (xn x)) = xn x + 1 := by rw [g10]; exact nI_clamp (show x.1 + x.2.1 + 1 < _ by omega)
          have et : ixI (B 11 (xn x)) = i1 + l1 := by rw [g11]; exact nI_clamp (show i1 + l1 < _ by omega)
          rw [eo, et] at hc
          have hc : c = xn x + 1 ∨ c = i1 + l1 := by
            rcases List.mem_cons.mp hc with w | w
            · exact Or.inl w
            · exact Or.inr (List.mem_singleton.mp w)
          rcases hc with w | w
          · rw [w, show xn x + 1 = xn (x.1 + 1, x.2.1, i1, l1) by show x.1 + x.2.1 + 1 = x.1 + 1 + x.2.1; omega]
            exact dep_B hX IH gA (by dsimp only; omega) k (by omega)
          · rw [w]
            exact dep_B (q := (i1, l1, x.2.2.1, x.2.2.2)) hX IH gB hN k (by omega)
        · rw [if_neg c3] at h
          by_cases c4 : v < 9
          · rw [if_pos c4] at h
            obtain ⟨-, g10, -, gA⟩ := h
            dsimp only at gA
            have eo : ixI (B 10 (xn x)) = xn x + 1 := by rw [g10]; exact nI_clamp (show x.1 + x.2.1 + 1 < _ by omega)
            have hc : c = xn x + 1 := by rcases (by omega : v = 6 ∨ v = 7 ∨ v = 8) with rfl | rfl | rfl <;> (rw [← eo]; exact List.mem_singleton.mp hc)
            rw [hc, ← en]
            exact dep_B hX IH gA hN k (by omega)
          · rw [if_neg c4] at h
            have c10 : v = 10 := by omega
            subst c10
            obtain ⟨xs, hne, -, -, -, g6, gc, -, g7, gS, gp⟩ := h
            dsimp only at g6 gc
            have l1 : ∀ q ∈ xs, q.1 ≤ q.2.2.1 ∧ q.2.1 < q.2.2.2 := fun q hq => SL_le hle (gS q hq).1
            have hin := chn_in xs _ _ _ _ gc (fun q hq => by have := l1 q hq; omega)
            have hlen := chn_len2 xs _ _ _ _ gc (fun q hq => by have := l1 q hq; omega)
            have hh : nI (xo xs.head?) = nI (xn x + 1) := by
              cases xs with
              | nil => exact absurd rfl hne
              | cons q t => exact congrArg nI (show q.1 + q.2.1 = x.1 + x.2.1 + 1 by have := gc.1; have := gc.2.1; omega)
            have hch : chN B (xn x) = xs.map xn := by
              show chR (B 7) 400 (B 6 (xn x)) = _
              rw [g6, ← hh]
              exact (chR_xs xs 399 g7 (fun q hq => by
                have a1 := l1 q hq
                have a2 := hin q hq
                show 0 < q.1 + q.2.1 ∧ q.1 + q.2.1 < 400
                omega) (by omega)).1
            rw [if_pos (Or.inr (show kR 10 = 9 from rfl)), hch] at hc
            obtain ⟨q, hq, rfl⟩ := List.mem_map.mp hc
            have := hin q hq
            exact dep_L hX IH (gS q hq).1 (by omega) k (by omega)
end
