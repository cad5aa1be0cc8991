/-! Pure: the class's setting against the reference's arrays: an item. By hand. -/
section
variable {C0 : Nat → Nat → Int32} {R : Nat → Nat → Option Nat} {CL0 : Nat → Nat → Int32} {RL : Nat → Nat → Option Nat} {B X : Nat → Nat → Int32} {N s0 : Nat}
/-- moved as the reference says: a script -/
def mo1 (F : Nat → Int32) (C : Nat → Nat → Int32) (o : Option XT) (r u : XT → Int32) : Nat → Int32 := o.elim F (fun q => mvN F C q.1 (r q) (u q))
/-- what comes of an item's parts: nucleus, upper, lower script set one behind the other, then moved -/
theorem r_move {x : XT} {t t1 t2 t3 : TS} {k i1 l1 : Nat} {ou ol : Option XT} (hF : FINX X B N s0) (hN9 : N ≤ 221) (hN : x.2.2.1 + x.2.2.2 ≤ N) (hx0 : 0 < xn x) (hc : t.1 + 2 * (x.2.2.1 - x.1) ≤ 120)
    (l0 : x.1 < i1 ∧ x.2.1 ≤ l1 ∧ i1 ≤ x.2.2.1 ∧ l1 ≤ x.2.2.2) (hn : RN C0 CL0 X k (x.1, x.2.1, i1, l1) t t1)
    (hu0 : ou = none → t2 = t1) (hu1 : ∀ q, ou = some q → RI C0 CL0 X k q t1 t2 ∧ (i1 ≤ q.1 ∧ l1 ≤ q.2.1 ∧ q.2.2.1 ≤ x.2.2.1 ∧ q.2.2.2 ≤ x.2.2.2 ∧ q.1 < q.2.2.1 ∧ q.2.1 ≤ q.2.2.2) ∧ B 14 (xn q) = nI (xn x) ∧ B 15 (xn q) = 1)
    (hl0 : ol = none → t3 = t2) (hl1 : ∀ q, ol = some q → RI C0 CL0 X k q t2 t3 ∧ (i1 ≤ q.1 ∧ l1 ≤ q.2.1 ∧ q.2.2.1 ≤ x.2.2.1 ∧ q.2.2.2 ≤ x.2.2.2 ∧ q.1 < q.2.2.1 ∧ q.2.1 ≤ q.2.2.2) ∧ B 14 (xn q) = nI (xn x) ∧ B 15 (xn q) = 1)
    (hdis : ∀ q p, ou = some q → ol = some p → (q.2.2.1 ≤ p.1 ∧ q.2.2.2 ≤ p.2.1) ∨ (p.2.2.1 ≤ q.1 ∧ p.2.2.2 ≤ q.2.1)) (hsz : (i1 - x.1) + ou.elim 0 (fun q => q.2.2.1 - q.1) + ol.elim 0 (fun q => q.2.2.1 - q.1) ≤ x.2.2.1 - x.1)
    (h12 : ixI (X 12 (xn x)) = xo ou) (h13 : ixI (X 13 (xn x)) = xo ol) (hu9 : ∀ q, ou = some q → xn q ≠ 0) (hl9 : ∀ q, ol = some q → xn q ≠ 0) (t4 : TS) (w h d : Int32) (e1 : t4.1 = t3.1) (e2 : t4.2.1 = mo1 (mo1 (mvN t3.2.1 (tC t3) x.1 (X 28 (xn x)) 0) (tC t3) ou (fun q => X 29 (xn q)) (fun q => X 30 (xn q))) (tC t3) ol (fun q => X 29 (xn q)) (fun q => X 30 (xn q))) (e3 : tC t4 = meas (tC t3) x.1 w h d) (e4 : tL t4 = tL t3) (ew : w = X 25 (xn x)) (eh : h = X 26 (xn x)) (ed : d = X 27 (xn x)) : RI C0 CL0 X (k + 1) x t (fin4 x.1 t4) := by
  obtain ⟨⟨n1, n2, n3, n4, n5⟩, -, n6, n7⟩ := hn
  dsimp only at n2 n6 n7
  have n1 : t1.1 = t.1 + (wo X k (xn x)).length := n1
  have n5 : REL t1.2.1 t.1 (wo X k (xn x)) (X 31 (xn x) + X 28 (xn x)) (X 32 (xn x)) := n5
  have n2 : (wo X k (xn x)).length ≤ 2 * (i1 - x.1) := n2
  have hxN : xn x < N := by show x.1 + x.2.1 < N; omega
  obtain ⟨lu, hlu⟩ : ∃ z : List PT, z = ou.elim [] (fun q => wl X k (xn q)) := ⟨_, rfl⟩
  obtain ⟨ll, hll⟩ : ∃ z : List PT, z = ol.elim [] (fun q => wl X k (xn q)) := ⟨_, rfl⟩
  -- the pieces
  have ewl : wl X (k + 1) (xn x) = wo X k (xn x) ++ lu ++ ll := by
    rw [wl_s, h12, h13]
    have a1 : (if xo ou = 0 then ([] : List PT) else wl X k (xo ou)) = lu := by
      rw [hlu]
      cases ou with
      | none => rfl
      | some q => exact if_neg (hu9 q rfl)
    have a2 : (if xo ol = 0 then ([] : List PT) else wl X k (xo ol)) = ll := by
      rw [hll]
      cases ol with
      | none => rfl
      | some q => exact if_neg (hl9 q rfl)
    rw [a1, a2]
  -- the upper script
  have U : t2.1 = t1.1 + lu.length ∧ lu.length ≤ 2 * ou.elim 0 (fun q => q.2.2.1 - q.1) ∧ tI C0 CL0 t2 ∧ (∀ p, p < t1.1 → getP t2.2.1 p = getP t1.2.1 p) ∧ (∀ q j, (q < i1 ∨ x.2.2.1 ≤ q) → tC t2 q j = tC t1 q j) ∧ (∀ q j, (q < l1 ∨ x.2.2.2 ≤ q) → tL t2 q j = tL t1 q j) := by
    cases ou with
    | none =>
      rw [hu0 rfl, hlu]
      exact ⟨rfl, Nat.le_refl _, n4, fun _ _ => rfl, fun _ _ _ => rfl, fun _ _ _ => rfl⟩
    | some q =>
      obtain ⟨⟨⟨g1, g2, g3, g4, g5⟩, -, -⟩, b, -⟩ := hu1 q rfl
      rw [hlu]
      exact ⟨g1, g2, g4, g3.2.2.2, fun p j hp => g3.2.1 p j (by omega), fun p j hp => g3.2.2.1 p j (by omega)⟩
  have V : t3.1 = t2.1 + ll.length ∧ ll.length ≤ 2 * ol.elim 0 (fun q => q.2.2.1 - q.1) ∧ tI C0 CL0 t3 ∧ (∀ p, p < t2.1 → getP t3.2.1 p = getP t2.2.1 p) ∧ (∀ q j, (q < i1 ∨ x.2.2.1 ≤ q) → tC t3 q j = tC t2 q j) ∧ (∀ q j, (q < l1 ∨ x.2.2.2 ≤ q) → tL t3 q j = tL t2 q j) := by
    cases ol with
    | none =>
      rw [hl0 rfl, hll]
      exact ⟨rfl, Nat.le_refl _, U.2.2.1, fun _ _ => rfl, fun _ _ _ => rfl, fun _ _ _ => rfl⟩
    | some q =>
      obtain ⟨⟨⟨g1, g2, g3, g4, g5⟩, -, -⟩, b, -⟩ := hl1 q rfl
      rw [hll]
      exact ⟨g1, g2, g4, g3.2.2.2, fun p j hp => g3.2.1 p j (by omega), fun p j hp => g3.2.2.1 p j (by omega)⟩
  obtain ⟨u1, u2, u3, u4, u5, u6⟩ := U
  obtain ⟨v1, v2, v3, v4, v5, v6⟩ := V
  have hcx : t3.1 ≤ 120 := by omega
  have ci : ∀ j, tC t3 x.1 j = tC t1 x.1 j := fun j => (v5 x.1 j (by omega)).trans (u5 x.1 j (by omega))
  have ei3 : ixI (tC t3 x.1 3) = t.1 := by rw [ci 3, n6]; exact nI_clamp (by omega)
  have ei4 : ixI (tC t3 x.1 4) = t1.1 := by rw [ci 4, n7]; exact nI_clamp (by omega)
  have eu34 : ∀ q, ou = some q → ixI (tC t3 q.1 3) = t1.1 ∧ ixI (tC t3 q.1 4) = t2.1 := fun q hq => by
    obtain ⟨⟨-, -, g3, g4⟩, b, -⟩ := hu1 q hq
    have s : ∀ j, tC t3 q.1 j = tC t2 q.1 j := fun j => by
      cases ol with
      | none => rw [hl0 rfl]
      | some p =>
        obtain ⟨⟨⟨-, -, g5, -⟩, -⟩, b2, -⟩ := hl1 p rfl
        have := hdis q p hq rfl
        exact g5.2.1 q.1 j (by omega)
    rw [s 3, s 4, g3, g4]
    exact ⟨nI_clamp (by omega), nI_clamp (by omega)⟩
  have el34 : ∀ q, ol = some q → ixI (tC t3 q.1 3) = t2.1 ∧ ixI (tC t3 q.1 4) = t3.1 := fun q hq => by
    obtain ⟨⟨-, -, g3, g4⟩, -⟩ := hl1 q hq
    rw [g3, g4]
    exact ⟨nI_clamp (by omega), nI_clamp (by omega)⟩
  -- what moving does
  obtain ⟨F1, hF1⟩ : ∃ z, z = mvN t3.2.1 (tC t3) x.1 (X 28 (xn x)) 0 := ⟨_, rfl⟩
  obtain ⟨F2, hF2⟩ : ∃ z, z = mo1 F1 (tC t3) ou (fun q => X 29 (xn q)) (fun q => X 30 (xn q)) := ⟨_, rfl⟩
  obtain ⟨F3, hF3⟩ : ∃ z, z = mo1 F2 (tC t3) ol (fun q => X 29 (xn q)) (fun q => X 30 (xn q)) := ⟨_, rfl⟩
  have e2' : t4.2.1 = F3 := by rw [e2, hF3, hF2, hF1]
  have g1 : ∀ p, ¬ (t.1 ≤ p ∧ p < t1.1) → getP F1 p = getP t3.2.1 p := fun p hp => by
    rw [hF1]; unfold mvN; rw [getP_mv, ei3, ei4, if_neg hp]
  have g2 : ∀ p, ¬ (t1.1 ≤ p ∧ p < t2.1) → getP F2 p = getP F1 p := fun p hp => by
    rw [hF2]
    cases ou with
    | none => rfl
    | some q =>
      show getP (mvN F1 (tC t3) q.1 _ _) p = _
      unfold mvN
      rw [getP_mv, (eu34 q rfl).1, (eu34 q rfl).2, if_neg hp]
  have g3 : ∀ p, ¬ (t2.1 ≤ p ∧ p < t3.1) → getP F3 p = getP F2 p := fun p hp => by
    rw [hF3]
    cases ol with
    | none => rfl
    | some q =>
      show getP (mvN F2 (tC t3) q.1 _ _) p = _
      unfold mvN
      rw [getP_mv, (el34 q rfl).1, (el34 q rfl).2, if_neg hp]
  have rel : REL F3 t.1 (wl X (k + 1) (xn x)) (X 31 (xn x)) (X 32 (xn x)) := by
    rw [ewl]
    refine REL_app (REL_app ?_ ?_) ?_
    · have a := REL_ag n5 (F' := t3.2.1) (fun q h1 h2 => by rw [v4 q (by omega), u4 q (by omega)])
      have b := REL_mv0 (a := t.1) (e := t1.1) (r := X 28 (xn x)) (u := 0) a (Nat.le_refl _) (by omega) (x' := X 31 (xn x)) (y' := X 32 (xn x)) rfl (by rw [Int32.add_zero])
      refine REL_ag b (fun q h1 h2 => ?_)
      rw [g3 q (by omega), g2 q (by omega), hF1]
      unfold mvN
      rw [ei3, ei4]
    · rw [← n1]
      cases ou with
      | none => rw [hlu]; exact REL_0
      | some q =>
        obtain ⟨⟨⟨r1, r2, r3, r4, r5⟩, -, -⟩, b, b14, b15⟩ := hu1 q rfl
        have hq : lu = wl X k (xn q) := hlu
        rw [hq]
        have xy := exy_i hF hN9 hxN (c := xn q) (by show 0 < q.1 + q.2.1; omega) (by show q.1 + q.2.1 < N; omega) b14 (Or.inl (by rw [b15]; decide))
        rw [hq] at u1 u2
        have a := REL_ag r5 (F' := F1) (fun p h1 h2 => by rw [g1 p (by omega), v4 p (by omega)])
        have b9 := REL_mv0 (a := t1.1) (e := t2.1) (r := X 29 (xn q)) (u := X 30 (xn q)) a (Nat.le_refl _) (by omega) xy.1 xy.2
        refine REL_ag b9 (fun p h1 h2 => ?_)
        rw [g3 p (by omega), hF2]
        show getP (mvN F1 (tC t3) q.1 _ _) p = _
        unfold mvN
        rw [(eu34 q rfl).1, (eu34 q rfl).2]
    · rw [show t.1 + (wo X k (xn x) ++ lu).length = t2.1 by rw [List.length_append]; omega]
      cases ol with
      | none => rw [hll]; exact REL_0
      | some q =>
        obtain ⟨⟨⟨r1, r2, r3, r4, r5⟩, -, -⟩, b, b14, b15⟩ := hl1 q rfl
        have hq : ll = wl X k (xn q) := hll
        rw [hq]
        have xy := exy_i hF hN9 hxN (c := xn q) (by show 0 < q.1 + q.2.1; omega) (by show q.1 + q.2.1 < N; omega) b14 (Or.inl (by rw [b15]; decide))
        rw [hq] at v1 v2
        have a := REL_ag r5 (F' := F2) (fun p h1 h2 => by rw [g2 p (by omega), g1 p (by omega)])
        have b9 := REL_mv0 (a := t2.1) (e := t3.1) (r := X 29 (xn q)) (u := X 30 (xn q)) a (Nat.le_refl _) (by omega) xy.1 xy.2
        refine REL_ag b9 (fun p h1 h2 => ?_)
        rw [hF3]
        show getP (mvN F2 (tC t3) q.1 _ _) p = _
        unfold mvN
        rw [(el34 q rfl).1, (el34 q rfl).2]
  have elen : (wl X (k + 1) (xn x)).length = (wo X k (xn x)).length + lu.length + ll.length := by rw [ewl, List.length_append, List.length_append]
  refine ⟨⟨?_, ?_, ⟨?_, fun q j hq => ?_, fun q j hq => ?_, fun p hp => ?_⟩, ⟨?_, ?_⟩, ?_⟩, ⟨?_, ?_, ?_⟩, ?_, sT_same⟩
  · show t4.1 = _; rw [e1, elen]; omega
  · rw [elen]; omega
  · show t.1 ≤ t4.1; omega
  · show sT (tC t4) x.1 4 (nI t4.1) q j = tC t q j
    rw [sT_ne (by omega), e3, meas_n (by omega), v5 q j (by omega), u5 q j (by omega)]
    exact n3.2.1 q j (by dsimp only; omega)
  · show tL t4 q j = tL t q j
    rw [e4, v6 q j (by omega), u6 q j (by omega)]
    exact n3.2.2.1 q j (by dsimp only; omega)
  · show getP t4.2.1 p = _
    rw [e2', g3 p (by omega), g2 p (by omega), g1 p (by omega), v4 p (by omega), u4 p (by omega)]
    exact n3.2.2.2 p hp
  · show ∀ q j, 5 ≤ j → sT (tC t4) x.1 4 (nI t4.1) q j = C0 q j
    rw [e3]; exact sT_5 (meas_5 v3.1) (by decide)
  · show ∀ q j, 5 ≤ j → tL t4 q j = CL0 q j
    rw [e4]; exact v3.2
  · show REL t4.2.1 t.1 _ _ _
    rw [e2']; exact rel
  · show sT (tC t4) x.1 4 (nI t4.1) x.1 0 = _
    rw [sT_ne (by omega), e3, meas_v.1, ew]
  · show sT (tC t4) x.1 4 (nI t4.1) x.1 1 = _
    rw [sT_ne (by omega), e3, meas_v.2.1, eh]
  · show sT (tC t4) x.1 4 (nI t4.1) x.1 2 = _
    rw [sT_ne (by omega), e3, meas_v.2.2.1, ed]
  · show sT (tC t4) x.1 4 (nI t4.1) x.1 3 = _
    rw [sT_ne (by omega), e3, meas_v.2.2.2 3 (Nat.le_refl _), ci 3]; exact n6
end
