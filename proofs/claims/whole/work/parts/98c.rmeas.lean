/-! The reference: measure. Printed by wip/whole/gen/p98c.py -/
theorem up2_lt {A : Nat → Nat → Int32} {j k : Nat} {f : Nat → Int32} (h : k < 22) (hj : 22 ≤ j) : up2 A j f k = A k := if_neg (by omega)
theorem rf_fr_k {A : Nat → Nat → Int32} {n0 s0 a b2 k : Nat} (h : k < 22) : rf_fr A n0 s0 a b2 k = A k := by
  unfold rf_fr
  by_cases c70 : s0 = 0
  · rw [if_pos c70]
    exact (up2_lt h (by decide)).trans ((up2_lt h (by decide)).trans ((up2_lt h (by decide)).trans ((up2_lt h (by decide)).trans ((up2_lt h (by decide)).trans ((up2_lt h (by decide)).trans ((up2_lt h (by decide)).trans (up2_lt h (by decide))))))))
  · rw [if_neg c70]
    exact (up2_lt h (by decide)).trans ((up2_lt h (by decide)).trans ((up2_lt h (by decide)).trans ((up2_lt h (by decide)).trans ((up2_lt h (by decide)).trans ((up2_lt h (by decide)).trans ((up2_lt h (by decide)).trans (up2_lt h (by decide))))))))
theorem rf_sq_k {A : Nat → Nat → Int32} {n0 s0 u k : Nat} (h : k < 22) : rf_sq A n0 s0 u k = A k := by
  unfold rf_sq
  by_cases c70 : s0 = 0
  · rw [if_pos c70]
    exact (up2_lt h (by decide)).trans ((up2_lt h (by decide)).trans ((up2_lt h (by decide)).trans ((up2_lt h (by decide)).trans ((up2_lt h (by decide)).trans ((up2_lt h (by decide)).trans (up2_lt h (by decide)))))))
  · rw [if_neg c70]
    exact (up2_lt h (by decide)).trans ((up2_lt h (by decide)).trans ((up2_lt h (by decide)).trans ((up2_lt h (by decide)).trans ((up2_lt h (by decide)).trans ((up2_lt h (by decide)).trans (up2_lt h (by decide)))))))
theorem rf_ac_k {A : Nat → Nat → Int32} {n0 s0 u k : Nat} (h : k < 22) : rf_ac A n0 s0 u k = A k := by
  unfold rf_ac
  by_cases c70 : A 1 n0 = 6
  · rw [if_pos c70]
    exact (up2_lt h (by decide)).trans ((up2_lt h (by decide)).trans ((up2_lt h (by decide)).trans ((up2_lt h (by decide)).trans ((up2_lt h (by decide)).trans (up2_lt h (by decide))))))
  · rw [if_neg c70]
    exact (up2_lt h (by decide)).trans ((up2_lt h (by decide)).trans ((up2_lt h (by decide)).trans ((up2_lt h (by decide)).trans ((up2_lt h (by decide)).trans (up2_lt h (by decide))))))
theorem rf_lf_k {A : Nat → Nat → Int32} {n0 s0 u k : Nat} (h : k < 22) : rf_lf A n0 s0 u k = A k := by
  unfold rf_lf
  by_cases c70 : A 2 n0 = 46
  · rw [if_pos c70]
    by_cases c71 : A 3 n0 = 46
    · rw [if_pos c71]
      exact (up2_lt h (by decide)).trans ((up2_lt h (by decide)).trans ((up2_lt h (by decide)).trans ((up2_lt h (by decide)).trans ((up2_lt h (by decide)).trans ((up2_lt h (by decide)).trans (up2_lt h (by decide)))))))
    · rw [if_neg c71]
      exact (up2_lt h (by decide)).trans ((up2_lt h (by decide)).trans ((up2_lt h (by decide)).trans ((up2_lt h (by decide)).trans ((up2_lt h (by decide)).trans ((up2_lt h (by decide)).trans (up2_lt h (by decide)))))))
  · rw [if_neg c70]
    by_cases c71 : A 3 n0 = 46
    · rw [if_pos c71]
      exact (up2_lt h (by decide)).trans ((up2_lt h (by decide)).trans ((up2_lt h (by decide)).trans ((up2_lt h (by decide)).trans ((up2_lt h (by decide)).trans ((up2_lt h (by decide)).trans (up2_lt h (by decide)))))))
    · rw [if_neg c71]
      exact (up2_lt h (by decide)).trans ((up2_lt h (by decide)).trans ((up2_lt h (by decide)).trans ((up2_lt h (by decide)).trans ((up2_lt h (by decide)).trans ((up2_lt h (by decide)).trans (up2_lt h (by decide)))))))
theorem rf_la_k {A : Nat → Nat → Int32} {n0 s0 k : Nat} (h : k < 22) : rf_la A n0 s0 k = A k := by
  unfold rf_la
  by_cases c70 : s0 = 0
  · rw [if_pos c70]
    exact (up2_lt h (by decide)).trans ((up2_lt h (by decide)).trans ((up2_lt h (by decide)).trans (up2_lt h (by decide))))
  · rw [if_neg c70]
    exact (up2_lt h (by decide)).trans ((up2_lt h (by decide)).trans ((up2_lt h (by decide)).trans (up2_lt h (by decide))))
theorem rf_sc_k {A : Nat → Nat → Int32} {n0 s0 u lo k : Nat} (h : k < 22) : rf_sc A n0 s0 u lo k = A k := by
  unfold rf_sc
  by_cases c70 : u = 0
  · rw [if_pos c70]
    by_cases c71 : lo = 0
    · rw [if_pos c71]
      exact (up2_lt h (by decide)).trans ((up2_lt h (by decide)).trans ((up2_lt h (by decide)).trans (up2_lt h (by decide))))
    · rw [if_neg c71]
      by_cases c72 : A 1 n0 = 0
      · rw [if_pos c72]
        exact (up2_lt h (by decide)).trans ((up2_lt h (by decide)).trans ((up2_lt h (by decide)).trans (up2_lt h (by decide))))
      · rw [if_neg c72]
        by_cases c73 : A 1 n0 = 2 ∧ ¬ A 2 n0 = 73 ∧ s0 = 0
        · rw [if_pos c73]
          exact (up2_lt h (by decide)).trans ((up2_lt h (by decide)).trans ((up2_lt h (by decide)).trans ((up2_lt h (by decide)).trans ((up2_lt h (by decide)).trans ((up2_lt h (by decide)).trans ((up2_lt h (by decide)).trans ((up2_lt h (by decide)).trans (up2_lt h (by decide)))))))))
        · rw [if_neg c73]
          by_cases c74 : A 1 n0 = 2
          · rw [if_pos c74]
            by_cases c75 : A 2 n0 = 73
            · rw [if_pos c75]
              exact (up2_lt h (by decide)).trans ((up2_lt h (by decide)).trans ((up2_lt h (by decide)).trans ((up2_lt h (by decide)).trans ((up2_lt h (by decide)).trans ((up2_lt h (by decide)).trans ((up2_lt h (by decide)).trans (up2_lt h (by decide))))))))
            · rw [if_neg c75]
              exact (up2_lt h (by decide)).trans ((up2_lt h (by decide)).trans ((up2_lt h (by decide)).trans ((up2_lt h (by decide)).trans ((up2_lt h (by decide)).trans ((up2_lt h (by decide)).trans ((up2_lt h (by decide)).trans (up2_lt h (by decide))))))))
          · rw [if_neg c74]
            exact (up2_lt h (by decide)).trans ((up2_lt h (by decide)).trans ((up2_lt h (by decide)).trans ((up2_lt h (by decide)).trans ((up2_lt h (by decide)).trans ((up2_lt h (by decide)).trans ((up2_lt h (by decide)).trans (up2_lt h (by decide))))))))
  · rw [if_neg c70]
    by_cases c71 : lo = 0
    · rw [if_pos c71]
      by_cases c72 : A 1 n0 = 0
      · rw [if_pos c72]
        exact (up2_lt h (by decide)).trans ((up2_lt h (by decide)).trans ((up2_lt h (by decide)).trans (up2_lt h (by decide))))
      · rw [if_neg c72]
        by_cases c73 : A 1 n0 = 2 ∧ ¬ A 2 n0 = 73 ∧ s0 = 0
        · rw [if_pos c73]
          exact (up2_lt h (by decide)).trans ((up2_lt h (by decide)).trans ((up2_lt h (by decide)).trans ((up2_lt h (by decide)).trans ((up2_lt h (by decide)).trans ((up2_lt h (by decide)).trans ((up2_lt h (by decide)).trans ((up2_lt h (by decide)).trans (up2_lt h (by decide)))))))))
        · rw [if_neg c73]
          by_cases c74 : A 21 n0 = 0
          · rw [if_pos c74]
            exact (up2_lt h (by decide)).trans ((up2_lt h (by decide)).trans ((up2_lt h (by decide)).trans ((up2_lt h (by decide)).trans ((up2_lt h (by decide)).trans ((up2_lt h (by decide)).trans ((up2_lt h (by decide)).trans (up2_lt h (by decide))))))))
          · rw [if_neg c74]
            exact (up2_lt h (by decide)).trans ((up2_lt h (by decide)).trans ((up2_lt h (by decide)).trans ((up2_lt h (by decide)).trans ((up2_lt h (by decide)).trans ((up2_lt h (by decide)).trans ((up2_lt h (by decide)).trans (up2_lt h (by decide))))))))
    · rw [if_neg c71]
      by_cases c72 : A 1 n0 = 0
      · rw [if_pos c72]
        exact (up2_lt h (by decide)).trans ((up2_lt h (by decide)).trans ((up2_lt h (by decide)).trans (up2_lt h (by decide))))
      · rw [if_neg c72]
        by_cases c73 : A 1 n0 = 2 ∧ ¬ A 2 n0 = 73 ∧ s0 = 0
        · rw [if_pos c73]
          exact (up2_lt h (by decide)).trans ((up2_lt h (by decide)).trans ((up2_lt h (by decide)).trans ((up2_lt h (by decide)).trans ((up2_lt h (by decide)).trans ((up2_lt h (by decide)).trans ((up2_lt h (by decide)).trans ((up2_lt h (by decide)).trans ((up2_lt h (by decide)).trans ((up2_lt h (by decide)).trans ((up2_lt h (by decide)).trans (up2_lt h (by decide))))))))))))
        · rw [if_neg c73]
          by_cases c74 : A 21 n0 = 0
          · rw [if_pos c74]
            by_cases c75 : ((ms (ms (4 * (yS s0)) (((A 23) n0) - (2 * (yS s0)))) (((A 27) u) + (yS s0))) - ((A 27) u)) - (((A 26) lo) - (ms (ms (2 * (yS s0)) (((A 24) n0) + ((yS s0) / 2))) (((A 26) lo) - (4 * (yS s0))))) < 4 * yT s0
            · rw [if_pos c75]
              by_cases c76 : A 1 n0 = 2
              · rw [if_pos c76]
                by_cases c77 : A 2 n0 = 73
                · rw [if_pos c77]
                  exact (up2_lt h (by decide)).trans ((up2_lt h (by decide)).trans ((up2_lt h (by decide)).trans ((up2_lt h (by decide)).trans ((up2_lt h (by decide)).trans ((up2_lt h (by decide)).trans ((up2_lt h (by decide)).trans ((up2_lt h (by decide)).trans ((up2_lt h (by decide)).trans ((up2_lt h (by decide)).trans (up2_lt h (by decide)))))))))))
                · rw [if_neg c77]
                  exact (up2_lt h (by decide)).trans ((up2_lt h (by decide)).trans ((up2_lt h (by decide)).trans ((up2_lt h (by decide)).trans ((up2_lt h (by decide)).trans ((up2_lt h (by decide)).trans ((up2_lt h (by decide)).trans ((up2_lt h (by decide)).trans ((up2_lt h (by decide)).trans ((up2_lt h (by decide)).trans (up2_lt h (by decide)))))))))))
              · rw [if_neg c76]
                exact (up2_lt h (by decide)).trans ((up2_lt h (by decide)).trans ((up2_lt h (by decide)).trans ((up2_lt h (by decide)).trans ((up2_lt h (by decide)).trans ((up2_lt h (by decide)).trans ((up2_lt h (by decide)).trans ((up2_lt h (by decide)).trans ((up2_lt h (by decide)).trans ((up2_lt h (by decide)).trans (up2_lt h (by decide)))))))))))
            · rw [if_neg c75]
              by_cases c76 : A 1 n0 = 2
              · rw [if_pos c76]
                by_cases c77 : A 2 n0 = 73
                · rw [if_pos c77]
                  exact (up2_lt h (by decide)).trans ((up2_lt h (by decide)).trans ((up2_lt h (by decide)).trans ((up2_lt h (by decide)).trans ((up2_lt h (by decide)).trans ((up2_lt h (by decide)).trans ((up2_lt h (by decide)).trans ((up2_lt h (by decide)).trans ((up2_lt h (by decide)).trans ((up2_lt h (by decide)).trans (up2_lt h (by decide)))))))))))
                · rw [if_neg c77]
                  exact (up2_lt h (by decide)).trans ((up2_lt h (by decide)).trans ((up2_lt h (by decide)).trans ((up2_lt h (by decide)).trans ((up2_lt h (by decide)).trans ((up2_lt h (by decide)).trans ((up2_lt h (by decide)).trans ((up2_lt h (by decide)).trans ((up2_lt h (by decide)).trans ((up2_lt h (by decide)).trans (up2_lt h (by decide)))))))))))
              · rw [if_neg c76]
                exact (up2_lt h (by decide)).trans ((up2_lt h (by decide)).trans ((up2_lt h (by decide)).trans ((up2_lt h (by decide)).trans ((up2_lt h (by decide)).trans ((up2_lt h (by decide)).trans ((up2_lt h (by decide)).trans ((up2_lt h (by decide)).trans ((up2_lt h (by decide)).trans ((up2_lt h (by decide)).trans (up2_lt h (by decide)))))))))))
          · rw [if_neg c74]
            by_cases c75 : ((ms (ms (3 * (yS s0)) (((A 23) n0) - (2 * (yS s0)))) (((A 27) u) + (yS s0))) - ((A 27) u)) - (((A 26) lo) - (ms (ms (2 * (yS s0)) (((A 24) n0) + ((yS s0) / 2))) (((A 26) lo) - (4 * (yS s0))))) < 4 * yT s0
            · rw [if_pos c75]
              by_cases c76 : A 1 n0 = 2
              · rw [if_pos c76]
                by_cases c77 : A 2 n0 = 73
                · rw [if_pos c77]
                  exact (up2_lt h (by decide)).trans ((up2_lt h (by decide)).trans ((up2_lt h (by decide)).trans ((up2_lt h (by decide)).trans ((up2_lt h (by decide)).trans ((up2_lt h (by decide)).trans ((up2_lt h (by decide)).trans ((up2_lt h (by decide)).trans ((up2_lt h (by decide)).trans ((up2_lt h (by decide)).trans (up2_lt h (by decide)))))))))))
                · rw [if_neg c77]
                  exact (up2_lt h (by decide)).trans ((up2_lt h (by decide)).trans ((up2_lt h (by decide)).trans ((up2_lt h (by decide)).trans ((up2_lt h (by decide)).trans ((up2_lt h (by decide)).trans ((up2_lt h (by decide)).trans ((up2_lt h (by decide)).trans ((up2_lt h (by decide)).trans ((up2_lt h (by decide)).trans (up2_lt h (by decide)))))))))))
              · rw [if_neg c76]
                exact (up2_lt h (by decide)).trans ((up2_lt h (by decide)).trans ((up2_lt h (by decide)).trans ((up2_lt h (by decide)).trans ((up2_lt h (by decide)).trans ((up2_lt h (by decide)).trans ((up2_lt h (by decide)).trans ((up2_lt h (by decide)).trans ((up2_lt h (by decide)).trans ((up2_lt h (by decide)).trans (up2_lt h (by decide)))))))))))
            · rw [if_neg c75]
              by_cases c76 : A 1 n0 = 2
              · rw [if_pos c76]
                by_cases c77 : A 2 n0 = 73
                · rw [if_pos c77]
                  exact (up2_lt h (by decide)).trans ((up2_lt h (by decide)).trans ((up2_lt h (by decide)).trans ((up2_lt h (by decide)).trans ((up2_lt h (by decide)).trans ((up2_lt h (by decide)).trans ((up2_lt h (by decide)).trans ((up2_lt h (by decide)).trans ((up2_lt h (by decide)).trans ((up2_lt h (by decide)).trans (up2_lt h (by decide)))))))))))
                · rw [if_neg c77]
                  exact (up2_lt h (by decide)).trans ((up2_lt h (by decide)).trans ((up2_lt h (by decide)).trans ((up2_lt h (by decide)).trans ((up2_lt h (by decide)).trans ((up2_lt h (by decide)).trans ((up2_lt h (by decide)).trans ((up2_lt h (by decide)).trans ((up2_lt h (by decide)).trans ((up2_lt h (by decide)).trans (up2_lt h (by decide)))))))))))
              · rw [if_neg c76]
                exact (up2_lt h (by decide)).trans ((up2_lt h (by decide)).trans ((up2_lt h (by decide)).trans ((up2_lt h (by decide)).trans ((up2_lt h (by decide)).trans ((up2_lt h (by decide)).trans ((up2_lt h (by decide)).trans ((up2_lt h (by decide)).trans ((up2_lt h (by decide)).trans ((up2_lt h (by decide)).trans (up2_lt h (by decide)))))))))))
def rf_ch (A : Nat → Nat → Int32) (n0 s0 : Nat) : Nat → Nat → Int32 := up2 (up2 (up2 A 22 (upd (A 22) n0 (sgW (A 2 n0) (yS s0)))) 23 (upd (A 23) n0 (sgH (A 2 n0) (yS s0)))) 24 (upd (A 24) n0 (sgD (A 2 n0) (yS s0)))
theorem rf_ch_k {A : Nat → Nat → Int32} {n0 s0 k : Nat} (h : k < 22) : rf_ch A n0 s0 k = A k := by
  unfold rf_ch up2; repeat rw [if_neg (by omega)]
def rf_gr (A : Nat → Nat → Int32) (n0 u : Nat) : Nat → Nat → Int32 := up2 (up2 (up2 (up2 (up2 A 22 (upd (A 22) n0 (A 22 u))) 23 (upd (A 23) n0 (A 23 u))) 24 (upd (A 24) n0 (A 24 u))) 29 (upd (A 29) u 0)) 30 (upd (A 30) u 0)
theorem rf_gr_k {A : Nat → Nat → Int32} {n0 u k : Nat} (h : k < 22) : rf_gr A n0 u k = A k := by
  unfold rf_gr up2; repeat rw [if_neg (by omega)]
theorem rl3_k {n0 s0 k : Nat} (h : k < 22) : ∀ (t : List Nat) (A : Nat → Nat → Int32), rl3 n0 s0 t A k = A k
  | [], _ => rfl
  | i :: t, A => (rl3_k h t _).trans (by unfold rl3s up2; repeat rw [if_neg (by omega)])
theorem rf_li_k {A : Nat → Nat → Int32} {n0 s0 k : Nat} {cs : List Nat} (h : k < 22) : rf_li A n0 s0 cs k = A k := by
  unfold rf_li
  rw [rl3_k h]
  have e : rl0 n0 (rl2 cs (rl1 cs (-1) A)) k = rl2 cs (rl1 cs (-1) A) k := by unfold rl0 up2; repeat rw [if_neg (by omega)]
  rw [e, rl2_k (by omega), rl1_k (by omega)]
theorem mP_k {A : Nat → Nat → Int32} {s0 k : Nat} {cs : List Nat} (h : k < 36) : (mP A s0 cs).1 k = A k := by
  have : ∀ (cs : List Nat) (p : (Nat → Nat → Int32) × Nat), (cs.foldl mceS p).1 k = p.1 k := by
    intro cs
    induction cs with
    | nil => intro p; rfl
    | cons c cs ih => intro p; refine (ih _).trans ?_; show up2 _ _ _ k = _; unfold up2; repeat rw [if_neg (by omega)]
  refine (this cs _).trans ?_
  show rmz A (yS s0) 8 k = _
  unfold rmz up2; repeat rw [if_neg (by omega)]
theorem rf_mt_k {A : Nat → Nat → Int32} {n0 s0 cw k : Nat} {cs : List Nat} (h : k < 22) : rf_mt A n0 s0 cw cs k = A k := by
  have : ∀ (cs : List Nat) (A : Nat → Nat → Int32), (cs.foldl (mpl n0 (yS s0)) A) k = A k := by
    intro cs
    induction cs with
    | nil => intro p; rfl
    | cons c cs ih => intro p; refine (ih _).trans ?_; unfold mpl up2; repeat rw [if_neg (by omega)]
  refine (this cs _).trans ?_
  have e : mwS (mA3 n0 s0 (mP A s0 cs)) n0 (yS s0) cw k = (mP A s0 cs).1 k := by unfold mwS mA3 up2; repeat rw [if_neg (by omega)]
  rw [e, mP_k (by omega)]
/-- what measure needs to know of node n0 -/
def okM (A : Nat → Nat → Int32) (n0 s0 u lo o1 t2 cw : Nat) (cs : List Nat) : Prop := (n0 < 400 ∧ s0 < 4 ∧ A 20 n0 = nI s0) ∧ (u < 400 ∧ A 12 n0 = nI u ∧ (u ≠ 0 → u ≠ n0)) ∧ (lo < 400 ∧ A 13 n0 = nI lo ∧ (lo ≠ 0 → lo ≠ n0)) ∧ (o1 < 400 ∧ A 10 n0 = nI o1) ∧ (t2 < 400 ∧ A 11 n0 = nI t2) ∧ (A 6 n0 = nI (hdz cs) ∧ nxA (A 7) cs) ∧ (A 1 n0 = 0 → ∀ i ∈ cs, ∃ p, p < 8 ∧ A 4 i = nI p) ∧ (A 1 n0 = 5 → ∃ kT, kT ≤ 1000000000 ∧ A 26 o1 + A 27 o1 + (if s0 = 0 then yT s0 + yS s0 else 2 * yT s0) + yT s0 = nI kT) ∧ (A 1 n0 = 8 → ∃ kT, kT ≤ 1000000000 ∧ 2 * ms (ms (A 26 o1 - yX s0) (A 27 o1 + yX s0)) (4 * yS s0) = nI kT) ∧ (A 1 n0 = 9 → (∀ i ∈ cs, okw (A 9 i) ∧ okw (A 8 i)) ∧ cw ≤ 8 ∧ (∀ c, c < cw → ¬ (mP A s0 cs).1 36 c < 0) ∧ (cw = 8 ∨ (mP A s0 cs).1 36 cw < 0))
def rf_bo (A : Nat → Nat → Int32) (n0 s0 o1 t2 cw : Nat) (cs : List Nat) : Nat → Nat → Int32 := if A 1 n0 = 0 then rf_li A n0 s0 cs else if A 1 n0 = 1 then rf_ch A n0 s0 else if A 1 n0 = 2 then rf_la A n0 s0 else if A 1 n0 = 3 then rf_gr A n0 o1 else if A 1 n0 = 4 then rf_fr A n0 s0 o1 t2 else if A 1 n0 = 5 then rf_sq A n0 s0 o1 else if A 1 n0 = 8 then rf_lf A n0 s0 o1 else if A 1 n0 = 9 then rf_mt A n0 s0 cw cs else rf_ac A n0 s0 o1
def rf_me (A : Nat → Nat → Int32) (n0 s0 u lo o1 t2 cw : Nat) (cs : List Nat) : Nat → Nat → Int32 := rf_sc (rf_bo A n0 s0 o1 t2 cw cs) n0 s0 u lo
set_option maxHeartbeats 4000000 in
set_option maxRecDepth 100000 in
theorem m_Mo_measure (l : Launch) (D : va_G) (ct : Nat → ClassId) (b : Nat) (RO : State → Prop) (hR : fh_R b RO) (r : Nat) (hr : 3 ≤ r) (n x : Nat) (g : fh_H) (A : Nat → Nat → Int32) (th co at_ wr no nu op pi wi he de : Int32) (n0 s0 u lo o1 t2 cw : Nat) (cs : List Nat) (hM : okM A n0 s0 u lo o1 t2 cw cs) : fh_C l D fh_cl (fh_tys ct) b RO y_Mo_measure (Cond.code y_Mo_measure c_Mo_measure 4 (Option.none : Option FieldType) :: fh_T) (fh_rm r 0 0) [.ref x, .int (nI n0)] (mkM ct x g A th co at_ wr no nu op pi wi he de) n (fun v h' n' => v = none ∧ h' = mkM ct x g (rf_me A n0 s0 u lo o1 t2 cw cs) th co at_ wr no nu op pi wi he de ∧ n' = n) 0 0 := by
  refine fh_enter (by decide) (Nat.le_of_ble_eq_true rfl) [(0, .ref x), (1, .int (nI n0))] rfl ?_
  intro p e s m args below meth c H ls X hP hS hl
  have hx := X.1
  have hb := X.2.1
  have hml := X.2.2.1
  have hown : s.vm.findClass "FormulaSetterModel" = some m.cls := X.2.2.2.1
  have hT := X.2.2.2.2.1
  have hK := X.2.2.2.2.2.1
  have hRO := X.2.2.2.2.2.2.1
  have hnm : meth.name = "measure" := X.2.2.2.2.2.2.2.2.2.2
  obtain ⟨⟨hn0, hs0, h20⟩, ⟨hu, h12, hun⟩, ⟨hlo, h13, hln⟩, ⟨ho1, h10⟩, ⟨ht2, h11⟩, ⟨h6, hnx⟩, hM0, hM5, hM8, hM9⟩ := hM
  by_cases kd0 : A 1 n0 = 0
  · skip
    refine lv_aload_n hx hb (fh_d d_Mo_measure 0 rfl) rfl (lv_at hl 0 rfl) ?_
    refine fh_get (own := "FormulaSetterModel") (ref := "FormulaSetterModel") (C := "FormulaSetterModel") (T := T_Mo) (N := 53) (v := .ref (x + 2)) hx hb hT i_Mo hown hK hP mkM_o rfl 7 (by decide) (hT _ w867) (fun _ h9 => h9) rfl (fh_d d_Mo_measure 1 rfl) ?_
    refine lv_iload_n hx hb (fh_d d_Mo_measure 2 rfl) rfl (lv_at hl 1 rfl) ?_
    refine fn_iald (f := A 1) (k := n0) hx hb hK hP 0 mkM_a1 rfl (rfl) (by omega) (by decide) (fh_d d_Mo_measure 3 rfl) ?_
    refine lv_istore_n (lv' := [(2, .int ((A 1) n0)), (0, .ref x), (1, .int (nI n0))]) hx hb (fh_d d_Mo_measure 4 rfl) rfl hl (by decide) rfl (fun ls hl => ?_)
    refine lv_iload_n hx hb (fh_d d_Mo_measure 5 rfl) rfl (lv_at hl 0 rfl) ?_
    refine lv_if_ne (tgt := 19) hx hb (fh_d d_Mo_measure 6 rfl) rfl (fun c1 => absurd c1 (Classical.not_not.mpr (kd0))) (fun c1 => ?_)
    refine lv_aload_n hx hb (fh_d d_Mo_measure 7 rfl) rfl (lv_at hl 1 rfl) ?_
    refine lv_iload_n hx hb (fh_d d_Mo_measure 8 rfl) rfl (lv_at hl 2 rfl) ?_
    refine fh_callV (cc' := c_Mo_setList) (nL' := 7) (rest := []) (a := x) (As := [.int (nI n0)]) X hR (m_Mo_setList l D ct b RO hR (r - 1) (by omega) n x g A th co at_ wr no nu op pi wi he de n0 hn0 s0 hs0 h20 cs h6 hnx (hM0 kd0)) w1136 w1133 w1135 v50 w9 ⟨by decide, by decide, by show _ = some 1; decide +kernel⟩ (by omega) (by decide) (fh_recv hK hP mkM_o rfl) hP hS hl.1 rfl (by exact Nat.le_of_ble_eq_true rfl) (fh_d d_Mo_measure 9 rfl) ⟨Nat.le_refl _, Nat.le_refl _⟩ (fun v9 h9 n9 H locs hq hP hS => ?_)
    obtain ⟨rfl, u2, u3⟩ := hq
    rw [u2, u3] at hP
    refine W.eq (g2 := F0 m 16 ls []) rfl ?_
    refine lv_goto (tgt := 222) hx hb (fh_d d_Mo_measure 10 rfl) rfl ?_
    refine lv_aload_n hx hb (fh_d d_Mo_measure 132 rfl) rfl (lv_at hl 1 rfl) ?_
    refine lv_iload_n hx hb (fh_d d_Mo_measure 133 rfl) rfl (lv_at hl 2 rfl) ?_
    replace hP : fh_P D fh_cl b (mkM ct x g (rf_li A n0 s0 cs) th co at_ wr no nu op pi wi he de) n H := hP
    refine fh_callV (cc' := c_Mo_setScripts) (nL' := 10) (rest := []) (a := x) (As := [.int (nI n0)]) X hR (m_Mo_setScripts l D ct b RO hR (r - 1) (by omega) n x g (rf_li A n0 s0 cs) th co at_ wr no nu op pi wi he de n0 hn0 s0 hs0 ((congrFun (rf_li_k (by decide)) n0).trans h20) u lo hu hlo ((congrFun (rf_li_k (by decide)) n0).trans h12) ((congrFun (rf_li_k (by decide)) n0).trans h13) hun hln) w1197 w1194 w1196 v57 w9 ⟨by decide, by decide, by show _ = some 1; decide +kernel⟩ (by omega) (by decide) (fh_recv hK hP mkM_o rfl) hP hS hl.1 rfl (by exact Nat.le_of_ble_eq_true rfl) (fh_d d_Mo_measure 134 rfl) ⟨Nat.le_refl _, Nat.le_refl _⟩ (fun v9 h9 n9 H locs hq hP hS => ?_)
    obtain ⟨rfl, u4, u5⟩ := hq
    rw [u4, u5] at hP
    refine W.eq (g2 := F0 m 227 ls []) rfl ?_
    exact fh_vret X hP hS (fh_d d_Mo_measure 135 rfl) ⟨rfl, by unfold rf_me rf_bo; rw [if_pos kd0], rfl⟩
  · skip
    by_cases kd1 : A 1 n0 = 1
    · skip
      refine lv_aload_n hx hb (fh_d d_Mo_measure 0 rfl) rfl (lv_at hl 0 rfl) ?_
      refine fh_get (own := "FormulaSetterModel") (ref := "FormulaSetterModel") (C := "FormulaSetterModel") (T := T_Mo) (N := 53) (v := .ref (x + 2)) hx hb hT i_Mo hown hK hP mkM_o rfl 7 (by decide) (hT _ w867) (fun _ h9 => h9) rfl (fh_d d_Mo_measure 1 rfl) ?_
      refine lv_iload_n hx hb (fh_d d_Mo_measure 2 rfl) rfl (lv_at hl 1 rfl) ?_
      refine fn_iald (f := A 1) (k := n0) hx hb hK hP 0 mkM_a1 rfl (rfl) (by omega) (by decide) (fh_d d_Mo_measure 3 rfl) ?_
      refine lv_istore_n (lv' := [(2, .int ((A 1) n0)), (0, .ref x), (1, .int (nI n0))]) hx hb (fh_d d_Mo_measure 4 rfl) rfl hl (by decide) rfl (fun ls hl => ?_)
      refine lv_iload_n hx hb (fh_d d_Mo_measure 5 rfl) rfl (lv_at hl 0 rfl) ?_
      refine lv_if_ne (tgt := 19) hx hb (fh_d d_Mo_measure 6 rfl) rfl (fun c6 => ?_) (fun c6 => absurd c6 (kd0))
      refine lv_iload_n hx hb (fh_d d_Mo_measure 11 rfl) rfl (lv_at hl 0 rfl) ?_
      refine lv_iconst (v := 1) hx hb (fh_d d_Mo_measure 12 rfl) (by decide) ?_
      refine lv_icmp_ne (tgt := 85) hx hb (fh_d d_Mo_measure 13 rfl) rfl (fun c7 => absurd c7 (Classical.not_not.mpr (kd1))) (fun c7 => ?_)
      refine lv_aload_n hx hb (fh_d d_Mo_measure 14 rfl) rfl (lv_at hl 1 rfl) ?_
      refine fh_get (own := "FormulaSetterModel") (ref := "FormulaSetterModel") (C := "FormulaSetterModel") (T := T_Mo) (N := 53) (v := .ref (x + 21)) hx hb hT i_Mo hown hK hP mkM_o rfl 27 (by decide) (hT _ w887) (fun _ h9 => h9) rfl (fh_d d_Mo_measure 15 rfl) ?_
      refine lv_iload_n hx hb (fh_d d_Mo_measure 16 rfl) rfl (lv_at hl 2 rfl) ?_
      refine fn_iald (f := A 20) (k := n0) hx hb hK hP 0 mkM_a20 rfl (rfl) (by omega) (by decide) (fh_d d_Mo_measure 17 rfl) ?_
      rw [show ((A 20) n0) = nI s0 from h20]
      refine fh_callS (cc' := c_Mo_zOf) (nL' := 1) (rest := []) (av := [.int (nI s0)]) X hR (m_Mo_zO l D ct b RO hR (r - 1) (by omega) n s0 hs0 (mkM ct x g A th co at_ wr no nu op pi wi he de)) w1139 w1137 w1138 w9 ⟨by decide, by decide, by show _ = some 1; decide +kernel⟩ (by omega) (by decide) hP hS hl.1 rfl (by exact Nat.le_of_ble_eq_true rfl) (fh_d d_Mo_measure 18 rfl) ⟨Nat.le_refl _, Nat.le_refl _⟩ (fun v9 h9 n9 H locs hq hP hS => ?_)
      obtain ⟨rfl, q8a, q8b⟩ := hq
      rw [q8a, q8b] at hP
      refine W.eq (g2 := F0 m 33 ls [.int (yS s0)]) rfl ?_
      refine lv_istore_n (lv' := [(3, .int (yS s0)), (2, .int ((A 1) n0)), (0, .ref x), (1, .int (nI n0))]) hx hb (fh_d d_Mo_measure 19 rfl) rfl hl (by decide) rfl (fun ls hl => ?_)
      refine lv_aload_n hx hb (fh_d d_Mo_measure 20 rfl) rfl (lv_at hl 2 rfl) ?_
      refine fh_get (own := "FormulaSetterModel") (ref := "FormulaSetterModel") (C := "FormulaSetterModel") (T := T_Mo) (N := 53) (v := .ref (x + 23)) hx hb hT i_Mo hown hK hP mkM_o rfl 29 (by decide) (hT _ w889) (fun _ h9 => h9) rfl (fh_d d_Mo_measure 21 rfl) ?_
      refine lv_iload_n hx hb (fh_d d_Mo_measure 22 rfl) rfl (lv_at hl 3 rfl) ?_
      refine lv_aload_n hx hb (fh_d d_Mo_measure 23 rfl) rfl (lv_at hl 2 rfl) ?_
      refine fh_get (own := "FormulaSetterModel") (ref := "FormulaSetterModel") (C := "FormulaSetterModel") (T := T_Mo) (N := 53) (v := .ref (x + 3)) hx hb hT i_Mo hown hK hP mkM_o rfl 8 (by decide) (hT _ w868) (fun _ h9 => h9) rfl (fh_d d_Mo_measure 24 rfl) ?_
      refine lv_iload_n hx hb (fh_d d_Mo_measure 25 rfl) rfl (lv_at hl 3 rfl) ?_
      refine fn_iald (f := A 2) (k := n0) hx hb hK hP 0 mkM_a2 rfl (rfl) (by omega) (by decide) (fh_d d_Mo_measure 26 rfl) ?_
      refine lv_iload_n hx hb (fh_d d_Mo_measure 27 rfl) rfl (lv_at hl 0 rfl) ?_
      refine fh_callS (cc' := c_Mo_signW) (nL' := 2) (rest := [.int (nI n0), .ref (x + 23)]) (av := [.int ((A 2) n0), .int (yS s0)]) X hR (m_Mo_signW l D ct b RO (r - 1) n ((A 2) n0) (yS s0) (mkM ct x g A th co at_ wr no nu op pi wi he de)) w1154 w1152 w1153 w9 ⟨by decide, by decide, by show _ = some 2; decide +kernel⟩ (by omega) (by decide) hP hS hl.1 rfl (by exact Nat.le_of_ble_eq_true rfl) (fh_d d_Mo_measure 28 rfl) ⟨Nat.le_refl _, Nat.le_refl _⟩ (fun v9 h9 n9 H locs hq hP hS => ?_)
      obtain ⟨rfl, q9a, q9b⟩ := hq
      rw [q9a, q9b] at hP
      refine W.eq (g2 := F0 m 49 ls [.int (sgW ((A 2) n0) (yS s0)), .int (nI n0), .ref (x + 23)]) rfl ?_
      refine fn_iast (f := A 22) (k := n0) hx hb hK hP hS 0 mkM_a22 rfl (rfl) (by omega) (by decide) (fh_d d_Mo_measure 29 rfl) (fun H locs hP hS => ?_)
      replace hP := fh_P.eq (h' := mkM ct x g (up2 A 22 (upd (A 22) n0 (sgW ((A 2) n0) (yS s0)))) th co at_ wr no nu op pi wi he de) hP mkM_u22
      refine lv_aload_n hx hb (fh_d d_Mo_measure 30 rfl) rfl (lv_at hl 2 rfl) ?_
      refine fh_get (own := "FormulaSetterModel") (ref := "FormulaSetterModel") (C := "FormulaSetterModel") (T := T_Mo) (N := 53) (v := .ref (x + 24)) hx hb hT i_Mo hown hK hP mkM_o rfl 30 (by decide) (hT _ w890) (fun _ h9 => h9) rfl (fh_d d_Mo_measure 31 rfl) ?_
      refine lv_iload_n hx hb (fh_d d_Mo_measure 32 rfl) rfl (lv_at hl 3 rfl) ?_
      refine lv_aload_n hx hb (fh_d d_Mo_measure 33 rfl) rfl (lv_at hl 2 rfl) ?_
      refine fh_get (own := "FormulaSetterModel") (ref := "FormulaSetterModel") (C := "FormulaSetterModel") (T := T_Mo) (N := 53) (v := .ref (x + 3)) hx hb hT i_Mo hown hK hP mkM_o rfl 8 (by decide) (hT _ w868) (fun _ h9 => h9) rfl (fh_d d_Mo_measure 34 rfl) ?_
      refine lv_iload_n hx hb (fh_d d_Mo_measure 35 rfl) rfl (lv_at hl 3 rfl) ?_
      refine fn_iald (f := A 2) (k := n0) hx hb hK hP 0 mkM_a2 rfl (rfl) (by omega) (by decide) (fh_d d_Mo_measure 36 rfl) ?_
      refine lv_iload_n hx hb (fh_d d_Mo_measure 37 rfl) rfl (lv_at hl 0 rfl) ?_
      refine fh_callS (cc' := c_Mo_signH) (nL' := 2) (rest := [.int (nI n0), .ref (x + 24)]) (av := [.int ((A 2) n0), .int (yS s0)]) X hR (m_Mo_signH l D ct b RO (r - 1) n ((A 2) n0) (yS s0) (mkM ct x g (up2 A 22 (upd (A 22) n0 (sgW ((A 2) n0) (yS s0)))) th co at_ wr no nu op pi wi he de)) w1157 w1155 w1156 w9 ⟨by decide, by decide, by show _ = some 2; decide +kernel⟩ (by omega) (by decide) hP hS hl.1 rfl (by exact Nat.le_of_ble_eq_true rfl) (fh_d d_Mo_measure 38 rfl) ⟨Nat.le_refl _, Nat.le_refl _⟩ (fun v9 h9 n9 H locs hq hP hS => ?_)
      obtain ⟨rfl, q10a, q10b⟩ := hq
      rw [q10a, q10b] at hP
      refine W.eq (g2 := F0 m 65 ls [.int (sgH ((A 2) n0) (yS s0)), .int (nI n0), .ref (x + 24)]) rfl ?_
      refine fn_iast (f := A 23) (k := n0) hx hb hK hP hS 0 mkM_a23 rfl (rfl) (by omega) (by decide) (fh_d d_Mo_measure 39 rfl) (fun H locs hP hS => ?_)
      replace hP := fh_P.eq (h' := mkM ct x g (up2 (up2 A 22 (upd (A 22) n0 (sgW ((A 2) n0) (yS s0)))) 23 (upd (A 23) n0 (sgH ((A 2) n0) (yS s0)))) th co at_ wr no nu op pi wi he de) hP mkM_u23
      refine lv_aload_n hx hb (fh_d d_Mo_measure 40 rfl) rfl (lv_at hl 2 rfl) ?_
      refine fh_get (own := "FormulaSetterModel") (ref := "FormulaSetterModel") (C := "FormulaSetterModel") (T := T_Mo) (N := 53) (v := .ref (x + 25)) hx hb hT i_Mo hown hK hP mkM_o rfl 31 (by decide) (hT _ w891) (fun _ h9 => h9) rfl (fh_d d_Mo_measure 41 rfl) ?_
      refine lv_iload_n hx hb (fh_d d_Mo_measure 42 rfl) rfl (lv_at hl 3 rfl) ?_
      refine lv_aload_n hx hb (fh_d d_Mo_measure 43 rfl) rfl (lv_at hl 2 rfl) ?_
      refine fh_get (own := "FormulaSetterModel") (ref := "FormulaSetterModel") (C := "FormulaSetterModel") (T := T_Mo) (N := 53) (v := .ref (x + 3)) hx hb hT i_Mo hown hK hP mkM_o rfl 8 (by decide) (hT _ w868) (fun _ h9 => h9) rfl (fh_d d_Mo_measure 44 rfl) ?_
      refine lv_iload_n hx hb (fh_d d_Mo_measure 45 rfl) rfl (lv_at hl 3 rfl) ?_
      refine fn_iald (f := A 2) (k := n0) hx hb hK hP 0 mkM_a2 rfl (rfl) (by omega) (by decide) (fh_d d_Mo_measure 46 rfl) ?_
      refine lv_iload_n hx hb (fh_d d_Mo_measure 47 rfl) rfl (lv_at hl 0 rfl) ?_
      refine fh_callS (cc' := c_Mo_signD) (nL' := 2) (rest := [.int (nI n0), .ref (x + 25)]) (av := [.int ((A 2) n0), .int (yS s0)]) X hR (m_Mo_signD l D ct b RO (r - 1) n ((A 2) n0) (yS s0) (mkM ct x g (up2 (up2 A 22 (upd (A 22) n0 (sgW ((A 2) n0) (yS s0)))) 23 (upd (A 23) n0 (sgH ((A 2) n0) (yS s0)))) th co at_ wr no nu op pi wi he de)) w1160 w1158 w1159 w9 ⟨by decide, by decide, by show _ = some 2; decide +kernel⟩ (by omega) (by decide) hP hS hl.1 rfl (by exact Nat.le_of_ble_eq_true rfl) (fh_d d_Mo_measure 48 rfl) ⟨Nat.le_refl _, Nat.le_refl _⟩ (fun v9 h9 n9 H locs hq hP hS => ?_)
      obtain ⟨rfl, q11a, q11b⟩ := hq
      rw [q11a, q11b] at hP
      refine W.eq (g2 := F0 m 81 ls [.int (sgD ((A 2) n0) (yS s0)), .int (nI n0), .ref (x + 25)]) rfl ?_
      refine fn_iast (f := A 24) (k := n0) hx hb hK hP hS 0 mkM_a24 rfl (rfl) (by omega) (by decide) (fh_d d_Mo_measure 49 rfl) (fun H locs hP hS => ?_)
      replace hP := fh_P.eq (h' := mkM ct x g (up2 (up2 (up2 A 22 (upd (A 22) n0 (sgW ((A 2) n0) (yS s0)))) 23 (upd (A 23) n0 (sgH ((A 2) n0) (yS s0)))) 24 (upd (A 24) n0 (sgD ((A 2) n0) (yS s0)))) th co at_ wr no nu op pi wi he de) hP mkM_u24
      refine lv_goto (tgt := 222) hx hb (fh_d d_Mo_measure 50 rfl) rfl ?_
      refine lv_aload_n hx hb (fh_d d_Mo_measure 132 rfl) rfl (lv_at hl 2 rfl) ?_
      refine lv_iload_n hx hb (fh_d d_Mo_measure 133 rfl) rfl (lv_at hl 3 rfl) ?_
      replace hP : fh_P D fh_cl b (mkM ct x g (rf_ch A n0 s0) th co at_ wr no nu op pi wi he de) n H := hP
      refine fh_callV (cc' := c_Mo_setScripts) (nL' := 10) (rest := []) (a := x) (As := [.int (nI n0)]) X hR (m_Mo_setScripts l D ct b RO hR (r - 1) (by omega) n x g (rf_ch A n0 s0) th co at_ wr no nu op pi wi he de n0 hn0 s0 hs0 ((congrFun (rf_ch_k (by decide)) n0).trans h20) u lo hu hlo ((congrFun (rf_ch_k (by decide)) n0).trans h12) ((congrFun (rf_ch_k (by decide)) n0).trans h13) hun hln) w1197 w1194 w1196 v57 w9 ⟨by decide, by decide, by show _ = some 1; decide +kernel⟩ (by omega) (by decide) (fh_recv hK hP mkM_o rfl) hP hS hl.1 rfl (by exact Nat.le_of_ble_eq_true rfl) (fh_d d_Mo_measure 134 rfl) ⟨Nat.le_refl _, Nat.le_refl _⟩ (fun v9 h9 n9 H locs hq hP hS => ?_)
      obtain ⟨rfl, u12, u13⟩ := hq
      rw [u12, u13] at hP
      refine W.eq (g2 := F0 m 227 ls []) rfl ?_
      exact fh_vret X hP hS (fh_d d_Mo_measure 135 rfl) ⟨rfl, by unfold rf_me rf_bo; rw [if_neg kd0, if_pos kd1], rfl⟩
    · skip
      by_cases kd2 : A 1 n0 = 2
      · skip
        refine lv_aload_n hx hb (fh_d d_Mo_measure 0 rfl) rfl (lv_at hl 0 rfl) ?_
        refine fh_get (own := "FormulaSetterModel") (ref := "FormulaSetterModel") (C := "FormulaSetterModel") (T := T_Mo) (N := 53) (v := .ref (x + 2)) hx hb hT i_Mo hown hK hP mkM_o rfl 7 (by decide) (hT _ w867) (fun _ h9 => h9) rfl (fh_d d_Mo_measure 1 rfl) ?_
        refine lv_iload_n hx hb (fh_d d_Mo_measure 2 rfl) rfl (lv_at hl 1 rfl) ?_
        refine fn_iald (f := A 1) (k := n0) hx hb hK hP 0 mkM_a1 rfl (rfl) (by omega) (by decide) (fh_d d_Mo_measure 3 rfl) ?_
        refine lv_istore_n (lv' := [(2, .int ((A 1) n0)), (0, .ref x), (1, .int (nI n0))]) hx hb (fh_d d_Mo_measure 4 rfl) rfl hl (by decide) rfl (fun ls hl => ?_)
        refine lv_iload_n hx hb (fh_d d_Mo_measure 5 rfl) rfl (lv_at hl 0 rfl) ?_
        refine lv_if_ne (tgt := 19) hx hb (fh_d d_Mo_measure 6 rfl) rfl (fun c14 => ?_) (fun c14 => absurd c14 (kd0))
        refine lv_iload_n hx hb (fh_d d_Mo_measure 11 rfl) rfl (lv_at hl 0 rfl) ?_
        refine lv_iconst (v := 1) hx hb (fh_d d_Mo_measure 12 rfl) (by decide) ?_
        refine lv_icmp_ne (tgt := 85) hx hb (fh_d d_Mo_measure 13 rfl) rfl (fun c15 => ?_) (fun c15 => absurd c15 (kd1))
        refine lv_iload_n hx hb (fh_d d_Mo_measure 51 rfl) rfl (lv_at hl 0 rfl) ?_
        refine lv_iconst (v := 2) hx hb (fh_d d_Mo_measure 52 rfl) (by decide) ?_
        refine lv_icmp_ne (tgt := 98) hx hb (fh_d d_Mo_measure 53 rfl) rfl (fun c16 => absurd c16 (Classical.not_not.mpr (kd2))) (fun c16 => ?_)
        refine lv_aload_n hx hb (fh_d d_Mo_measure 54 rfl) rfl (lv_at hl 1 rfl) ?_
        refine lv_iload_n hx hb (fh_d d_Mo_measure 55 rfl) rfl (lv_at hl 2 rfl) ?_
        refine fh_callV (cc' := c_Mo_setLarge) (nL' := 4) (rest := []) (a := x) (As := [.int (nI n0)]) X hR (m_Mo_setLarge l D ct b RO hR (r - 1) (by omega) n x g A th co at_ wr no nu op pi wi he de n0 hn0 s0 hs0 h20) w1164 w1161 w1163 v51 w9 ⟨by decide, by decide, by show _ = some 1; decide +kernel⟩ (by omega) (by decide) (fh_recv hK hP mkM_o rfl) hP hS hl.1 rfl (by exact Nat.le_of_ble_eq_true rfl) (fh_d d_Mo_measure 56 rfl) ⟨Nat.le_refl _, Nat.le_refl _⟩ (fun v9 h9 n9 H locs hq hP hS => ?_)
        obtain ⟨rfl, u17, u18⟩ := hq
        rw [u17, u18] at hP
        refine W.eq (g2 := F0 m 95 ls []) rfl ?_
        refine lv_goto (tgt := 222) hx hb (fh_d d_Mo_measure 57 rfl) rfl ?_
        refine lv_aload_n hx hb (fh_d d_Mo_measure 132 rfl) rfl (lv_at hl 1 rfl) ?_
        refine lv_iload_n hx hb (fh_d d_Mo_measure 133 rfl) rfl (lv_at hl 2 rfl) ?_
        replace hP : fh_P D fh_cl b (mkM ct x g (rf_la A n0 s0) th co at_ wr no nu op pi wi he de) n H := hP
        refine fh_callV (cc' := c_Mo_setScripts) (nL' := 10) (rest := []) (a := x) (As := [.int (nI n0)]) X hR (m_Mo_setScripts l D ct b RO hR (r - 1) (by omega) n x g (rf_la A n0 s0) th co at_ wr no nu op pi wi he de n0 hn0 s0 hs0 ((congrFun (rf_la_k (by decide)) n0).trans h20) u lo hu hlo ((congrFun (rf_la_k (by decide)) n0).trans h12) ((congrFun (rf_la_k (by decide)) n0).trans h13) hun hln) w1197 w1194 w1196 v57 w9 ⟨by decide, by decide, by show _ = some 1; decide +kernel⟩ (by omega) (by decide) (fh_recv hK hP mkM_o rfl) hP hS hl.1 rfl (by exact Nat.le_of_ble_eq_true rfl) (fh_d d_Mo_measure 134 rfl) ⟨Nat.le_refl _, Nat.le_refl _⟩ (fun v9 h9 n9 H locs hq hP hS => ?_)
        obtain ⟨rfl, u19, u20⟩ := hq
        rw [u19, u20] at hP
        refine W.eq (g2 := F0 m 227 ls []) rfl ?_
        exact fh_vret X hP hS (fh_d d_Mo_measure 135 rfl) ⟨rfl, by unfold rf_me rf_bo; rw [if_neg kd0, if_neg kd1, if_pos kd2], rfl⟩
      · skip
        by_cases kd3 : A 1 n0 = 3
        · skip
          refine lv_aload_n hx hb (fh_d d_Mo_measure 0 rfl) rfl (lv_at hl 0 rfl) ?_
          refine fh_get (own := "FormulaSetterModel") (ref := "FormulaSetterModel") (C := "FormulaSetterModel") (T := T_Mo) (N := 53) (v := .ref (x + 2)) hx hb hT i_Mo hown hK hP mkM_o rfl 7 (by decide) (hT _ w867) (fun _ h9 => h9) rfl (fh_d d_Mo_measure 1 rfl) ?_
          refine lv_iload_n hx hb (fh_d d_Mo_measure 2 rfl) rfl (lv_at hl 1 rfl) ?_
          refine fn_iald (f := A 1) (k := n0) hx hb hK hP 0 mkM_a1 rfl (rfl) (by omega) (by decide) (fh_d d_Mo_measure 3 rfl) ?_
          refine lv_istore_n (lv' := [(2, .int ((A 1) n0)), (0, .ref x), (1, .int (nI n0))]) hx hb (fh_d d_Mo_measure 4 rfl) rfl hl (by decide) rfl (fun ls hl => ?_)
          refine lv_iload_n hx hb (fh_d d_Mo_measure 5 rfl) rfl (lv_at hl 0 rfl) ?_
          refine lv_if_ne (tgt := 19) hx hb (fh_d d_Mo_measure 6 rfl) rfl (fun c21 => ?_) (fun c21 => absurd c21 (kd0))
          refine lv_iload_n hx hb (fh_d d_Mo_measure 11 rfl) rfl (lv_at hl 0 rfl) ?_
          refine lv_iconst (v := 1) hx hb (fh_d d_Mo_measure 12 rfl) (by decide) ?_
          refine lv_icmp_ne (tgt := 85) hx hb (fh_d d_Mo_measure 13 rfl) rfl (fun c22 => ?_) (fun c22 => absurd c22 (kd1))
          refine lv_iload_n hx hb (fh_d d_Mo_measure 51 rfl) rfl (lv_at hl 0 rfl) ?_
          refine lv_iconst (v := 2) hx hb (fh_d d_Mo_measure 52 rfl) (by decide) ?_
          refine lv_icmp_ne (tgt := 98) hx hb (fh_d d_Mo_measure 53 rfl) rfl (fun c23 => ?_) (fun c23 => absurd c23 (kd2))
          refine lv_iload_n hx hb (fh_d d_Mo_measure 58 rfl) rfl (lv_at hl 0 rfl) ?_
          refine lv_iconst (v := 3) hx hb (fh_d d_Mo_measure 59 rfl) (by decide) ?_
          refine lv_icmp_ne (tgt := 163) hx hb (fh_d d_Mo_measure 60 rfl) rfl (fun c24 => absurd c24 (Classical.not_not.mpr (kd3))) (fun c24 => ?_)
          refine lv_aload_n hx hb (fh_d d_Mo_measure 61 rfl) rfl (lv_at hl 1 rfl) ?_
          refine fh_get (own := "FormulaSetterModel") (ref := "FormulaSetterModel") (C := "FormulaSetterModel") (T := T_Mo) (N := 53) (v := .ref (x + 11)) hx hb hT i_Mo hown hK hP mkM_o rfl 16 (by decide) (hT _ w876) (fun _ h9 => h9) rfl (fh_d d_Mo_measure 62 rfl) ?_
          refine lv_iload_n hx hb (fh_d d_Mo_measure 63 rfl) rfl (lv_at hl 2 rfl) ?_
          refine fn_iald (f := A 10) (k := n0) hx hb hK hP 0 mkM_a10 rfl (rfl) (by omega) (by decide) (fh_d d_Mo_measure 64 rfl) ?_
          rw [show ((A 10) n0) = nI o1 from h10]
          refine lv_istore_n (lv' := [(3, .int (nI o1)), (2, .int ((A 1) n0)), (0, .ref x), (1, .int (nI n0))]) hx hb (fh_d d_Mo_measure 65 rfl) rfl hl (by decide) rfl (fun ls hl => ?_)
          refine lv_aload_n hx hb (fh_d d_Mo_measure 66 rfl) rfl (lv_at hl 2 rfl) ?_
          refine fh_get (own := "FormulaSetterModel") (ref := "FormulaSetterModel") (C := "FormulaSetterModel") (T := T_Mo) (N := 53) (v := .ref (x + 23)) hx hb hT i_Mo hown hK hP mkM_o rfl 29 (by decide) (hT _ w889) (fun _ h9 => h9) rfl (fh_d d_Mo_measure 67 rfl) ?_
          refine lv_iload_n hx hb (fh_d d_Mo_measure 68 rfl) rfl (lv_at hl 3 rfl) ?_
          refine lv_aload_n hx hb (fh_d d_Mo_measure 69 rfl) rfl (lv_at hl 2 rfl) ?_
          refine fh_get (own := "FormulaSetterModel") (ref := "FormulaSetterModel") (C := "FormulaSetterModel") (T := T_Mo) (N := 53) (v := .ref (x + 23)) hx hb hT i_Mo hown hK hP mkM_o rfl 29 (by decide) (hT _ w889) (fun _ h9 => h9) rfl (fh_d d_Mo_measure 70 rfl) ?_
          refine lv_iload_n hx hb (fh_d d_Mo_measure 71 rfl) rfl (lv_at hl 0 rfl) ?_
          refine fn_iald (f := A 22) (k := o1) hx hb hK hP 0 mkM_a22 rfl (rfl) (by omega) (by decide) (fh_d d_Mo_measure 72 rfl) ?_
          refine fn_iast (f := A 22) (k := n0) hx hb hK hP hS 0 mkM_a22 rfl (rfl) (by omega) (by decide) (fh_d d_Mo_measure 73 rfl) (fun H locs hP hS => ?_)
          replace hP := fh_P.eq (h' := mkM ct x g (up2 A 22 (upd (A 22) n0 ((A 22) o1))) th co at_ wr no nu op pi wi he de) hP mkM_u22
          refine lv_aload_n hx hb (fh_d d_Mo_measure 74 rfl) rfl (lv_at hl 2 rfl) ?_
          refine fh_get (own := "FormulaSetterModel") (ref := "FormulaSetterModel") (C := "FormulaSetterModel") (T := T_Mo) (N := 53) (v := .ref (x + 24)) hx hb hT i_Mo hown hK hP mkM_o rfl 30 (by decide) (hT _ w890) (fun _ h9 => h9) rfl (fh_d d_Mo_measure 75 rfl) ?_
          refine lv_iload_n hx hb (fh_d d_Mo_measure 76 rfl) rfl (lv_at hl 3 rfl) ?_
          refine lv_aload_n hx hb (fh_d d_Mo_measure 77 rfl) rfl (lv_at hl 2 rfl) ?_
          refine fh_get (own := "FormulaSetterModel") (ref := "FormulaSetterModel") (C := "FormulaSetterModel") (T := T_Mo) (N := 53) (v := .ref (x + 24)) hx hb hT i_Mo hown hK hP mkM_o rfl 30 (by decide) (hT _ w890) (fun _ h9 => h9) rfl (fh_d d_Mo_measure 78 rfl) ?_
          refine lv_iload_n hx hb (fh_d d_Mo_measure 79 rfl) rfl (lv_at hl 0 rfl) ?_
          refine fn_iald (f := A 23) (k := o1) hx hb hK hP 0 mkM_a23 rfl (rfl) (by omega) (by decide) (fh_d d_Mo_measure 80 rfl) ?_
          refine fn_iast (f := A 23) (k := n0) hx hb hK hP hS 0 mkM_a23 rfl (rfl) (by omega) (by decide) (fh_d d_Mo_measure 81 rfl) (fun H locs hP hS => ?_)
          replace hP := fh_P.eq (h' := mkM ct x g (up2 (up2 A 22 (upd (A 22) n0 ((A 22) o1))) 23 (upd (A 23) n0 ((A 23) o1))) th co at_ wr no nu op pi wi he de) hP mkM_u23
          refine lv_aload_n hx hb (fh_d d_Mo_measure 82 rfl) rfl (lv_at hl 2 rfl) ?_
          refine fh_get (own := "FormulaSetterModel") (ref := "FormulaSetterModel") (C := "FormulaSetterModel") (T := T_Mo) (N := 53) (v := .ref (x + 25)) hx hb hT i_Mo hown hK hP mkM_o rfl 31 (by decide) (hT _ w891) (fun _ h9 => h9) rfl (fh_d d_Mo_measure 83 rfl) ?_
          refine lv_iload_n hx hb (fh_d d_Mo_measure 84 rfl) rfl (lv_at hl 3 rfl) ?_
          refine lv_aload_n hx hb (fh_d d_Mo_measure 85 rfl) rfl (lv_at hl 2 rfl) ?_
          refine fh_get (own := "FormulaSetterModel") (ref := "FormulaSetterModel") (C := "FormulaSetterModel") (T := T_Mo) (N := 53) (v := .ref (x + 25)) hx hb hT i_Mo hown hK hP mkM_o rfl 31 (by decide) (hT _ w891) (fun _ h9 => h9) rfl (fh_d d_Mo_measure 86 rfl) ?_
          refine lv_iload_n hx hb (fh_d d_Mo_measure 87 rfl) rfl (lv_at hl 0 rfl) ?_
          refine fn_iald (f := A 24) (k := o1) hx hb hK hP 0 mkM_a24 rfl (rfl) (by omega) (by decide) (fh_d d_Mo_measure 88 rfl) ?_
          refine fn_iast (f := A 24) (k := n0) hx hb hK hP hS 0 mkM_a24 rfl (rfl) (by omega) (by decide) (fh_d d_Mo_measure 89 rfl) (fun H locs hP hS => ?_)
          replace hP := fh_P.eq (h' := mkM ct x g (up2 (up2 (up2 A 22 (upd (A 22) n0 ((A 22) o1))) 23 (upd (A 23) n0 ((A 23) o1))) 24 (upd (A 24) n0 ((A 24) o1))) th co at_ wr no nu op pi wi he de) hP mkM_u24
          refine lv_aload_n hx hb (fh_d d_Mo_measure 90 rfl) rfl (lv_at hl 2 rfl) ?_
          refine fh_get (own := "FormulaSetterModel") (ref := "FormulaSetterModel") (C := "FormulaSetterModel") (T := T_Mo) (N := 53) (v := .ref (x + 30)) hx hb hT i_Mo hown hK hP mkM_o rfl 36 (by decide) (hT _ w896) (fun _ h9 => h9) rfl (fh_d d_Mo_measure 91 rfl) ?_
          refine lv_iload_n hx hb (fh_d d_Mo_measure 92 rfl) rfl (lv_at hl 0 rfl) ?_
          refine lv_iconst (v := 0) hx hb (fh_d d_Mo_measure 93 rfl) (by decide) ?_
          refine fn_iast (f := A 29) (k := o1) hx hb hK hP hS 0 mkM_a29 rfl (rfl) (by omega) (by decide) (fh_d d_Mo_measure 94 rfl) (fun H locs hP hS => ?_)
          replace hP := fh_P.eq (h' := mkM ct x g (up2 (up2 (up2 (up2 A 22 (upd (A 22) n0 ((A 22) o1))) 23 (upd (A 23) n0 ((A 23) o1))) 24 (upd (A 24) n0 ((A 24) o1))) 29 (upd (A 29) o1 0)) th co at_ wr no nu op pi wi he de) hP mkM_u29
          refine lv_aload_n hx hb (fh_d d_Mo_measure 95 rfl) rfl (lv_at hl 2 rfl) ?_
          refine fh_get (own := "FormulaSetterModel") (ref := "FormulaSetterModel") (C := "FormulaSetterModel") (T := T_Mo) (N := 53) (v := .ref (x + 31)) hx hb hT i_Mo hown hK hP mkM_o rfl 37 (by decide) (hT _ w897) (fun _ h9 => h9) rfl (fh_d d_Mo_measure 96 rfl) ?_
          refine lv_iload_n hx hb (fh_d d_Mo_measure 97 rfl) rfl (lv_at hl 0 rfl) ?_
          refine lv_iconst (v := 0) hx hb (fh_d d_Mo_measure 98 rfl) (by decide) ?_
          refine fn_iast (f := A 30) (k := o1) hx hb hK hP hS 0 mkM_a30 rfl (rfl) (by omega) (by decide) (fh_d d_Mo_measure 99 rfl) (fun H locs hP hS => ?_)
          replace hP := fh_P.eq (h' := mkM ct x g (up2 (up2 (up2 (up2 (up2 A 22 (upd (A 22) n0 ((A 22) o1))) 23 (upd (A 23) n0 ((A 23) o1))) 24 (upd (A 24) n0 ((A 24) o1))) 29 (upd (A 29) o1 0)) 30 (upd (A 30) o1 0)) th co at_ wr no nu op pi wi he de) hP mkM_u30
          refine lv_goto (tgt := 222) hx hb (fh_d d_Mo_measure 100 rfl) rfl ?_
          refine lv_aload_n hx hb (fh_d d_Mo_measure 132 rfl) rfl (lv_at hl 2 rfl) ?_
          refine lv_iload_n hx hb (fh_d d_Mo_measure 133 rfl) rfl (lv_at hl 3 rfl) ?_
          replace hP : fh_P D fh_cl b (mkM ct x g (rf_gr A n0 o1) th co at_ wr no nu op pi wi he de) n H := hP
          refine fh_callV (cc' := c_Mo_setScripts) (nL' := 10) (rest := []) (a := x) (As := [.int (nI n0)]) X hR (m_Mo_setScripts l D ct b RO hR (r - 1) (by omega) n x g (rf_gr A n0 o1) th co at_ wr no nu op pi wi he de n0 hn0 s0 hs0 ((congrFun (rf_gr_k (by decide)) n0).trans h20) u lo hu hlo ((congrFun (rf_gr_k (by decide)) n0).trans h12) ((congrFun (rf_gr_k (by decide)) n0).trans h13) hun hln) w1197 w1194 w1196 v57 w9 ⟨by decide, by decide, by show _ = some 1; decide +kernel⟩ (by omega) (by decide) (fh_recv hK hP mkM_o rfl) hP hS hl.1 rfl (by exact Nat.le_of_ble_eq_true rfl) (fh_d d_Mo_measure 134 rfl) ⟨Nat.le_refl _, Nat.le_refl _⟩ (fun v9 h9 n9 H locs hq hP hS => ?_)
          obtain ⟨rfl, u25, u26⟩ := hq
          rw [u25, u26] at hP
          refine W.eq (g2 := F0 m 227 ls []) rfl ?_
          exact fh_vret X hP hS (fh_d d_Mo_measure 135 rfl) ⟨rfl, by unfold rf_me rf_bo; rw [if_neg kd0, if_neg kd1, if_neg kd2, if_pos kd3], rfl⟩
        · skip
          by_cases kd4 : A 1 n0 = 4
          · skip
            refine lv_aload_n hx hb (fh_d d_Mo_measure 0 rfl) rfl (lv_at hl 0 rfl) ?_
            refine fh_get (own := "FormulaSetterModel") (ref := "FormulaSetterModel") (C := "FormulaSetterModel") (T := T_Mo) (N := 53) (v := .ref (x + 2)) hx hb hT i_Mo hown hK hP mkM_o rfl 7 (by decide) (hT _ w867) (fun _ h9 => h9) rfl (fh_d d_Mo_measure 1 rfl) ?_
            refine lv_iload_n hx hb (fh_d d_Mo_measure 2 rfl) rfl (lv_at hl 1 rfl) ?_
            refine fn_iald (f := A 1) (k := n0) hx hb hK hP 0 mkM_a1 rfl (rfl) (by omega) (by decide) (fh_d d_Mo_measure 3 rfl) ?_
            refine lv_istore_n (lv' := [(2, .int ((A 1) n0)), (0, .ref x), (1, .int (nI n0))]) hx hb (fh_d d_Mo_measure 4 rfl) rfl hl (by decide) rfl (fun ls hl => ?_)
            refine lv_iload_n hx hb (fh_d d_Mo_measure 5 rfl) rfl (lv_at hl 0 rfl) ?_
            refine lv_if_ne (tgt := 19) hx hb (fh_d d_Mo_measure 6 rfl) rfl (fun c27 => ?_) (fun c27 => absurd c27 (kd0))
            refine lv_iload_n hx hb (fh_d d_Mo_measure 11 rfl) rfl (lv_at hl 0 rfl) ?_
            refine lv_iconst (v := 1) hx hb (fh_d d_Mo_measure 12 rfl) (by decide) ?_
            refine lv_icmp_ne (tgt := 85) hx hb (fh_d d_Mo_measure 13 rfl) rfl (fun c28 => ?_) (fun c28 => absurd c28 (kd1))
            refine lv_iload_n hx hb (fh_d d_Mo_measure 51 rfl) rfl (lv_at hl 0 rfl) ?_
            refine lv_iconst (v := 2) hx hb (fh_d d_Mo_measure 52 rfl) (by decide) ?_
            refine lv_icmp_ne (tgt := 98) hx hb (fh_d d_Mo_measure 53 rfl) rfl (fun c29 => ?_) (fun c29 => absurd c29 (kd2))
            refine lv_iload_n hx hb (fh_d d_Mo_measure 58 rfl) rfl (lv_at hl 0 rfl) ?_
            refine lv_iconst (v := 3) hx hb (fh_d d_Mo_measure 59 rfl) (by decide) ?_
            refine lv_icmp_ne (tgt := 163) hx hb (fh_d d_Mo_measure 60 rfl) rfl (fun c30 => ?_) (fun c30 => absurd c30 (kd3))
            refine lv_iload_n hx hb (fh_d d_Mo_measure 101 rfl) rfl (lv_at hl 0 rfl) ?_
            refine lv_iconst (v := 4) hx hb (fh_d d_Mo_measure 102 rfl) (by decide) ?_
            refine lv_icmp_ne (tgt := 176) hx hb (fh_d d_Mo_measure 103 rfl) rfl (fun c31 => absurd c31 (Classical.not_not.mpr (kd4))) (fun c31 => ?_)
            refine lv_aload_n hx hb (fh_d d_Mo_measure 104 rfl) rfl (lv_at hl 1 rfl) ?_
            refine lv_iload_n hx hb (fh_d d_Mo_measure 105 rfl) rfl (lv_at hl 2 rfl) ?_
            refine fh_callV (cc' := c_Mo_setFrac) (nL' := 9) (rest := []) (a := x) (As := [.int (nI n0)]) X hR (m_Mo_setFrac l D ct b RO hR (r - 1) (by omega) n x g A th co at_ wr no nu op pi wi he de n0 hn0 s0 hs0 h20 o1 t2 ho1 ht2 h10 h11) w1171 w1168 w1170 v52 w9 ⟨by decide, by decide, by show _ = some 1; decide +kernel⟩ (by omega) (by decide) (fh_recv hK hP mkM_o rfl) hP hS hl.1 rfl (by exact Nat.le_of_ble_eq_true rfl) (fh_d d_Mo_measure 106 rfl) ⟨Nat.le_refl _, Nat.le_refl _⟩ (fun v9 h9 n9 H locs hq hP hS => ?_)
            obtain ⟨rfl, u32, u33⟩ := hq
            rw [u32, u33] at hP
            refine W.eq (g2 := F0 m 173 ls []) rfl ?_
            refine lv_goto (tgt := 222) hx hb (fh_d d_Mo_measure 107 rfl) rfl ?_
            refine lv_aload_n hx hb (fh_d d_Mo_measure 132 rfl) rfl (lv_at hl 1 rfl) ?_
            refine lv_iload_n hx hb (fh_d d_Mo_measure 133 rfl) rfl (lv_at hl 2 rfl) ?_
            replace hP : fh_P D fh_cl b (mkM ct x g (rf_fr A n0 s0 o1 t2) th co at_ wr no nu op pi wi he de) n H := hP
            refine fh_callV (cc' := c_Mo_setScripts) (nL' := 10) (rest := []) (a := x) (As := [.int (nI n0)]) X hR (m_Mo_setScripts l D ct b RO hR (r - 1) (by omega) n x g (rf_fr A n0 s0 o1 t2) th co at_ wr no nu op pi wi he de n0 hn0 s0 hs0 ((congrFun (rf_fr_k (by decide)) n0).trans h20) u lo hu hlo ((congrFun (rf_fr_k (by decide)) n0).trans h12) ((congrFun (rf_fr_k (by decide)) n0).trans h13) hun hln) w1197 w1194 w1196 v57 w9 ⟨by decide, by decide, by show _ = some 1; decide +kernel⟩ (by omega) (by decide) (fh_recv hK hP mkM_o rfl) hP hS hl.1 rfl (by exact Nat.le_of_ble_eq_true rfl) (fh_d d_Mo_measure 134 rfl) ⟨Nat.le_refl _, Nat.le_refl _⟩ (fun v9 h9 n9 H locs hq hP hS => ?_)
            obtain ⟨rfl, u34, u35⟩ := hq
            rw [u34, u35] at hP
            refine W.eq (g2 := F0 m 227 ls []) rfl ?_
            exact fh_vret X hP hS (fh_d d_Mo_measure 135 rfl) ⟨rfl, by unfold rf_me rf_bo; rw [if_neg kd0, if_neg kd1, if_neg kd2, if_neg kd3, if_pos kd4], rfl⟩
          · skip
            by_cases kd5 : A 1 n0 = 5
            · skip
              obtain ⟨kT, hkT, hTl⟩ := hM5 kd5
              refine lv_aload_n hx hb (fh_d d_Mo_measure 0 rfl) rfl (lv_at hl 0 rfl) ?_
              refine fh_get (own := "FormulaSetterModel") (ref := "FormulaSetterModel") (C := "FormulaSetterModel") (T := T_Mo) (N := 53) (v := .ref (x + 2)) hx hb hT i_Mo hown hK hP mkM_o rfl 7 (by decide) (hT _ w867) (fun _ h9 => h9) rfl (fh_d d_Mo_measure 1 rfl) ?_
              refine lv_iload_n hx hb (fh_d d_Mo_measure 2 rfl) rfl (lv_at hl 1 rfl) ?_
              refine fn_iald (f := A 1) (k := n0) hx hb hK hP 0 mkM_a1 rfl (rfl) (by omega) (by decide) (fh_d d_Mo_measure 3 rfl) ?_
              refine lv_istore_n (lv' := [(2, .int ((A 1) n0)), (0, .ref x), (1, .int (nI n0))]) hx hb (fh_d d_Mo_measure 4 rfl) rfl hl (by decide) rfl (fun ls hl => ?_)
              refine lv_iload_n hx hb (fh_d d_Mo_measure 5 rfl) rfl (lv_at hl 0 rfl) ?_
              refine lv_if_ne (tgt := 19) hx hb (fh_d d_Mo_measure 6 rfl) rfl (fun c36 => ?_) (fun c36 => absurd c36 (kd0))
              refine lv_iload_n hx hb (fh_d d_Mo_measure 11 rfl) rfl (lv_at hl 0 rfl) ?_
              refine lv_iconst (v := 1) hx hb (fh_d d_Mo_measure 12 rfl) (by decide) ?_
              refine lv_icmp_ne (tgt := 85) hx hb (fh_d d_Mo_measure 13 rfl) rfl (fun c37 => ?_) (fun c37 => absurd c37 (kd1))
              refine lv_iload_n hx hb (fh_d d_Mo_measure 51 rfl) rfl (lv_at hl 0 rfl) ?_
              refine lv_iconst (v := 2) hx hb (fh_d d_Mo_measure 52 rfl) (by decide) ?_
              refine lv_icmp_ne (tgt := 98) hx hb (fh_d d_Mo_measure 53 rfl) rfl (fun c38 => ?_) (fun c38 => absurd c38 (kd2))
              refine lv_iload_n hx hb (fh_d d_Mo_measure 58 rfl) rfl (lv_at hl 0 rfl) ?_
              refine lv_iconst (v := 3) hx hb (fh_d d_Mo_measure 59 rfl) (by decide) ?_
              refine lv_icmp_ne (tgt := 163) hx hb (fh_d d_Mo_measure 60 rfl) rfl (fun c39 => ?_) (fun c39 => absurd c39 (kd3))
              refine lv_iload_n hx hb (fh_d d_Mo_measure 101 rfl) rfl (lv_at hl 0 rfl) ?_
              refine lv_iconst (v := 4) hx hb (fh_d d_Mo_measure 102 rfl) (by decide) ?_
              refine lv_icmp_ne (tgt := 176) hx hb (fh_d d_Mo_measure 103 rfl) rfl (fun c40 => ?_) (fun c40 => absurd c40 (kd4))
              refine lv_iload_n hx hb (fh_d d_Mo_measure 108 rfl) rfl (lv_at hl 0 rfl) ?_
              refine lv_iconst (v := 5) hx hb (fh_d d_Mo_measure 109 rfl) (by decide) ?_
              refine lv_icmp_ne (tgt := 189) hx hb (fh_d d_Mo_measure 110 rfl) rfl (fun c41 => absurd c41 (Classical.not_not.mpr (kd5))) (fun c41 => ?_)
              refine lv_aload_n hx hb (fh_d d_Mo_measure 111 rfl) rfl (lv_at hl 1 rfl) ?_
              refine lv_iload_n hx hb (fh_d d_Mo_measure 112 rfl) rfl (lv_at hl 2 rfl) ?_
              refine fh_callV (cc' := c_Mo_setSqrt) (nL' := 6) (rest := []) (a := x) (As := [.int (nI n0)]) X hR (m_Mo_setSqrt l D ct b RO hR (r - 1) (by omega) n x g A th co at_ wr no nu op pi wi he de n0 hn0 s0 hs0 h20 o1 ho1 h10 kT hkT hTl) w1178 w1175 w1177 v53 w9 ⟨by decide, by decide, by show _ = some 1; decide +kernel⟩ (by omega) (by decide) (fh_recv hK hP mkM_o rfl) hP hS hl.1 rfl (by exact Nat.le_of_ble_eq_true rfl) (fh_d d_Mo_measure 113 rfl) ⟨Nat.le_refl _, Nat.le_refl _⟩ (fun v9 h9 n9 H locs hq hP hS => ?_)
              obtain ⟨rfl, u42, u43⟩ := hq
              rw [u42, u43] at hP
              refine W.eq (g2 := F0 m 186 ls []) rfl ?_
              refine lv_goto (tgt := 222) hx hb (fh_d d_Mo_measure 114 rfl) rfl ?_
              refine lv_aload_n hx hb (fh_d d_Mo_measure 132 rfl) rfl (lv_at hl 1 rfl) ?_
              refine lv_iload_n hx hb (fh_d d_Mo_measure 133 rfl) rfl (lv_at hl 2 rfl) ?_
              replace hP : fh_P D fh_cl b (mkM ct x g (rf_sq A n0 s0 o1) th co at_ wr no nu op pi wi he de) n H := hP
              refine fh_callV (cc' := c_Mo_setScripts) (nL' := 10) (rest := []) (a := x) (As := [.int (nI n0)]) X hR (m_Mo_setScripts l D ct b RO hR (r - 1) (by omega) n x g (rf_sq A n0 s0 o1) th co at_ wr no nu op pi wi he de n0 hn0 s0 hs0 ((congrFun (rf_sq_k (by decide)) n0).trans h20) u lo hu hlo ((congrFun (rf_sq_k (by decide)) n0).trans h12) ((congrFun (rf_sq_k (by decide)) n0).trans h13) hun hln) w1197 w1194 w1196 v57 w9 ⟨by decide, by decide, by show _ = some 1; decide +kernel⟩ (by omega) (by decide) (fh_recv hK hP mkM_o rfl) hP hS hl.1 rfl (by exact Nat.le_of_ble_eq_true rfl) (fh_d d_Mo_measure 134 rfl) ⟨Nat.le_refl _, Nat.le_refl _⟩ (fun v9 h9 n9 H locs hq hP hS => ?_)
              obtain ⟨rfl, u44, u45⟩ := hq
              rw [u44, u45] at hP
              refine W.eq (g2 := F0 m 227 ls []) rfl ?_
              exact fh_vret X hP hS (fh_d d_Mo_measure 135 rfl) ⟨rfl, by unfold rf_me rf_bo; rw [if_neg kd0, if_neg kd1, if_neg kd2, if_neg kd3, if_neg kd4, if_pos kd5], rfl⟩
            · skip
              by_cases kd8 : A 1 n0 = 8
              · skip
                obtain ⟨kT, hkT, hTl⟩ := hM8 kd8
                refine lv_aload_n hx hb (fh_d d_Mo_measure 0 rfl) rfl (lv_at hl 0 rfl) ?_
                refine fh_get (own := "FormulaSetterModel") (ref := "FormulaSetterModel") (C := "FormulaSetterModel") (T := T_Mo) (N := 53) (v := .ref (x + 2)) hx hb hT i_Mo hown hK hP mkM_o rfl 7 (by decide) (hT _ w867) (fun _ h9 => h9) rfl (fh_d d_Mo_measure 1 rfl) ?_
                refine lv_iload_n hx hb (fh_d d_Mo_measure 2 rfl) rfl (lv_at hl 1 rfl) ?_
                refine fn_iald (f := A 1) (k := n0) hx hb hK hP 0 mkM_a1 rfl (rfl) (by omega) (by decide) (fh_d d_Mo_measure 3 rfl) ?_
                refine lv_istore_n (lv' := [(2, .int ((A 1) n0)), (0, .ref x), (1, .int (nI n0))]) hx hb (fh_d d_Mo_measure 4 rfl) rfl hl (by decide) rfl (fun ls hl => ?_)
                refine lv_iload_n hx hb (fh_d d_Mo_measure 5 rfl) rfl (lv_at hl 0 rfl) ?_
                refine lv_if_ne (tgt := 19) hx hb (fh_d d_Mo_measure 6 rfl) rfl (fun c46 => ?_) (fun c46 => absurd c46 (kd0))
                refine lv_iload_n hx hb (fh_d d_Mo_measure 11 rfl) rfl (lv_at hl 0 rfl) ?_
                refine lv_iconst (v := 1) hx hb (fh_d d_Mo_measure 12 rfl) (by decide) ?_
                refine lv_icmp_ne (tgt := 85) hx hb (fh_d d_Mo_measure 13 rfl) rfl (fun c47 => ?_) (fun c47 => absurd c47 (kd1))
                refine lv_iload_n hx hb (fh_d d_Mo_measure 51 rfl) rfl (lv_at hl 0 rfl) ?_
                refine lv_iconst (v := 2) hx hb (fh_d d_Mo_measure 52 rfl) (by decide) ?_
                refine lv_icmp_ne (tgt := 98) hx hb (fh_d d_Mo_measure 53 rfl) rfl (fun c48 => ?_) (fun c48 => absurd c48 (kd2))
                refine lv_iload_n hx hb (fh_d d_Mo_measure 58 rfl) rfl (lv_at hl 0 rfl) ?_
                refine lv_iconst (v := 3) hx hb (fh_d d_Mo_measure 59 rfl) (by decide) ?_
                refine lv_icmp_ne (tgt := 163) hx hb (fh_d d_Mo_measure 60 rfl) rfl (fun c49 => ?_) (fun c49 => absurd c49 (kd3))
                refine lv_iload_n hx hb (fh_d d_Mo_measure 101 rfl) rfl (lv_at hl 0 rfl) ?_
                refine lv_iconst (v := 4) hx hb (fh_d d_Mo_measure 102 rfl) (by decide) ?_
                refine lv_icmp_ne (tgt := 176) hx hb (fh_d d_Mo_measure 103 rfl) rfl (fun c50 => ?_) (fun c50 => absurd c50 (kd4))
                refine lv_iload_n hx hb (fh_d d_Mo_measure 108 rfl) rfl (lv_at hl 0 rfl) ?_
                refine lv_iconst (v := 5) hx hb (fh_d d_Mo_measure 109 rfl) (by decide) ?_
                refine lv_icmp_ne (tgt := 189) hx hb (fh_d d_Mo_measure 110 rfl) rfl (fun c51 => ?_) (fun c51 => absurd c51 (kd5))
                refine lv_iload_n hx hb (fh_d d_Mo_measure 115 rfl) rfl (lv_at hl 0 rfl) ?_
                refine lv_bipush (v := 8) hx hb (fh_d d_Mo_measure 116 rfl) (by decide) ?_
                refine lv_icmp_ne (tgt := 203) hx hb (fh_d d_Mo_measure 117 rfl) rfl (fun c52 => absurd c52 (Classical.not_not.mpr (kd8))) (fun c52 => ?_)
                refine lv_aload_n hx hb (fh_d d_Mo_measure 118 rfl) rfl (lv_at hl 1 rfl) ?_
                refine lv_iload_n hx hb (fh_d d_Mo_measure 119 rfl) rfl (lv_at hl 2 rfl) ?_
                refine fh_callV (cc' := c_Mo_setLeft) (nL' := 7) (rest := []) (a := x) (As := [.int (nI n0)]) X hR (m_Mo_setLeft l D ct b RO hR (r - 1) (by omega) n x g A th co at_ wr no nu op pi wi he de n0 hn0 s0 hs0 h20 o1 ho1 h10 kT hkT hTl) w1185 w1182 w1184 v54 w9 ⟨by decide, by decide, by show _ = some 1; decide +kernel⟩ (by omega) (by decide) (fh_recv hK hP mkM_o rfl) hP hS hl.1 rfl (by exact Nat.le_of_ble_eq_true rfl) (fh_d d_Mo_measure 120 rfl) ⟨Nat.le_refl _, Nat.le_refl _⟩ (fun v9 h9 n9 H locs hq hP hS => ?_)
                obtain ⟨rfl, u53, u54⟩ := hq
                rw [u53, u54] at hP
                refine W.eq (g2 := F0 m 200 ls []) rfl ?_
                refine lv_goto (tgt := 222) hx hb (fh_d d_Mo_measure 121 rfl) rfl ?_
                refine lv_aload_n hx hb (fh_d d_Mo_measure 132 rfl) rfl (lv_at hl 1 rfl) ?_
                refine lv_iload_n hx hb (fh_d d_Mo_measure 133 rfl) rfl (lv_at hl 2 rfl) ?_
                replace hP : fh_P D fh_cl b (mkM ct x g (rf_lf A n0 s0 o1) th co at_ wr no nu op pi wi he de) n H := hP
                refine fh_callV (cc' := c_Mo_setScripts) (nL' := 10) (rest := []) (a := x) (As := [.int (nI n0)]) X hR (m_Mo_setScripts l D ct b RO hR (r - 1) (by omega) n x g (rf_lf A n0 s0 o1) th co at_ wr no nu op pi wi he de n0 hn0 s0 hs0 ((congrFun (rf_lf_k (by decide)) n0).trans h20) u lo hu hlo ((congrFun (rf_lf_k (by decide)) n0).trans h12) ((congrFun (rf_lf_k (by decide)) n0).trans h13) hun hln) w1197 w1194 w1196 v57 w9 ⟨by decide, by decide, by show _ = some 1; decide +kernel⟩ (by omega) (by decide) (fh_recv hK hP mkM_o rfl) hP hS hl.1 rfl (by exact Nat.le_of_ble_eq_true rfl) (fh_d d_Mo_measure 134 rfl) ⟨Nat.le_refl _, Nat.le_refl _⟩ (fun v9 h9 n9 H locs hq hP hS => ?_)
                obtain ⟨rfl, u55, u56⟩ := hq
                rw [u55, u56] at hP
                refine W.eq (g2 := F0 m 227 ls []) rfl ?_
                exact fh_vret X hP hS (fh_d d_Mo_measure 135 rfl) ⟨rfl, by unfold rf_me rf_bo; rw [if_neg kd0, if_neg kd1, if_neg kd2, if_neg kd3, if_neg kd4, if_neg kd5, if_pos kd8], rfl⟩
              · skip
                by_cases kd9 : A 1 n0 = 9
                · skip
                  have hM9 := hM9 kd9
                  refine lv_aload_n hx hb (fh_d d_Mo_measure 0 rfl) rfl (lv_at hl 0 rfl) ?_
                  refine fh_get (own := "FormulaSetterModel") (ref := "FormulaSetterModel") (C := "FormulaSetterModel") (T := T_Mo) (N := 53) (v := .ref (x + 2)) hx hb hT i_Mo hown hK hP mkM_o rfl 7 (by decide) (hT _ w867) (fun _ h9 => h9) rfl (fh_d d_Mo_measure 1 rfl) ?_
                  refine lv_iload_n hx hb (fh_d d_Mo_measure 2 rfl) rfl (lv_at hl 1 rfl) ?_
                  refine fn_iald (f := A 1) (k := n0) hx hb hK hP 0 mkM_a1 rfl (rfl) (by omega) (by decide) (fh_d d_Mo_measure 3 rfl) ?_
                  refine lv_istore_n (lv' := [(2, .int ((A 1) n0)), (0, .ref x), (1, .int (nI n0))]) hx hb (fh_d d_Mo_measure 4 rfl) rfl hl (by decide) rfl (fun ls hl => ?_)
                  refine lv_iload_n hx hb (fh_d d_Mo_measure 5 rfl) rfl (lv_at hl 0 rfl) ?_
                  refine lv_if_ne (tgt := 19) hx hb (fh_d d_Mo_measure 6 rfl) rfl (fun c57 => ?_) (fun c57 => absurd c57 (kd0))
                  refine lv_iload_n hx hb (fh_d d_Mo_measure 11 rfl) rfl (lv_at hl 0 rfl) ?_
                  refine lv_iconst (v := 1) hx hb (fh_d d_Mo_measure 12 rfl) (by decide) ?_
                  refine lv_icmp_ne (tgt := 85) hx hb (fh_d d_Mo_measure 13 rfl) rfl (fun c58 => ?_) (fun c58 => absurd c58 (kd1))
                  refine lv_iload_n hx hb (fh_d d_Mo_measure 51 rfl) rfl (lv_at hl 0 rfl) ?_
                  refine lv_iconst (v := 2) hx hb (fh_d d_Mo_measure 52 rfl) (by decide) ?_
                  refine lv_icmp_ne (tgt := 98) hx hb (fh_d d_Mo_measure 53 rfl) rfl (fun c59 => ?_) (fun c59 => absurd c59 (kd2))
                  refine lv_iload_n hx hb (fh_d d_Mo_measure 58 rfl) rfl (lv_at hl 0 rfl) ?_
                  refine lv_iconst (v := 3) hx hb (fh_d d_Mo_measure 59 rfl) (by decide) ?_
                  refine lv_icmp_ne (tgt := 163) hx hb (fh_d d_Mo_measure 60 rfl) rfl (fun c60 => ?_) (fun c60 => absurd c60 (kd3))
                  refine lv_iload_n hx hb (fh_d d_Mo_measure 101 rfl) rfl (lv_at hl 0 rfl) ?_
                  refine lv_iconst (v := 4) hx hb (fh_d d_Mo_measure 102 rfl) (by decide) ?_
                  refine lv_icmp_ne (tgt := 176) hx hb (fh_d d_Mo_measure 103 rfl) rfl (fun c61 => ?_) (fun c61 => absurd c61 (kd4))
                  refine lv_iload_n hx hb (fh_d d_Mo_measure 108 rfl) rfl (lv_at hl 0 rfl) ?_
                  refine lv_iconst (v := 5) hx hb (fh_d d_Mo_measure 109 rfl) (by decide) ?_
                  refine lv_icmp_ne (tgt := 189) hx hb (fh_d d_Mo_measure 110 rfl) rfl (fun c62 => ?_) (fun c62 => absurd c62 (kd5))
                  refine lv_iload_n hx hb (fh_d d_Mo_measure 115 rfl) rfl (lv_at hl 0 rfl) ?_
                  refine lv_bipush (v := 8) hx hb (fh_d d_Mo_measure 116 rfl) (by decide) ?_
                  refine lv_icmp_ne (tgt := 203) hx hb (fh_d d_Mo_measure 117 rfl) rfl (fun c63 => ?_) (fun c63 => absurd c63 (kd8))
                  refine lv_iload_n hx hb (fh_d d_Mo_measure 122 rfl) rfl (lv_at hl 0 rfl) ?_
                  refine lv_bipush (v := 9) hx hb (fh_d d_Mo_measure 123 rfl) (by decide) ?_
                  refine lv_icmp_ne (tgt := 217) hx hb (fh_d d_Mo_measure 124 rfl) rfl (fun c64 => absurd c64 (Classical.not_not.mpr (kd9))) (fun c64 => ?_)
                  refine lv_aload_n hx hb (fh_d d_Mo_measure 125 rfl) rfl (lv_at hl 1 rfl) ?_
                  refine lv_iload_n hx hb (fh_d d_Mo_measure 126 rfl) rfl (lv_at hl 2 rfl) ?_
                  refine fh_callV (cc' := c_Mo_setMat) (nL' := 9) (rest := []) (a := x) (As := [.int (nI n0)]) X hR (m_Mo_setMat l D ct b RO hR (r - 1) (by omega) n x g A th co at_ wr no nu op pi wi he de n0 hn0 s0 hs0 h20 cs h6 hnx hM9.1 cw hM9.2.1 hM9.2.2.1 hM9.2.2.2) w1189 w1186 w1188 v55 w9 ⟨by decide, by decide, by show _ = some 1; decide +kernel⟩ (by omega) (by decide) (fh_recv hK hP mkM_o rfl) hP hS hl.1 rfl (by exact Nat.le_of_ble_eq_true rfl) (fh_d d_Mo_measure 127 rfl) ⟨Nat.le_refl _, Nat.le_refl _⟩ (fun v9 h9 n9 H locs hq hP hS => ?_)
                  obtain ⟨rfl, u65, u66⟩ := hq
                  rw [u65, u66] at hP
                  refine W.eq (g2 := F0 m 214 ls []) rfl ?_
                  refine lv_goto (tgt := 222) hx hb (fh_d d_Mo_measure 128 rfl) rfl ?_
                  refine lv_aload_n hx hb (fh_d d_Mo_measure 132 rfl) rfl (lv_at hl 1 rfl) ?_
                  refine lv_iload_n hx hb (fh_d d_Mo_measure 133 rfl) rfl (lv_at hl 2 rfl) ?_
                  replace hP : fh_P D fh_cl b (mkM ct x g (rf_mt A n0 s0 cw cs) th co at_ wr no nu op pi wi he de) n H := hP
                  refine fh_callV (cc' := c_Mo_setScripts) (nL' := 10) (rest := []) (a := x) (As := [.int (nI n0)]) X hR (m_Mo_setScripts l D ct b RO hR (r - 1) (by omega) n x g (rf_mt A n0 s0 cw cs) th co at_ wr no nu op pi wi he de n0 hn0 s0 hs0 ((congrFun (rf_mt_k (by decide)) n0).trans h20) u lo hu hlo ((congrFun (rf_mt_k (by decide)) n0).trans h12) ((congrFun (rf_mt_k (by decide)) n0).trans h13) hun hln) w1197 w1194 w1196 v57 w9 ⟨by decide, by decide, by show _ = some 1; decide +kernel⟩ (by omega) (by decide) (fh_recv hK hP mkM_o rfl) hP hS hl.1 rfl (by exact Nat.le_of_ble_eq_true rfl) (fh_d d_Mo_measure 134 rfl) ⟨Nat.le_refl _, Nat.le_refl _⟩ (fun v9 h9 n9 H locs hq hP hS => ?_)
                  obtain ⟨rfl, u67, u68⟩ := hq
                  rw [u67, u68] at hP
                  refine W.eq (g2 := F0 m 227 ls []) rfl ?_
                  exact fh_vret X hP hS (fh_d d_Mo_measure 135 rfl) ⟨rfl, by unfold rf_me rf_bo; rw [if_neg kd0, if_neg kd1, if_neg kd2, if_neg kd3, if_neg kd4, if_neg kd5, if_neg kd8, if_pos kd9], rfl⟩
                · skip
                  refine lv_aload_n hx hb (fh_d d_Mo_measure 0 rfl) rfl (lv_at hl 0 rfl) ?_
                  refine fh_get (own := "FormulaSetterModel") (ref := "FormulaSetterModel") (C := "FormulaSetterModel") (T := T_Mo) (N := 53) (v := .ref (x + 2)) hx hb hT i_Mo hown hK hP mkM_o rfl 7 (by decide) (hT _ w867) (fun _ h9 => h9) rfl (fh_d d_Mo_measure 1 rfl) ?_
                  refine lv_iload_n hx hb (fh_d d_Mo_measure 2 rfl) rfl (lv_at hl 1 rfl) ?_
                  refine fn_iald (f := A 1) (k := n0) hx hb hK hP 0 mkM_a1 rfl (rfl) (by omega) (by decide) (fh_d d_Mo_measure 3 rfl) ?_
                  refine lv_istore_n (lv' := [(2, .int ((A 1) n0)), (0, .ref x), (1, .int (nI n0))]) hx hb (fh_d d_Mo_measure 4 rfl) rfl hl (by decide) rfl (fun ls hl => ?_)
                  refine lv_iload_n hx hb (fh_d d_Mo_measure 5 rfl) rfl (lv_at hl 0 rfl) ?_
                  refine lv_if_ne (tgt := 19) hx hb (fh_d d_Mo_measure 6 rfl) rfl (fun c69 => ?_) (fun c69 => absurd c69 (kd0))
                  refine lv_iload_n hx hb (fh_d d_Mo_measure 11 rfl) rfl (lv_at hl 0 rfl) ?_
                  refine lv_iconst (v := 1) hx hb (fh_d d_Mo_measure 12 rfl) (by decide) ?_
                  refine lv_icmp_ne (tgt := 85) hx hb (fh_d d_Mo_measure 13 rfl) rfl (fun c70 => ?_) (fun c70 => absurd c70 (kd1))
                  refine lv_iload_n hx hb (fh_d d_Mo_measure 51 rfl) rfl (lv_at hl 0 rfl) ?_
                  refine lv_iconst (v := 2) hx hb (fh_d d_Mo_measure 52 rfl) (by decide) ?_
                  refine lv_icmp_ne (tgt := 98) hx hb (fh_d d_Mo_measure 53 rfl) rfl (fun c71 => ?_) (fun c71 => absurd c71 (kd2))
                  refine lv_iload_n hx hb (fh_d d_Mo_measure 58 rfl) rfl (lv_at hl 0 rfl) ?_
                  refine lv_iconst (v := 3) hx hb (fh_d d_Mo_measure 59 rfl) (by decide) ?_
                  refine lv_icmp_ne (tgt := 163) hx hb (fh_d d_Mo_measure 60 rfl) rfl (fun c72 => ?_) (fun c72 => absurd c72 (kd3))
                  refine lv_iload_n hx hb (fh_d d_Mo_measure 101 rfl) rfl (lv_at hl 0 rfl) ?_
                  refine lv_iconst (v := 4) hx hb (fh_d d_Mo_measure 102 rfl) (by decide) ?_
                  refine lv_icmp_ne (tgt := 176) hx hb (fh_d d_Mo_measure 103 rfl) rfl (fun c73 => ?_) (fun c73 => absurd c73 (kd4))
                  refine lv_iload_n hx hb (fh_d d_Mo_measure 108 rfl) rfl (lv_at hl 0 rfl) ?_
                  refine lv_iconst (v := 5) hx hb (fh_d d_Mo_measure 109 rfl) (by decide) ?_
                  refine lv_icmp_ne (tgt := 189) hx hb (fh_d d_Mo_measure 110 rfl) rfl (fun c74 => ?_) (fun c74 => absurd c74 (kd5))
                  refine lv_iload_n hx hb (fh_d d_Mo_measure 115 rfl) rfl (lv_at hl 0 rfl) ?_
                  refine lv_bipush (v := 8) hx hb (fh_d d_Mo_measure 116 rfl) (by decide) ?_
                  refine lv_icmp_ne (tgt := 203) hx hb (fh_d d_Mo_measure 117 rfl) rfl (fun c75 => ?_) (fun c75 => absurd c75 (kd8))
                  refine lv_iload_n hx hb (fh_d d_Mo_measure 122 rfl) rfl (lv_at hl 0 rfl) ?_
                  refine lv_bipush (v := 9) hx hb (fh_d d_Mo_measure 123 rfl) (by decide) ?_
                  refine lv_icmp_ne (tgt := 217) hx hb (fh_d d_Mo_measure 124 rfl) rfl (fun c76 => ?_) (fun c76 => absurd c76 (kd9))
                  refine lv_aload_n hx hb (fh_d d_Mo_measure 129 rfl) rfl (lv_at hl 1 rfl) ?_
                  refine lv_iload_n hx hb (fh_d d_Mo_measure 130 rfl) rfl (lv_at hl 2 rfl) ?_
                  refine fh_callV (cc' := c_Mo_setAccent) (nL' := 5) (rest := []) (a := x) (As := [.int (nI n0)]) X hR (m_Mo_setAccent l D ct b RO hR (r - 1) (by omega) n x g A th co at_ wr no nu op pi wi he de n0 hn0 s0 hs0 h20 o1 ho1 h10) w1193 w1190 w1192 v56 w9 ⟨by decide, by decide, by show _ = some 1; decide +kernel⟩ (by omega) (by decide) (fh_recv hK hP mkM_o rfl) hP hS hl.1 rfl (by exact Nat.le_of_ble_eq_true rfl) (fh_d d_Mo_measure 131 rfl) ⟨Nat.le_refl _, Nat.le_refl _⟩ (fun v9 h9 n9 H locs hq hP hS => ?_)
                  obtain ⟨rfl, u77, u78⟩ := hq
                  rw [u77, u78] at hP
                  refine W.eq (g2 := F0 m 222 ls []) rfl ?_
                  refine lv_aload_n hx hb (fh_d d_Mo_measure 132 rfl) rfl (lv_at hl 1 rfl) ?_
                  refine lv_iload_n hx hb (fh_d d_Mo_measure 133 rfl) rfl (lv_at hl 2 rfl) ?_
                  replace hP : fh_P D fh_cl b (mkM ct x g (rf_ac A n0 s0 o1) th co at_ wr no nu op pi wi he de) n H := hP
                  refine fh_callV (cc' := c_Mo_setScripts) (nL' := 10) (rest := []) (a := x) (As := [.int (nI n0)]) X hR (m_Mo_setScripts l D ct b RO hR (r - 1) (by omega) n x g (rf_ac A n0 s0 o1) th co at_ wr no nu op pi wi he de n0 hn0 s0 hs0 ((congrFun (rf_ac_k (by decide)) n0).trans h20) u lo hu hlo ((congrFun (rf_ac_k (by decide)) n0).trans h12) ((congrFun (rf_ac_k (by decide)) n0).trans h13) hun hln) w1197 w1194 w1196 v57 w9 ⟨by decide, by decide, by show _ = some 1; decide +kernel⟩ (by omega) (by decide) (fh_recv hK hP mkM_o rfl) hP hS hl.1 rfl (by exact Nat.le_of_ble_eq_true rfl) (fh_d d_Mo_measure 134 rfl) ⟨Nat.le_refl _, Nat.le_refl _⟩ (fun v9 h9 n9 H locs hq hP hS => ?_)
                  obtain ⟨rfl, u79, u80⟩ := hq
                  rw [u79, u80] at hP
                  refine W.eq (g2 := F0 m 227 ls []) rfl ?_
                  exact fh_vret X hP hS (fh_d d_Mo_measure 135 rfl) ⟨rfl, by unfold rf_me rf_bo; rw [if_neg kd0, if_neg kd1, if_neg kd2, if_neg kd3, if_neg kd4, if_neg kd5, if_neg kd8, if_neg kd9], rfl⟩
