/-! Pure: what reading a nucleus gives on both sides; one without parts. By hand. -/
theorem run_I {L : Nat} (hJ : rz_J L) : ∀ (k : Nat) (z : RS), rz_I L z → rz_I L (rz_run L k z)
  | 0, z, h => h
  | k + 1, (A, a, w, N, U, O), h => by
    by_cases hw : w = 0
    · subst hw
      rw [rz_turn]
      by_cases e : sk (A 0) L a < L
      · rw [if_pos e]
        exact run_I hJ k _ (hJ A (sk (A 0) L a) N U O e (rz_I_sk h)).1
      · rw [if_neg e]
        exact rz_I_sk h
    · rw [rz_stop hw]; exact h
theorem Rch.I {L : Nat} (hJ : rz_J L) {z y : RS} (h : Rch L z y) (g : rz_I L z) : rz_I L y := by
  obtain ⟨k, hk⟩ := h
  have e : rz_run L (k + 0) z = y := hk 0
  rw [← e]
  exact run_I hJ _ z g
/-- what is known of a nucleus nc at node n that was just read in frame O - 1 -/
def rtO (R1 : Nat → Nat → Option Nat) (A1 : Nat → Nat → Int32) (nc n O : Nat) : Prop := ∃ t, t < 8 ∧ R1 nc 6 = some t ∧ A1 4 n = nI t ∧ (R1 nc 12 = none ∧ R1 nc 13 = none ∧ R1 nc 14 = none) ∧ (A1 7 n = 0 ∧ A1 12 n = 0 ∧ A1 13 n = 0 ∧ A1 15 n = 0) ∧ A1 5 n = nI (O - 1)
/-- reading of a nucleus, d levels above the deepest, comes out alike -/
def GN (f : Nat → Int32) (L d : Nat) : Prop := ∀ (nc lc a : Nat) (C : Nat → Nat → Int32) (R : Nat → Nat → Option Nat) (CL : Nat → Nat → Int32) (RL : Nat → Nat → Option Nat) (A : Nat → Nat → Int32) (a' O : Nat), A 0 = f → rz_I L (A, a', 0, nc + lc, nc, O) → O + d = 8 → nc ≤ 60 → a ≤ L → lc ≤ a + 1 → sk f L a' = sk f L a → (¬ A 16 (O - 1) ≤ 3 ∨ (sk f L a < L ∧ rz_in A L (sk f L a) (nc + lc) nc O = none)) →
  (pN f L d (nc, lc, a, C, R, CL, RL) = none → Bad L (A, a', 0, nc + lc, nc, O)) ∧ ∀ (nc1 lc1 a1 : Nat) (C1 : Nat → Nat → Int32) (R1 : Nat → Nat → Option Nat) (CL1 : Nat → Nat → Int32) (RL1 : Nat → Nat → Option Nat), pN f L d (nc, lc, a, C, R, CL, RL) = some (nc1, lc1, a1, C1, R1, CL1, RL1) → ∃ (A1 : Nat → Nat → Int32) (a2 : Nat), Rch L (A, a', 0, nc + lc, nc, O) ((rf_del O A1 (nc + lc)).1, a2, 0, nc1 + lc1, nc1, (rf_del O A1 (nc + lc)).2) ∧ sk f L a2 = sk f L a1 ∧ kpt2 A A1 (nc + lc) O ∧ SN C1 R1 CL1 RL1 A1 d nc lc nc1 lc1 ∧ rtO R1 A1 nc (nc + lc) O
theorem hd_val {f : Nat → Int32} {L a k a1 t : Nat} {cd : Int32} (h : rdHead f L a = some (k, a1, cd, t)) : (k = 0 ∧ cd = hre f L a) ∨ (k = 1 ∧ t = 0 ∧ cd = 0) ∨ (2 ≤ k ∧ cd = kO k ∧ t = kAt k) := by
  unfold rdHead at h
  by_cases h92 : hre f L a = 92
  · rw [if_pos h92] at h
    obtain ⟨q, hq, e⟩ := Option.map_eq_some_iff.mp h
    cases e
    exact Or.inr (Or.inr ⟨(cmdK_some 11 0 k rfl hq).2.2.1, rfl, rfl⟩)
  · rw [if_neg h92] at h
    by_cases h123 : hre f L a = 123
    · rw [if_pos h123] at h
      cases h
      exact Or.inr (Or.inl ⟨rfl, rfl, rfl⟩)
    · rw [if_neg h123] at h
      obtain ⟨t9, ht, e⟩ := Option.map_eq_some_iff.mp h
      cases e
      exact Or.inl ⟨rfl, rfl⟩
theorem hre_d {f : Nat → Int32} {L a : Nat} (hf : ∀ j, okd (f j)) : okd (hre f L a) := by
  by_cases e : a < L
  · rw [show hre f L a = f a from if_pos e]; exact hf a
  · rw [show hre f L a = 0 from if_neg e]; exact ⟨rfl, by decide⟩
theorem kO_d : ∀ k, k < 11 → okd (kO k) := by decide
/-- the tables of a nucleus that was just made -/
theorem row_new {C : Nat → Nat → Int32} {R : Nat → Nat → Option Nat} {nc k t : Nat} {cd : Int32} : sT (nu_c C nc) nc 7 cd nc 7 = cd ∧ sT (sT (nu_r R nc) nc 5 (some k)) nc 6 (some t) nc 5 = some k ∧ sT (sT (nu_r R nc) nc 5 (some k)) nc 6 (some t) nc 6 = some t ∧ (∀ c, c ≠ 5 → c ≠ 6 → sT (sT (nu_r R nc) nc 5 (some k)) nc 6 (some t) nc c = none) := by
  refine ⟨sT_same, ?_, sT_same, fun c h5 h6 => ?_⟩
  · rw [sT_ne (by omega)]; exact sT_same
  · rw [sT_ne (fun z => h6 z.2), sT_ne (fun z => h5 z.2)]
    show upT R nc (fun _ => none) nc c = none
    unfold upT
    rw [if_pos rfl]
/-- a nucleus without parts -/
theorem leaf_ok {f : Nat → Int32} {L d nc lc a k a1 t : Nat} {cd : Int32} {C : Nat → Nat → Int32} {R : Nat → Nat → Option Nat} {CL : Nat → Nat → Int32} {RL : Nat → Nat → Option Nat} {A : Nat → Nat → Int32} {a' O : Nat} (hf : ∀ j, okd (f j)) (hA : A 0 = f) (hI : rz_I L (A, a', 0, nc + lc, nc, O)) (hO : O ≤ 7) (hn : nc < 60) (hs : sk f L a' = sk f L a) (hL : sk f L a < L) (hst : rz_step L A (sk f L a) 0 (nc + lc) nc O = rz_begin A L (sk f L a) 0 (nc + lc) nc O) (hh : rdHead f L (sk f L a) = some (k, a1, cd, t)) (hk : k = 0 ∨ (2 ≤ k ∧ k ≤ 4)) : ∃ (A1 : Nat → Nat → Int32), Rch L (A, a', 0, nc + lc, nc, O) ((rf_del O A1 (nc + lc)).1, a1, 0, nc + 1 + lc, nc + 1, (rf_del O A1 (nc + lc)).2) ∧ kpt2 A A1 (nc + lc) O ∧ SN (sT (nu_c C nc) nc 7 cd) (sT (sT (nu_r R nc) nc 5 (some k)) nc 6 (some t)) CL RL A1 (d + 1) nc lc (nc + 1) lc ∧ rtO (sT (sT (nu_r R nc) nc 5 (some k)) nc 6 (some t)) A1 nc (nc + lc) O := by
  have hB := (rz_I_to hI).1
  have hrow := row_new (C := C) (R := R) (nc := nc) (k := k) (t := t) (cd := cd)
  obtain ⟨e1, hk11, ht8, -⟩ := begin_hd (N := nc + lc) (U := nc) (O := O) hA hh
  have hW := W_ok hB hO hn
  obtain ⟨wh, hwh⟩ : ∃ z : Int32, z = kR k := ⟨_, rfl⟩
  have hcd : okd cd ∧ (k = 0 ∨ cd = kO k) := by
    rcases hd_val hh with ⟨h1, h2⟩ | ⟨h1, -⟩ | ⟨h1, h2, -⟩
    · exact ⟨by rw [h2]; exact hre_d hf, Or.inl h1⟩
    · omega
    · exact ⟨by rw [h2]; exact kO_d k hk11, Or.inr h2⟩
  have e2 : rz_hd A L k a1 cd t (nc + lc) nc O = rz_one A a1 0 (nc + lc) nc O wh (nI t) cd := by
    rw [hwh]
    rcases hd_val hh with ⟨h1, h2⟩ | ⟨h1, -⟩ | ⟨h1, h2, h3⟩
    · subst h1; rfl
    · omega
    · rcases (by omega : k = 2 ∨ k = 3 ∨ k = 4) with rfl | rfl | rfl <;> (subst h3; rfl)
  refine ⟨up2 (rz_N A (nc + lc) O wh (nI t)) 2 (upd (rz_N A (nc + lc) O wh (nI t) 2) (nc + lc) cd), ?_, ?_, ?_, ?_⟩
  · have r := Rch.step (L := L) (A := A) (a := a') (N := nc + lc) (U := nc) (O := O) (by rw [hA, hs]; exact hL)
    rw [hA, hs, hst, e1, e2] at r
    unfold rz_one at r
    rw [hW, show nc + lc + 1 = nc + 1 + lc by omega] at r
    exact r
  · refine (nuc_kpt (A := A) (N := nc + lc) (O := O) (u := rz_u A O) (wh := wh) (cl := nI t)).trans (N2 := nc + lc) (O2 := O) ⟨rfl, fun q h1 h2 m hm => ?_, fun q h1 h2 j hj => ?_⟩ (Nat.le_refl _) (Nat.le_refl _)
    · exact up2_old (by omega) (fun _ => rfl) rfl q
    · unfold up2; rw [if_neg (by omega)]
  · refine ⟨k, hk11, hrow.2.1, ?_, ?_, ?_, ?_⟩
    · exact ⟨(nuc_new (A := A) (N := nc + lc) (O := O) (u := rz_u A O) (wh := wh) (cl := nI t)).1.trans hwh, fun _ => (nuc_new (A := A) (N := nc + lc) (O := O) (u := rz_u A O) (wh := wh) (cl := nI t)).2.2.2.1 6 (by omega)⟩
    · rw [hrow.1]; exact upd_s
    · rw [hrow.1]; exact hcd.1
    · unfold SK
      rw [if_pos hk]
      exact ⟨rfl, rfl, (nuc_new (A := A) (N := nc + lc) (O := O) (u := rz_u A O) (wh := wh) (cl := nI t)).2.2.2.1 10 (by omega), (nuc_new (A := A) (N := nc + lc) (O := O) (u := rz_u A O) (wh := wh) (cl := nI t)).2.2.2.1 11 (by omega), hcd.2.imp id (fun z => hrow.1.trans z)⟩
  · have g := nuc_new (A := A) (N := nc + lc) (O := O) (u := rz_u A O) (wh := wh) (cl := nI t)
    exact ⟨t, ht8, hrow.2.2.1, g.2.1, ⟨hrow.2.2.2 12 (by decide) (by decide), hrow.2.2.2 13 (by decide) (by decide), hrow.2.2.2 14 (by decide) (by decide)⟩, ⟨g.2.2.2.1 7 (by omega), g.2.2.2.1 12 (by omega), g.2.2.2.1 13 (by omega), g.2.2.2.1 15 (by omega)⟩, g.2.2.1.trans (rz_lv hB)⟩
