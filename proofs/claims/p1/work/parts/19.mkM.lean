/-! The reference's memory as one function of its arrays and numbers. Printed by wip/whole/gen/p19.py -/
def up2 (A : Nat → Nat → Int32) (k : Nat) (f : Nat → Int32) : Nat → Nat → Int32 := fun j => if j = k then f else A j
def mo_a (ct : Nat → ClassId) (k : Nat) (f : Nat → Int32) : va_E := match k with
  | 0 => .inl (ct 0, 160, .inl f)
  | 1 => .inl (ct 0, 400, .inl f)
  | 2 => .inl (ct 0, 400, .inl f)
  | 3 => .inl (ct 0, 400, .inl f)
  | 4 => .inl (ct 0, 400, .inl f)
  | 5 => .inl (ct 0, 400, .inl f)
  | 6 => .inl (ct 0, 400, .inl f)
  | 7 => .inl (ct 0, 400, .inl f)
  | 8 => .inl (ct 0, 400, .inl f)
  | 9 => .inl (ct 0, 400, .inl f)
  | 10 => .inl (ct 0, 400, .inl f)
  | 11 => .inl (ct 0, 400, .inl f)
  | 12 => .inl (ct 0, 400, .inl f)
  | 13 => .inl (ct 0, 400, .inl f)
  | 14 => .inl (ct 0, 400, .inl f)
  | 15 => .inl (ct 3, 400, .inl f)
  | 16 => .inl (ct 0, 40, .inl f)
  | 17 => .inl (ct 0, 40, .inl f)
  | 18 => .inl (ct 0, 40, .inl f)
  | 19 => .inl (ct 0, 40, .inl f)
  | 20 => .inl (ct 0, 400, .inl f)
  | 21 => .inl (ct 3, 400, .inl f)
  | 22 => .inl (ct 0, 400, .inl f)
  | 23 => .inl (ct 0, 400, .inl f)
  | 24 => .inl (ct 0, 400, .inl f)
  | 25 => .inl (ct 0, 400, .inl f)
  | 26 => .inl (ct 0, 400, .inl f)
  | 27 => .inl (ct 0, 400, .inl f)
  | 28 => .inl (ct 0, 400, .inl f)
  | 29 => .inl (ct 0, 400, .inl f)
  | 30 => .inl (ct 0, 400, .inl f)
  | 31 => .inl (ct 0, 400, .inl f)
  | 32 => .inl (ct 0, 400, .inl f)
  | 33 => .inl (ct 0, 400, .inl f)
  | 34 => .inl (ct 0, 400, .inl f)
  | 35 => .inl (ct 0, 400, .inl f)
  | 36 => .inl (ct 0, 8, .inl f)
  | 37 => .inl (ct 0, 8, .inl f)
  | 38 => .inl (ct 0, 8, .inl f)
  | 39 => .inl (ct 0, 40, .inl f)
  | 40 => .inl (ct 0, 40, .inl f)
  | _ => .inl (ct 0, 1500, .inl f)
/-- the reference at x: arrays A, numbers; all else is g -/
def mkM (ct : Nat → ClassId) (x : Nat) (g : fh_H) (A : Nat → Nat → Int32) (th co at_ wr no nu op pi wi he de : Int32) : fh_H := fun q => if q = x then some (mo_s x th co at_ wr no nu op pi wi he de) else if x + 1 ≤ q ∧ q < x + 43 then some (mo_a ct (q - x - 1) (A (q - x - 1))) else g q
theorem mkM_o {ct : Nat → ClassId} {x : Nat} {g : fh_H} {A : Nat → Nat → Int32} {th co at_ wr no nu op pi wi he de : Int32} : mkM ct x g A th co at_ wr no nu op pi wi he de x = some (mo_s x th co at_ wr no nu op pi wi he de) := by simp [mkM]
theorem mkM_g {ct : Nat → ClassId} {x : Nat} {g : fh_H} {A : Nat → Nat → Int32} {th co at_ wr no nu op pi wi he de : Int32} {q : Nat} (hq : q < x ∨ x + 43 ≤ q) : mkM ct x g A th co at_ wr no nu op pi wi he de q = g q := by unfold mkM; rw [if_neg (by omega), if_neg (by omega)]
theorem mkM_at {ct : Nat → ClassId} {x : Nat} {g : fh_H} {A : Nat → Nat → Int32} {th co at_ wr no nu op pi wi he de : Int32} (k : Nat) (hk : k < 42) : mkM ct x g A th co at_ wr no nu op pi wi he de (x + 1 + k) = some (mo_a ct k (A k)) := by
  unfold mkM
  rw [if_neg (by omega), if_pos (by omega), show x + 1 + k - x - 1 = k by omega]
theorem mkM_ux {ct : Nat → ClassId} {x : Nat} {g : fh_H} {A : Nat → Nat → Int32} {th co at_ wr no nu op pi wi he de : Int32} {th' co' at_' wr' no' nu' op' pi' wi' he' de' : Int32} : fh_up (mkM ct x g A th co at_ wr no nu op pi wi he de) x (mo_s x th' co' at_' wr' no' nu' op' pi' wi' he' de') = mkM ct x g A th' co' at_' wr' no' nu' op' pi' wi' he' de' := by
  funext q
  by_cases h1 : q = x
  · subst h1; rw [fh_up_same, mkM_o]
  · rw [fh_up_ne h1]; unfold mkM; rw [if_neg h1, if_neg h1]
theorem mkM_uk {ct : Nat → ClassId} {x : Nat} {g : fh_H} {A : Nat → Nat → Int32} {th co at_ wr no nu op pi wi he de : Int32} (k : Nat) (hk : k < 42) (f : Nat → Int32) : fh_up (mkM ct x g A th co at_ wr no nu op pi wi he de) (x + 1 + k) (mo_a ct k f) = mkM ct x g (up2 A k f) th co at_ wr no nu op pi wi he de := by
  funext q
  by_cases h1 : q = x + 1 + k
  · subst h1; rw [fh_up_same, mkM_at k hk]; simp [up2]
  · rw [fh_up_ne h1]; unfold mkM
    by_cases h2 : q = x
    · rw [if_pos h2, if_pos h2]
    · rw [if_neg h2, if_neg h2]
      by_cases h3 : x + 1 ≤ q ∧ q < x + 43
      · rw [if_pos h3, if_pos h3]; unfold up2; rw [if_neg (by omega)]
      · rw [if_neg h3, if_neg h3]
theorem mkM_a0 {ct : Nat → ClassId} {x : Nat} {g : fh_H} {A : Nat → Nat → Int32} {th co at_ wr no nu op pi wi he de : Int32} : mkM ct x g A th co at_ wr no nu op pi wi he de (x + 1) = some (.inl (ct 0, 160, .inl (A 0))) := mkM_at 0 (by decide)
theorem mkM_u0 {ct : Nat → ClassId} {x : Nat} {g : fh_H} {A : Nat → Nat → Int32} {th co at_ wr no nu op pi wi he de : Int32} {f : Nat → Int32} : fh_up (mkM ct x g A th co at_ wr no nu op pi wi he de) (x + 1) (.inl (ct 0, 160, .inl f)) = mkM ct x g (up2 A 0 f) th co at_ wr no nu op pi wi he de := mkM_uk 0 (by decide) f
theorem mkM_a1 {ct : Nat → ClassId} {x : Nat} {g : fh_H} {A : Nat → Nat → Int32} {th co at_ wr no nu op pi wi he de : Int32} : mkM ct x g A th co at_ wr no nu op pi wi he de (x + 2) = some (.inl (ct 0, 400, .inl (A 1))) := mkM_at 1 (by decide)
theorem mkM_u1 {ct : Nat → ClassId} {x : Nat} {g : fh_H} {A : Nat → Nat → Int32} {th co at_ wr no nu op pi wi he de : Int32} {f : Nat → Int32} : fh_up (mkM ct x g A th co at_ wr no nu op pi wi he de) (x + 2) (.inl (ct 0, 400, .inl f)) = mkM ct x g (up2 A 1 f) th co at_ wr no nu op pi wi he de := mkM_uk 1 (by decide) f
theorem mkM_a2 {ct : Nat → ClassId} {x : Nat} {g : fh_H} {A : Nat → Nat → Int32} {th co at_ wr no nu op pi wi he de : Int32} : mkM ct x g A th co at_ wr no nu op pi wi he de (x + 3) = some (.inl (ct 0, 400, .inl (A 2))) := mkM_at 2 (by decide)
theorem mkM_u2 {ct : Nat → ClassId} {x : Nat} {g : fh_H} {A : Nat → Nat → Int32} {th co at_ wr no nu op pi wi he de : Int32} {f : Nat → Int32} : fh_up (mkM ct x g A th co at_ wr no nu op pi wi he de) (x + 3) (.inl (ct 0, 400, .inl f)) = mkM ct x g (up2 A 2 f) th co at_ wr no nu op pi wi he de := mkM_uk 2 (by decide) f
theorem mkM_a3 {ct : Nat → ClassId} {x : Nat} {g : fh_H} {A : Nat → Nat → Int32} {th co at_ wr no nu op pi wi he de : Int32} : mkM ct x g A th co at_ wr no nu op pi wi he de (x + 4) = some (.inl (ct 0, 400, .inl (A 3))) := mkM_at 3 (by decide)
theorem mkM_u3 {ct : Nat → ClassId} {x : Nat} {g : fh_H} {A : Nat → Nat → Int32} {th co at_ wr no nu op pi wi he de : Int32} {f : Nat → Int32} : fh_up (mkM ct x g A th co at_ wr no nu op pi wi he de) (x + 4) (.inl (ct 0, 400, .inl f)) = mkM ct x g (up2 A 3 f) th co at_ wr no nu op pi wi he de := mkM_uk 3 (by decide) f
theorem mkM_a4 {ct : Nat → ClassId} {x : Nat} {g : fh_H} {A : Nat → Nat → Int32} {th co at_ wr no nu op pi wi he de : Int32} : mkM ct x g A th co at_ wr no nu op pi wi he de (x + 5) = some (.inl (ct 0, 400, .inl (A 4))) := mkM_at 4 (by decide)
theorem mkM_u4 {ct : Nat → ClassId} {x : Nat} {g : fh_H} {A : Nat → Nat → Int32} {th co at_ wr no nu op pi wi he de : Int32} {f : Nat → Int32} : fh_up (mkM ct x g A th co at_ wr no nu op pi wi he de) (x + 5) (.inl (ct 0, 400, .inl f)) = mkM ct x g (up2 A 4 f) th co at_ wr no nu op pi wi he de := mkM_uk 4 (by decide) f
theorem mkM_a5 {ct : Nat → ClassId} {x : Nat} {g : fh_H} {A : Nat → Nat → Int32} {th co at_ wr no nu op pi wi he de : Int32} : mkM ct x g A th co at_ wr no nu op pi wi he de (x + 6) = some (.inl (ct 0, 400, .inl (A 5))) := mkM_at 5 (by decide)
theorem mkM_u5 {ct : Nat → ClassId} {x : Nat} {g : fh_H} {A : Nat → Nat → Int32} {th co at_ wr no nu op pi wi he de : Int32} {f : Nat → Int32} : fh_up (mkM ct x g A th co at_ wr no nu op pi wi he de) (x + 6) (.inl (ct 0, 400, .inl f)) = mkM ct x g (up2 A 5 f) th co at_ wr no nu op pi wi he de := mkM_uk 5 (by decide) f
theorem mkM_a6 {ct : Nat → ClassId} {x : Nat} {g : fh_H} {A : Nat → Nat → Int32} {th co at_ wr no nu op pi wi he de : Int32} : mkM ct x g A th co at_ wr no nu op pi wi he de (x + 7) = some (.inl (ct 0, 400, .inl (A 6))) := mkM_at 6 (by decide)
theorem mkM_u6 {ct : Nat → ClassId} {x : Nat} {g : fh_H} {A : Nat → Nat → Int32} {th co at_ wr no nu op pi wi he de : Int32} {f : Nat → Int32} : fh_up (mkM ct x g A th co at_ wr no nu op pi wi he de) (x + 7) (.inl (ct 0, 400, .inl f)) = mkM ct x g (up2 A 6 f) th co at_ wr no nu op pi wi he de := mkM_uk 6 (by decide) f
theorem mkM_a7 {ct : Nat → ClassId} {x : Nat} {g : fh_H} {A : Nat → Nat → Int32} {th co at_ wr no nu op pi wi he de : Int32} : mkM ct x g A th co at_ wr no nu op pi wi he de (x + 8) = some (.inl (ct 0, 400, .inl (A 7))) := mkM_at 7 (by decide)
theorem mkM_u7 {ct : Nat → ClassId} {x : Nat} {g : fh_H} {A : Nat → Nat → Int32} {th co at_ wr no nu op pi wi he de : Int32} {f : Nat → Int32} : fh_up (mkM ct x g A th co at_ wr no nu op pi wi he de) (x + 8) (.inl (ct 0, 400, .inl f)) = mkM ct x g (up2 A 7 f) th co at_ wr no nu op pi wi he de := mkM_uk 7 (by decide) f
theorem mkM_a8 {ct : Nat → ClassId} {x : Nat} {g : fh_H} {A : Nat → Nat → Int32} {th co at_ wr no nu op pi wi he de : Int32} : mkM ct x g A th co at_ wr no nu op pi wi he de (x + 9) = some (.inl (ct 0, 400, .inl (A 8))) := mkM_at 8 (by decide)
theorem mkM_u8 {ct : Nat → ClassId} {x : Nat} {g : fh_H} {A : Nat → Nat → Int32} {th co at_ wr no nu op pi wi he de : Int32} {f : Nat → Int32} : fh_up (mkM ct x g A th co at_ wr no nu op pi wi he de) (x + 9) (.inl (ct 0, 400, .inl f)) = mkM ct x g (up2 A 8 f) th co at_ wr no nu op pi wi he de := mkM_uk 8 (by decide) f
theorem mkM_a9 {ct : Nat → ClassId} {x : Nat} {g : fh_H} {A : Nat → Nat → Int32} {th co at_ wr no nu op pi wi he de : Int32} : mkM ct x g A th co at_ wr no nu op pi wi he de (x + 10) = some (.inl (ct 0, 400, .inl (A 9))) := mkM_at 9 (by decide)
theorem mkM_u9 {ct : Nat → ClassId} {x : Nat} {g : fh_H} {A : Nat → Nat → Int32} {th co at_ wr no nu op pi wi he de : Int32} {f : Nat → Int32} : fh_up (mkM ct x g A th co at_ wr no nu op pi wi he de) (x + 10) (.inl (ct 0, 400, .inl f)) = mkM ct x g (up2 A 9 f) th co at_ wr no nu op pi wi he de := mkM_uk 9 (by decide) f
theorem mkM_a10 {ct : Nat → ClassId} {x : Nat} {g : fh_H} {A : Nat → Nat → Int32} {th co at_ wr no nu op pi wi he de : Int32} : mkM ct x g A th co at_ wr no nu op pi wi he de (x + 11) = some (.inl (ct 0, 400, .inl (A 10))) := mkM_at 10 (by decide)
theorem mkM_u10 {ct : Nat → ClassId} {x : Nat} {g : fh_H} {A : Nat → Nat → Int32} {th co at_ wr no nu op pi wi he de : Int32} {f : Nat → Int32} : fh_up (mkM ct x g A th co at_ wr no nu op pi wi he de) (x + 11) (.inl (ct 0, 400, .inl f)) = mkM ct x g (up2 A 10 f) th co at_ wr no nu op pi wi he de := mkM_uk 10 (by decide) f
theorem mkM_a11 {ct : Nat → ClassId} {x : Nat} {g : fh_H} {A : Nat → Nat → Int32} {th co at_ wr no nu op pi wi he de : Int32} : mkM ct x g A th co at_ wr no nu op pi wi he de (x + 12) = some (.inl (ct 0, 400, .inl (A 11))) := mkM_at 11 (by decide)
theorem mkM_u11 {ct : Nat → ClassId} {x : Nat} {g : fh_H} {A : Nat → Nat → Int32} {th co at_ wr no nu op pi wi he de : Int32} {f : Nat → Int32} : fh_up (mkM ct x g A th co at_ wr no nu op pi wi he de) (x + 12) (.inl (ct 0, 400, .inl f)) = mkM ct x g (up2 A 11 f) th co at_ wr no nu op pi wi he de := mkM_uk 11 (by decide) f
theorem mkM_a12 {ct : Nat → ClassId} {x : Nat} {g : fh_H} {A : Nat → Nat → Int32} {th co at_ wr no nu op pi wi he de : Int32} : mkM ct x g A th co at_ wr no nu op pi wi he de (x + 13) = some (.inl (ct 0, 400, .inl (A 12))) := mkM_at 12 (by decide)
theorem mkM_u12 {ct : Nat → ClassId} {x : Nat} {g : fh_H} {A : Nat → Nat → Int32} {th co at_ wr no nu op pi wi he de : Int32} {f : Nat → Int32} : fh_up (mkM ct x g A th co at_ wr no nu op pi wi he de) (x + 13) (.inl (ct 0, 400, .inl f)) = mkM ct x g (up2 A 12 f) th co at_ wr no nu op pi wi he de := mkM_uk 12 (by decide) f
theorem mkM_a13 {ct : Nat → ClassId} {x : Nat} {g : fh_H} {A : Nat → Nat → Int32} {th co at_ wr no nu op pi wi he de : Int32} : mkM ct x g A th co at_ wr no nu op pi wi he de (x + 14) = some (.inl (ct 0, 400, .inl (A 13))) := mkM_at 13 (by decide)
theorem mkM_u13 {ct : Nat → ClassId} {x : Nat} {g : fh_H} {A : Nat → Nat → Int32} {th co at_ wr no nu op pi wi he de : Int32} {f : Nat → Int32} : fh_up (mkM ct x g A th co at_ wr no nu op pi wi he de) (x + 14) (.inl (ct 0, 400, .inl f)) = mkM ct x g (up2 A 13 f) th co at_ wr no nu op pi wi he de := mkM_uk 13 (by decide) f
theorem mkM_a14 {ct : Nat → ClassId} {x : Nat} {g : fh_H} {A : Nat → Nat → Int32} {th co at_ wr no nu op pi wi he de : Int32} : mkM ct x g A th co at_ wr no nu op pi wi he de (x + 15) = some (.inl (ct 0, 400, .inl (A 14))) := mkM_at 14 (by decide)
theorem mkM_u14 {ct : Nat → ClassId} {x : Nat} {g : fh_H} {A : Nat → Nat → Int32} {th co at_ wr no nu op pi wi he de : Int32} {f : Nat → Int32} : fh_up (mkM ct x g A th co at_ wr no nu op pi wi he de) (x + 15) (.inl (ct 0, 400, .inl f)) = mkM ct x g (up2 A 14 f) th co at_ wr no nu op pi wi he de := mkM_uk 14 (by decide) f
theorem mkM_a15 {ct : Nat → ClassId} {x : Nat} {g : fh_H} {A : Nat → Nat → Int32} {th co at_ wr no nu op pi wi he de : Int32} : mkM ct x g A th co at_ wr no nu op pi wi he de (x + 16) = some (.inl (ct 3, 400, .inl (A 15))) := mkM_at 15 (by decide)
theorem mkM_u15 {ct : Nat → ClassId} {x : Nat} {g : fh_H} {A : Nat → Nat → Int32} {th co at_ wr no nu op pi wi he de : Int32} {f : Nat → Int32} : fh_up (mkM ct x g A th co at_ wr no nu op pi wi he de) (x + 16) (.inl (ct 3, 400, .inl f)) = mkM ct x g (up2 A 15 f) th co at_ wr no nu op pi wi he de := mkM_uk 15 (by decide) f
theorem mkM_a16 {ct : Nat → ClassId} {x : Nat} {g : fh_H} {A : Nat → Nat → Int32} {th co at_ wr no nu op pi wi he de : Int32} : mkM ct x g A th co at_ wr no nu op pi wi he de (x + 17) = some (.inl (ct 0, 40, .inl (A 16))) := mkM_at 16 (by decide)
theorem mkM_u16 {ct : Nat → ClassId} {x : Nat} {g : fh_H} {A : Nat → Nat → Int32} {th co at_ wr no nu op pi wi he de : Int32} {f : Nat → Int32} : fh_up (mkM ct x g A th co at_ wr no nu op pi wi he de) (x + 17) (.inl (ct 0, 40, .inl f)) = mkM ct x g (up2 A 16 f) th co at_ wr no nu op pi wi he de := mkM_uk 16 (by decide) f
theorem mkM_a17 {ct : Nat → ClassId} {x : Nat} {g : fh_H} {A : Nat → Nat → Int32} {th co at_ wr no nu op pi wi he de : Int32} : mkM ct x g A th co at_ wr no nu op pi wi he de (x + 18) = some (.inl (ct 0, 40, .inl (A 17))) := mkM_at 17 (by decide)
theorem mkM_u17 {ct : Nat → ClassId} {x : Nat} {g : fh_H} {A : Nat → Nat → Int32} {th co at_ wr no nu op pi wi he de : Int32} {f : Nat → Int32} : fh_up (mkM ct x g A th co at_ wr no nu op pi wi he de) (x + 18) (.inl (ct 0, 40, .inl f)) = mkM ct x g (up2 A 17 f) th co at_ wr no nu op pi wi he de := mkM_uk 17 (by decide) f
theorem mkM_a18 {ct : Nat → ClassId} {x : Nat} {g : fh_H} {A : Nat → Nat → Int32} {th co at_ wr no nu op pi wi he de : Int32} : mkM ct x g A th co at_ wr no nu op pi wi he de (x + 19) = some (.inl (ct 0, 40, .inl (A 18))) := mkM_at 18 (by decide)
theorem mkM_u18 {ct : Nat → ClassId} {x : Nat} {g : fh_H} {A : Nat → Nat → Int32} {th co at_ wr no nu op pi wi he de : Int32} {f : Nat → Int32} : fh_up (mkM ct x g A th co at_ wr no nu op pi wi he de) (x + 19) (.inl (ct 0, 40, .inl f)) = mkM ct x g (up2 A 18 f) th co at_ wr no nu op pi wi he de := mkM_uk 18 (by decide) f
theorem mkM_a19 {ct : Nat → ClassId} {x : Nat} {g : fh_H} {A : Nat → Nat → Int32} {th co at_ wr no nu op pi wi he de : Int32} : mkM ct x g A th co at_ wr no nu op pi wi he de (x + 20) = some (.inl (ct 0, 40, .inl (A 19))) := mkM_at 19 (by decide)
theorem mkM_u19 {ct : Nat → ClassId} {x : Nat} {g : fh_H} {A : Nat → Nat → Int32} {th co at_ wr no nu op pi wi he de : Int32} {f : Nat → Int32} : fh_up (mkM ct x g A th co at_ wr no nu op pi wi he de) (x + 20) (.inl (ct 0, 40, .inl f)) = mkM ct x g (up2 A 19 f) th co at_ wr no nu op pi wi he de := mkM_uk 19 (by decide) f
theorem mkM_a20 {ct : Nat → ClassId} {x : Nat} {g : fh_H} {A : Nat → Nat → Int32} {th co at_ wr no nu op pi wi he de : Int32} : mkM ct x g A th co at_ wr no nu op pi wi he de (x + 21) = some (.inl (ct 0, 400, .inl (A 20))) := mkM_at 20 (by decide)
theorem mkM_u20 {ct : Nat → ClassId} {x : Nat} {g : fh_H} {A : Nat → Nat → Int32} {th co at_ wr no nu op pi wi he de : Int32} {f : Nat → Int32} : fh_up (mkM ct x g A th co at_ wr no nu op pi wi he de) (x + 21) (.inl (ct 0, 400, .inl f)) = mkM ct x g (up2 A 20 f) th co at_ wr no nu op pi wi he de := mkM_uk 20 (by decide) f
theorem mkM_a21 {ct : Nat → ClassId} {x : Nat} {g : fh_H} {A : Nat → Nat → Int32} {th co at_ wr no nu op pi wi he de : Int32} : mkM ct x g A th co at_ wr no nu op pi wi he de (x + 22) = some (.inl (ct 3, 400, .inl (A 21))) := mkM_at 21 (by decide)
theorem mkM_u21 {ct : Nat → ClassId} {x : Nat} {g : fh_H} {A : Nat → Nat → Int32} {th co at_ wr no nu op pi wi he de : Int32} {f : Nat → Int32} : fh_up (mkM ct x g A th co at_ wr no nu op pi wi he de) (x + 22) (.inl (ct 3, 400, .inl f)) = mkM ct x g (up2 A 21 f) th co at_ wr no nu op pi wi he de := mkM_uk 21 (by decide) f
theorem mkM_a22 {ct : Nat → ClassId} {x : Nat} {g : fh_H} {A : Nat → Nat → Int32} {th co at_ wr no nu op pi wi he de : Int32} : mkM ct x g A th co at_ wr no nu op pi wi he de (x + 23) = some (.inl (ct 0, 400, .inl (A 22))) := mkM_at 22 (by decide)
theorem mkM_u22 {ct : Nat → ClassId} {x : Nat} {g : fh_H} {A : Nat → Nat → Int32} {th co at_ wr no nu op pi wi he de : Int32} {f : Nat → Int32} : fh_up (mkM ct x g A th co at_ wr no nu op pi wi he de) (x + 23) (.inl (ct 0, 400, .inl f)) = mkM ct x g (up2 A 22 f) th co at_ wr no nu op pi wi he de := mkM_uk 22 (by decide) f
theorem mkM_a23 {ct : Nat → ClassId} {x : Nat} {g : fh_H} {A : Nat → Nat → Int32} {th co at_ wr no nu op pi wi he de : Int32} : mkM ct x g A th co at_ wr no nu op pi wi he de (x + 24) = some (.inl (ct 0, 400, .inl (A 23))) := mkM_at 23 (by decide)
theorem mkM_u23 {ct : Nat → ClassId} {x : Nat} {g : fh_H} {A : Nat → Nat → Int32} {th co at_ wr no nu op pi wi he de : Int32} {f : Nat → Int32} : fh_up (mkM ct x g A th co at_ wr no nu op pi wi he de) (x + 24) (.inl (ct 0, 400, .inl f)) = mkM ct x g (up2 A 23 f) th co at_ wr no nu op pi wi he de := mkM_uk 23 (by decide) f
theorem mkM_a24 {ct : Nat → ClassId} {x : Nat} {g : fh_H} {A : Nat → Nat → Int32} {th co at_ wr no nu op pi wi he de : Int32} : mkM ct x g A th co at_ wr no nu op pi wi he de (x + 25) = some (.inl (ct 0, 400, .inl (A 24))) := mkM_at 24 (by decide)
theorem mkM_u24 {ct : Nat → ClassId} {x : Nat} {g : fh_H} {A : Nat → Nat → Int32} {th co at_ wr no nu op pi wi he de : Int32} {f : Nat → Int32} : fh_up (mkM ct x g A th co at_ wr no nu op pi wi he de) (x + 25) (.inl (ct 0, 400, .inl f)) = mkM ct x g (up2 A 24 f) th co at_ wr no nu op pi wi he de := mkM_uk 24 (by decide) f
theorem mkM_a25 {ct : Nat → ClassId} {x : Nat} {g : fh_H} {A : Nat → Nat → Int32} {th co at_ wr no nu op pi wi he de : Int32} : mkM ct x g A th co at_ wr no nu op pi wi he de (x + 26) = some (.inl (ct 0, 400, .inl (A 25))) := mkM_at 25 (by decide)
theorem mkM_u25 {ct : Nat → ClassId} {x : Nat} {g : fh_H} {A : Nat → Nat → Int32} {th co at_ wr no nu op pi wi he de : Int32} {f : Nat → Int32} : fh_up (mkM ct x g A th co at_ wr no nu op pi wi he de) (x + 26) (.inl (ct 0, 400, .inl f)) = mkM ct x g (up2 A 25 f) th co at_ wr no nu op pi wi he de := mkM_uk 25 (by decide) f
theorem mkM_a26 {ct : Nat → ClassId} {x : Nat} {g : fh_H} {A : Nat → Nat → Int32} {th co at_ wr no nu op pi wi he de : Int32} : mkM ct x g A th co at_ wr no nu op pi wi he de (x + 27) = some (.inl (ct 0, 400, .inl (A 26))) := mkM_at 26 (by decide)
theorem mkM_u26 {ct : Nat → ClassId} {x : Nat} {g : fh_H} {A : Nat → Nat → Int32} {th co at_ wr no nu op pi wi he de : Int32} {f : Nat → Int32} : fh_up (mkM ct x g A th co at_ wr no nu op pi wi he de) (x + 27) (.inl (ct 0, 400, .inl f)) = mkM ct x g (up2 A 26 f) th co at_ wr no nu op pi wi he de := mkM_uk 26 (by decide) f
theorem mkM_a27 {ct : Nat → ClassId} {x : Nat} {g : fh_H} {A : Nat → Nat → Int32} {th co at_ wr no nu op pi wi he de : Int32} : mkM ct x g A th co at_ wr no nu op pi wi he de (x + 28) = some (.inl (ct 0, 400, .inl (A 27))) := mkM_at 27 (by decide)
theorem mkM_u27 {ct : Nat → ClassId} {x : Nat} {g : fh_H} {A : Nat → Nat → Int32} {th co at_ wr no nu op pi wi he de : Int32} {f : Nat → Int32} : fh_up (mkM ct x g A th co at_ wr no nu op pi wi he de) (x + 28) (.inl (ct 0, 400, .inl f)) = mkM ct x g (up2 A 27 f) th co at_ wr no nu op pi wi he de := mkM_uk 27 (by decide) f
theorem mkM_a28 {ct : Nat → ClassId} {x : Nat} {g : fh_H} {A : Nat → Nat → Int32} {th co at_ wr no nu op pi wi he de : Int32} : mkM ct x g A th co at_ wr no nu op pi wi he de (x + 29) = some (.inl (ct 0, 400, .inl (A 28))) := mkM_at 28 (by decide)
theorem mkM_u28 {ct : Nat → ClassId} {x : Nat} {g : fh_H} {A : Nat → Nat → Int32} {th co at_ wr no nu op pi wi he de : Int32} {f : Nat → Int32} : fh_up (mkM ct x g A th co at_ wr no nu op pi wi he de) (x + 29) (.inl (ct 0, 400, .inl f)) = mkM ct x g (up2 A 28 f) th co at_ wr no nu op pi wi he de := mkM_uk 28 (by decide) f
theorem mkM_a29 {ct : Nat → ClassId} {x : Nat} {g : fh_H} {A : Nat → Nat → Int32} {th co at_ wr no nu op pi wi he de : Int32} : mkM ct x g A th co at_ wr no nu op pi wi he de (x + 30) = some (.inl (ct 0, 400, .inl (A 29))) := mkM_at 29 (by decide)
theorem mkM_u29 {ct : Nat → ClassId} {x : Nat} {g : fh_H} {A : Nat → Nat → Int32} {th co at_ wr no nu op pi wi he de : Int32} {f : Nat → Int32} : fh_up (mkM ct x g A th co at_ wr no nu op pi wi he de) (x + 30) (.inl (ct 0, 400, .inl f)) = mkM ct x g (up2 A 29 f) th co at_ wr no nu op pi wi he de := mkM_uk 29 (by decide) f
theorem mkM_a30 {ct : Nat → ClassId} {x : Nat} {g : fh_H} {A : Nat → Nat → Int32} {th co at_ wr no nu op pi wi he de : Int32} : mkM ct x g A th co at_ wr no nu op pi wi he de (x + 31) = some (.inl (ct 0, 400, .inl (A 30))) := mkM_at 30 (by decide)
theorem mkM_u30 {ct : Nat → ClassId} {x : Nat} {g : fh_H} {A : Nat → Nat → Int32} {th co at_ wr no nu op pi wi he de : Int32} {f : Nat → Int32} : fh_up (mkM ct x g A th co at_ wr no nu op pi wi he de) (x + 31) (.inl (ct 0, 400, .inl f)) = mkM ct x g (up2 A 30 f) th co at_ wr no nu op pi wi he de := mkM_uk 30 (by decide) f
theorem mkM_a31 {ct : Nat → ClassId} {x : Nat} {g : fh_H} {A : Nat → Nat → Int32} {th co at_ wr no nu op pi wi he de : Int32} : mkM ct x g A th co at_ wr no nu op pi wi he de (x + 32) = some (.inl (ct 0, 400, .inl (A 31))) := mkM_at 31 (by decide)
theorem mkM_u31 {ct : Nat → ClassId} {x : Nat} {g : fh_H} {A : Nat → Nat → Int32} {th co at_ wr no nu op pi wi he de : Int32} {f : Nat → Int32} : fh_up (mkM ct x g A th co at_ wr no nu op pi wi he de) (x + 32) (.inl (ct 0, 400, .inl f)) = mkM ct x g (up2 A 31 f) th co at_ wr no nu op pi wi he de := mkM_uk 31 (by decide) f
theorem mkM_a32 {ct : Nat → ClassId} {x : Nat} {g : fh_H} {A : Nat → Nat → Int32} {th co at_ wr no nu op pi wi he de : Int32} : mkM ct x g A th co at_ wr no nu op pi wi he de (x + 33) = some (.inl (ct 0, 400, .inl (A 32))) := mkM_at 32 (by decide)
theorem mkM_u32 {ct : Nat → ClassId} {x : Nat} {g : fh_H} {A : Nat → Nat → Int32} {th co at_ wr no nu op pi wi he de : Int32} {f : Nat → Int32} : fh_up (mkM ct x g A th co at_ wr no nu op pi wi he de) (x + 33) (.inl (ct 0, 400, .inl f)) = mkM ct x g (up2 A 32 f) th co at_ wr no nu op pi wi he de := mkM_uk 32 (by decide) f
theorem mkM_a33 {ct : Nat → ClassId} {x : Nat} {g : fh_H} {A : Nat → Nat → Int32} {th co at_ wr no nu op pi wi he de : Int32} : mkM ct x g A th co at_ wr no nu op pi wi he de (x + 34) = some (.inl (ct 0, 400, .inl (A 33))) := mkM_at 33 (by decide)
theorem mkM_u33 {ct : Nat → ClassId} {x : Nat} {g : fh_H} {A : Nat → Nat → Int32} {th co at_ wr no nu op pi wi he de : Int32} {f : Nat → Int32} : fh_up (mkM ct x g A th co at_ wr no nu op pi wi he de) (x + 34) (.inl (ct 0, 400, .inl f)) = mkM ct x g (up2 A 33 f) th co at_ wr no nu op pi wi he de := mkM_uk 33 (by decide) f
theorem mkM_a34 {ct : Nat → ClassId} {x : Nat} {g : fh_H} {A : Nat → Nat → Int32} {th co at_ wr no nu op pi wi he de : Int32} : mkM ct x g A th co at_ wr no nu op pi wi he de (x + 35) = some (.inl (ct 0, 400, .inl (A 34))) := mkM_at 34 (by decide)
theorem mkM_u34 {ct : Nat → ClassId} {x : Nat} {g : fh_H} {A : Nat → Nat → Int32} {th co at_ wr no nu op pi wi he de : Int32} {f : Nat → Int32} : fh_up (mkM ct x g A th co at_ wr no nu op pi wi he de) (x + 35) (.inl (ct 0, 400, .inl f)) = mkM ct x g (up2 A 34 f) th co at_ wr no nu op pi wi he de := mkM_uk 34 (by decide) f
theorem mkM_a35 {ct : Nat → ClassId} {x : Nat} {g : fh_H} {A : Nat → Nat → Int32} {th co at_ wr no nu op pi wi he de : Int32} : mkM ct x g A th co at_ wr no nu op pi wi he de (x + 36) = some (.inl (ct 0, 400, .inl (A 35))) := mkM_at 35 (by decide)
theorem mkM_u35 {ct : Nat → ClassId} {x : Nat} {g : fh_H} {A : Nat → Nat → Int32} {th co at_ wr no nu op pi wi he de : Int32} {f : Nat → Int32} : fh_up (mkM ct x g A th co at_ wr no nu op pi wi he de) (x + 36) (.inl (ct 0, 400, .inl f)) = mkM ct x g (up2 A 35 f) th co at_ wr no nu op pi wi he de := mkM_uk 35 (by decide) f
theorem mkM_a36 {ct : Nat → ClassId} {x : Nat} {g : fh_H} {A : Nat → Nat → Int32} {th co at_ wr no nu op pi wi he de : Int32} : mkM ct x g A th co at_ wr no nu op pi wi he de (x + 37) = some (.inl (ct 0, 8, .inl (A 36))) := mkM_at 36 (by decide)
theorem mkM_u36 {ct : Nat → ClassId} {x : Nat} {g : fh_H} {A : Nat → Nat → Int32} {th co at_ wr no nu op pi wi he de : Int32} {f : Nat → Int32} : fh_up (mkM ct x g A th co at_ wr no nu op pi wi he de) (x + 37) (.inl (ct 0, 8, .inl f)) = mkM ct x g (up2 A 36 f) th co at_ wr no nu op pi wi he de := mkM_uk 36 (by decide) f
theorem mkM_a37 {ct : Nat → ClassId} {x : Nat} {g : fh_H} {A : Nat → Nat → Int32} {th co at_ wr no nu op pi wi he de : Int32} : mkM ct x g A th co at_ wr no nu op pi wi he de (x + 38) = some (.inl (ct 0, 8, .inl (A 37))) := mkM_at 37 (by decide)
theorem mkM_u37 {ct : Nat → ClassId} {x : Nat} {g : fh_H} {A : Nat → Nat → Int32} {th co at_ wr no nu op pi wi he de : Int32} {f : Nat → Int32} : fh_up (mkM ct x g A th co at_ wr no nu op pi wi he de) (x + 38) (.inl (ct 0, 8, .inl f)) = mkM ct x g (up2 A 37 f) th co at_ wr no nu op pi wi he de := mkM_uk 37 (by decide) f
theorem mkM_a38 {ct : Nat → ClassId} {x : Nat} {g : fh_H} {A : Nat → Nat → Int32} {th co at_ wr no nu op pi wi he de : Int32} : mkM ct x g A th co at_ wr no nu op pi wi he de (x + 39) = some (.inl (ct 0, 8, .inl (A 38))) := mkM_at 38 (by decide)
theorem mkM_u38 {ct : Nat → ClassId} {x : Nat} {g : fh_H} {A : Nat → Nat → Int32} {th co at_ wr no nu op pi wi he de : Int32} {f : Nat → Int32} : fh_up (mkM ct x g A th co at_ wr no nu op pi wi he de) (x + 39) (.inl (ct 0, 8, .inl f)) = mkM ct x g (up2 A 38 f) th co at_ wr no nu op pi wi he de := mkM_uk 38 (by decide) f
theorem mkM_a39 {ct : Nat → ClassId} {x : Nat} {g : fh_H} {A : Nat → Nat → Int32} {th co at_ wr no nu op pi wi he de : Int32} : mkM ct x g A th co at_ wr no nu op pi wi he de (x + 40) = some (.inl (ct 0, 40, .inl (A 39))) := mkM_at 39 (by decide)
theorem mkM_u39 {ct : Nat → ClassId} {x : Nat} {g : fh_H} {A : Nat → Nat → Int32} {th co at_ wr no nu op pi wi he de : Int32} {f : Nat → Int32} : fh_up (mkM ct x g A th co at_ wr no nu op pi wi he de) (x + 40) (.inl (ct 0, 40, .inl f)) = mkM ct x g (up2 A 39 f) th co at_ wr no nu op pi wi he de := mkM_uk 39 (by decide) f
theorem mkM_a40 {ct : Nat → ClassId} {x : Nat} {g : fh_H} {A : Nat → Nat → Int32} {th co at_ wr no nu op pi wi he de : Int32} : mkM ct x g A th co at_ wr no nu op pi wi he de (x + 41) = some (.inl (ct 0, 40, .inl (A 40))) := mkM_at 40 (by decide)
theorem mkM_u40 {ct : Nat → ClassId} {x : Nat} {g : fh_H} {A : Nat → Nat → Int32} {th co at_ wr no nu op pi wi he de : Int32} {f : Nat → Int32} : fh_up (mkM ct x g A th co at_ wr no nu op pi wi he de) (x + 41) (.inl (ct 0, 40, .inl f)) = mkM ct x g (up2 A 40 f) th co at_ wr no nu op pi wi he de := mkM_uk 40 (by decide) f
theorem mkM_a41 {ct : Nat → ClassId} {x : Nat} {g : fh_H} {A : Nat → Nat → Int32} {th co at_ wr no nu op pi wi he de : Int32} : mkM ct x g A th co at_ wr no nu op pi wi he de (x + 42) = some (.inl (ct 0, 1500, .inl (A 41))) := mkM_at 41 (by decide)
theorem mkM_u41 {ct : Nat → ClassId} {x : Nat} {g : fh_H} {A : Nat → Nat → Int32} {th co at_ wr no nu op pi wi he de : Int32} {f : Nat → Int32} : fh_up (mkM ct x g A th co at_ wr no nu op pi wi he de) (x + 42) (.inl (ct 0, 1500, .inl f)) = mkM ct x g (up2 A 41 f) th co at_ wr no nu op pi wi he de := mkM_uk 41 (by decide) f
theorem mo_arr_a (ct : Nat → ClassId) : ∀ k, mo_arr ct k = mo_a ct k (fun _ => 0)
  | 0 => rfl
  | 1 => rfl
  | 2 => rfl
  | 3 => rfl
  | 4 => rfl
  | 5 => rfl
  | 6 => rfl
  | 7 => rfl
  | 8 => rfl
  | 9 => rfl
  | 10 => rfl
  | 11 => rfl
  | 12 => rfl
  | 13 => rfl
  | 14 => rfl
  | 15 => rfl
  | 16 => rfl
  | 17 => rfl
  | 18 => rfl
  | 19 => rfl
  | 20 => rfl
  | 21 => rfl
  | 22 => rfl
  | 23 => rfl
  | 24 => rfl
  | 25 => rfl
  | 26 => rfl
  | 27 => rfl
  | 28 => rfl
  | 29 => rfl
  | 30 => rfl
  | 31 => rfl
  | 32 => rfl
  | 33 => rfl
  | 34 => rfl
  | 35 => rfl
  | 36 => rfl
  | 37 => rfl
  | 38 => rfl
  | 39 => rfl
  | 40 => rfl
  | k + 41 => rfl
/-- the new object is one of these -/
theorem mo_1_mk (ct : Nat → ClassId) (x : Nat) (h : fh_H) : mo_1 ct x h = mkM ct x h (fun _ _ => 0) 0 0 0 0 0 0 0 0 0 0 0 := by
  funext q
  unfold mo_1 mkM
  by_cases h1 : q = x
  · rw [if_pos h1, if_pos h1]; rfl
  · rw [if_neg h1, if_neg h1]
    by_cases h2 : x + 1 ≤ q ∧ q < x + 43
    · rw [if_pos h2, if_pos h2]
      generalize q - x - 1 = k
      rw [mo_arr_a]
    · rw [if_neg h2, if_neg h2]
