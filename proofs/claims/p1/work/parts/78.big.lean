/-! The whole heap of the law as one function. Printed by wip/whole/gen/p78.py -/
/-- the FormulaSetter at B, its text, the Reader's two arrays; all else is g -/
def fsB (ct : Nat → ClassId) (B : Nat) (le w hh d : Int32) (f : Nat → Int32) (g : fh_H) : fh_H := fun q => if q = B then some (fs_o B le w hh d) else if q = B + 1 then some (.inl (ct 1, 160, .inl f)) else if q = B + 3 then some (.inl (ct 4, 60, fh_q (rd_F (B + 4) 60))) else if q = B + 64 then some (.inl (ct 5, 161, fh_q (rd_F (B + 65) 161))) else g q
def ouB (ct : Nat → ClassId) (B : Nat) (fo : Nat → Int64) : fh_H := fun q => if q = B + 276 then some (.inl (ct 2, 1, .inr (.inl fo))) else none
def bigH (ct : Nat → ClassId) (kA aA : Nat → Nat) (B : Nat) (le w hh d : Int32) (f : Nat → Int32) (cnt : Int32) (F W0 H0 D0 : Nat → Int32) (rows cols : Int32) (nc lc : Int32) (tx : Value) (len at_ : Int32) (C : Nat → Nat → Int32) (R : Nat → Nat → Option Nat) (CL : Nat → Nat → Int32) (RL : Nat → Nat → Option Nat) (A : Nat → Nat → Int32) (th co at2 wr no nu op pi wi he de : Int32) (fo : Nat → Int64) : fh_H := mkR B kA aA (mkG ct B (fsB ct B le w hh d f (mkM ct (B + 233) (ouB ct B fo) A th co at2 wr no nu op pi wi he de)) cnt F W0 H0 D0 rows cols) nc lc tx len at_ C R CL RL
/-- the same, seen from the reference -/
def bigG (ct : Nat → ClassId) (kA aA : Nat → Nat) (B : Nat) (le w hh d : Int32) (f : Nat → Int32) (cnt : Int32) (F W0 H0 D0 : Nat → Int32) (rows cols : Int32) (nc lc : Int32) (tx : Value) (len at_ : Int32) (C : Nat → Nat → Int32) (R : Nat → Nat → Option Nat) (CL : Nat → Nat → Int32) (RL : Nat → Nat → Option Nat) (fo : Nat → Int64) : fh_H := mkR B kA aA (mkG ct B (fsB ct B le w hh d f (ouB ct B fo)) cnt F W0 H0 D0 rows cols) nc lc tx len at_ C R CL RL
theorem fsB_x {ct : Nat → ClassId} {B : Nat} {le w hh d : Int32} {f : Nat → Int32} {g : fh_H} : fsB ct B le w hh d f g B = some (fs_o B le w hh d) := if_pos rfl
theorem fsB_1 {ct : Nat → ClassId} {B : Nat} {le w hh d : Int32} {f : Nat → Int32} {g : fh_H} : fsB ct B le w hh d f g (B + 1) = some (.inl (ct 1, 160, .inl f)) := by unfold fsB; rw [if_neg (by omega), if_pos rfl]
theorem fsB_3 {ct : Nat → ClassId} {B : Nat} {le w hh d : Int32} {f : Nat → Int32} {g : fh_H} : fsB ct B le w hh d f g (B + 3) = some (.inl (ct 4, 60, fh_q (rd_F (B + 4) 60))) := by unfold fsB; rw [if_neg (by omega), if_neg (by omega), if_pos rfl]
theorem fsB_6 {ct : Nat → ClassId} {B : Nat} {le w hh d : Int32} {f : Nat → Int32} {g : fh_H} : fsB ct B le w hh d f g (B + 64) = some (.inl (ct 5, 161, fh_q (rd_F (B + 65) 161))) := by unfold fsB; rw [if_neg (by omega), if_neg (by omega), if_neg (by omega), if_pos rfl]
theorem fsB_g {ct : Nat → ClassId} {B : Nat} {le w hh d : Int32} {f : Nat → Int32} {g : fh_H} {q : Nat} (h : B + 65 ≤ q) : fsB ct B le w hh d f g q = g q := by unfold fsB; rw [if_neg (by omega), if_neg (by omega), if_neg (by omega), if_neg (by omega)]
theorem fsB_ux {ct : Nat → ClassId} {B : Nat} {le w hh d : Int32} {f : Nat → Int32} {g : fh_H} {le' w' hh' d' : Int32} : fh_up (fsB ct B le w hh d f g) B (fs_o B le' w' hh' d') = fsB ct B le' w' hh' d' f g := by
  funext q
  by_cases h1 : q = B
  · subst h1; rw [fh_up_same, fsB_x]
  · rw [fh_up_ne h1]; unfold fsB; rw [if_neg h1, if_neg h1]
theorem fsB_u1 {ct : Nat → ClassId} {B : Nat} {le w hh d : Int32} {f : Nat → Int32} {g : fh_H} {f' : Nat → Int32} : fh_up (fsB ct B le w hh d f g) (B + 1) (.inl (ct 1, 160, .inl f')) = fsB ct B le w hh d f' g := by
  funext q
  by_cases h1 : q = B + 1
  · subst h1; rw [fh_up_same, fsB_1]
  · rw [fh_up_ne h1]; unfold fsB; simp only [if_neg h1]
theorem fsB_up {ct : Nat → ClassId} {B : Nat} {le w hh d : Int32} {f : Nat → Int32} {g : fh_H} {q : Nat} {e : va_E} (h : B + 65 ≤ q) : fh_up (fsB ct B le w hh d f g) q e = fsB ct B le w hh d f (fh_up g q e) := by
  funext z
  by_cases h1 : z = q
  · subst h1; rw [fh_up_same, fsB_g h, fh_up_same]
  · rw [fh_up_ne h1]; unfold fsB; rw [fh_up_ne h1]
theorem big_M {ct : Nat → ClassId} {kA aA : Nat → Nat} {B : Nat} {le w hh d : Int32} {f : Nat → Int32} {cnt : Int32} {F W0 H0 D0 : Nat → Int32} {rows cols : Int32} {nc lc : Int32} {tx : Value} {len at_ : Int32} {C : Nat → Nat → Int32} {R : Nat → Nat → Option Nat} {CL : Nat → Nat → Int32} {RL : Nat → Nat → Option Nat} {A : Nat → Nat → Int32} {th co at2 wr no nu op pi wi he de : Int32} {fo : Nat → Int64} : bigH ct kA aA B le w hh d f cnt F W0 H0 D0 rows cols nc lc tx len at_ C R CL RL A th co at2 wr no nu op pi wi he de fo = mkM ct (B + 233) (bigG ct kA aA B le w hh d f cnt F W0 H0 D0 rows cols nc lc tx len at_ C R CL RL fo) A th co at2 wr no nu op pi wi he de := by
  funext q
  by_cases hq : B + 233 ≤ q ∧ q < B + 276
  · unfold bigH
    rw [mkR_g (by omega) (by omega) (by omega), mkG_g (by omega), fsB_g (by omega)]
    unfold mkM
    by_cases h1 : q = B + 233
    · rw [if_pos h1, if_pos h1]
    · rw [if_neg h1, if_neg h1, if_pos (by omega), if_pos (by omega)]
  · rw [mkM_g (by omega)]
    unfold bigH bigG mkR mkG fsB
    rw [mkM_g (by omega)]
theorem big_x {ct : Nat → ClassId} {kA aA : Nat → Nat} {B : Nat} {le w hh d : Int32} {f : Nat → Int32} {cnt : Int32} {F W0 H0 D0 : Nat → Int32} {rows cols : Int32} {nc lc : Int32} {tx : Value} {len at_ : Int32} {C : Nat → Nat → Int32} {R : Nat → Nat → Option Nat} {CL : Nat → Nat → Int32} {RL : Nat → Nat → Option Nat} {A : Nat → Nat → Int32} {th co at2 wr no nu op pi wi he de : Int32} {fo : Nat → Int64} : bigH ct kA aA B le w hh d f cnt F W0 H0 D0 rows cols nc lc tx len at_ C R CL RL A th co at2 wr no nu op pi wi he de fo B = some (fs_o B le w hh d) := by unfold bigH; rw [mkR_g (by omega) (by omega) (by omega), mkG_g (by omega)]; exact fsB_x
theorem big_1 {ct : Nat → ClassId} {kA aA : Nat → Nat} {B : Nat} {le w hh d : Int32} {f : Nat → Int32} {cnt : Int32} {F W0 H0 D0 : Nat → Int32} {rows cols : Int32} {nc lc : Int32} {tx : Value} {len at_ : Int32} {C : Nat → Nat → Int32} {R : Nat → Nat → Option Nat} {CL : Nat → Nat → Int32} {RL : Nat → Nat → Option Nat} {A : Nat → Nat → Int32} {th co at2 wr no nu op pi wi he de : Int32} {fo : Nat → Int64} : bigH ct kA aA B le w hh d f cnt F W0 H0 D0 rows cols nc lc tx len at_ C R CL RL A th co at2 wr no nu op pi wi he de fo (B + 1) = some (.inl (ct 1, 160, .inl f)) := by unfold bigH; rw [mkR_g (by omega) (by omega) (by omega), mkG_g (by omega)]; exact fsB_1
theorem big_ts {ct : Nat → ClassId} {kA aA : Nat → Nat} {B : Nat} {le w hh d : Int32} {f : Nat → Int32} {cnt : Int32} {F W0 H0 D0 : Nat → Int32} {rows cols : Int32} {nc lc : Int32} {tx : Value} {len at_ : Int32} {C : Nat → Nat → Int32} {R : Nat → Nat → Option Nat} {CL : Nat → Nat → Int32} {RL : Nat → Nat → Option Nat} {A : Nat → Nat → Int32} {th co at2 wr no nu op pi wi he de : Int32} {fo : Nat → Int64} : bigH ct kA aA B le w hh d f cnt F W0 H0 D0 rows cols nc lc tx len at_ C R CL RL A th co at2 wr no nu op pi wi he de fo (B + 226) = some (.inr (4, [.ref (B + 227), .ref (B + 229)])) := by unfold bigH; rw [mkR_g (by omega) (by omega) (by omega)]; exact mkG_ts
theorem big_sh {ct : Nat → ClassId} {kA aA : Nat → Nat} {B : Nat} {le w hh d : Int32} {f : Nat → Int32} {cnt : Int32} {F W0 H0 D0 : Nat → Int32} {rows cols : Int32} {nc lc : Int32} {tx : Value} {len at_ : Int32} {C : Nat → Nat → Int32} {R : Nat → Nat → Option Nat} {CL : Nat → Nat → Int32} {RL : Nat → Nat → Option Nat} {A : Nat → Nat → Int32} {th co at2 wr no nu op pi wi he de : Int32} {fo : Nat → Int64} : bigH ct kA aA B le w hh d f cnt F W0 H0 D0 rows cols nc lc tx len at_ C R CL RL A th co at2 wr no nu op pi wi he de fo (B + 227) = some (.inr (5, [.ref (B + 228), .int cnt])) := by unfold bigH; rw [mkR_g (by omega) (by omega) (by omega)]; exact mkG_sh
theorem big_fa {ct : Nat → ClassId} {kA aA : Nat → Nat} {B : Nat} {le w hh d : Int32} {f : Nat → Int32} {cnt : Int32} {F W0 H0 D0 : Nat → Int32} {rows cols : Int32} {nc lc : Int32} {tx : Value} {len at_ : Int32} {C : Nat → Nat → Int32} {R : Nat → Nat → Option Nat} {CL : Nat → Nat → Int32} {RL : Nat → Nat → Option Nat} {A : Nat → Nat → Int32} {th co at2 wr no nu op pi wi he de : Int32} {fo : Nat → Int64} : bigH ct kA aA B le w hh d f cnt F W0 H0 D0 rows cols nc lc tx len at_ C R CL RL A th co at2 wr no nu op pi wi he de fo (B + 228) = some (.inl (ct 0, 720, .inl F)) := by unfold bigH; rw [mkR_g (by omega) (by omega) (by omega)]; exact mkG_fa
theorem big_y {ct : Nat → ClassId} {kA aA : Nat → Nat} {B : Nat} {le w hh d : Int32} {f : Nat → Int32} {cnt : Int32} {F W0 H0 D0 : Nat → Int32} {rows cols : Int32} {nc lc : Int32} {tx : Value} {len at_ : Int32} {C : Nat → Nat → Int32} {R : Nat → Nat → Option Nat} {CL : Nat → Nat → Int32} {RL : Nat → Nat → Option Nat} {A : Nat → Nat → Int32} {th co at2 wr no nu op pi wi he de : Int32} {fo : Nat → Int64} : bigH ct kA aA B le w hh d f cnt F W0 H0 D0 rows cols nc lc tx len at_ C R CL RL A th co at2 wr no nu op pi wi he de fo (B + 233) = some (mo_s (B + 233) th co at2 wr no nu op pi wi he de) := by rw [big_M]; exact mkM_o
theorem big_y1 {ct : Nat → ClassId} {kA aA : Nat → Nat} {B : Nat} {le w hh d : Int32} {f : Nat → Int32} {cnt : Int32} {F W0 H0 D0 : Nat → Int32} {rows cols : Int32} {nc lc : Int32} {tx : Value} {len at_ : Int32} {C : Nat → Nat → Int32} {R : Nat → Nat → Option Nat} {CL : Nat → Nat → Int32} {RL : Nat → Nat → Option Nat} {A : Nat → Nat → Int32} {th co at2 wr no nu op pi wi he de : Int32} {fo : Nat → Int64} : bigH ct kA aA B le w hh d f cnt F W0 H0 D0 rows cols nc lc tx len at_ C R CL RL A th co at2 wr no nu op pi wi he de fo (B + 234) = some (.inl (ct 0, 160, .inl (A 0))) := by rw [big_M]; exact mkM_a0
theorem big_o {ct : Nat → ClassId} {kA aA : Nat → Nat} {B : Nat} {le w hh d : Int32} {f : Nat → Int32} {cnt : Int32} {F W0 H0 D0 : Nat → Int32} {rows cols : Int32} {nc lc : Int32} {tx : Value} {len at_ : Int32} {C : Nat → Nat → Int32} {R : Nat → Nat → Option Nat} {CL : Nat → Nat → Int32} {RL : Nat → Nat → Option Nat} {A : Nat → Nat → Int32} {th co at2 wr no nu op pi wi he de : Int32} {fo : Nat → Int64} : bigH ct kA aA B le w hh d f cnt F W0 H0 D0 rows cols nc lc tx len at_ C R CL RL A th co at2 wr no nu op pi wi he de fo (B + 276) = some (.inl (ct 2, 1, .inr (.inl fo))) := by unfold bigH; rw [mkR_g (by omega) (by omega) (by omega), mkG_g (by omega), fsB_g (by omega), mkM_g (by omega)]; exact if_pos rfl
theorem big_ux {ct : Nat → ClassId} {kA aA : Nat → Nat} {B : Nat} {le w hh d : Int32} {f : Nat → Int32} {cnt : Int32} {F W0 H0 D0 : Nat → Int32} {rows cols : Int32} {nc lc : Int32} {tx : Value} {len at_ : Int32} {C : Nat → Nat → Int32} {R : Nat → Nat → Option Nat} {CL : Nat → Nat → Int32} {RL : Nat → Nat → Option Nat} {A : Nat → Nat → Int32} {th co at2 wr no nu op pi wi he de : Int32} {fo : Nat → Int64} {le' w' hh' d' : Int32} : fh_up (bigH ct kA aA B le w hh d f cnt F W0 H0 D0 rows cols nc lc tx len at_ C R CL RL A th co at2 wr no nu op pi wi he de fo) B (fs_o B le' w' hh' d') = bigH ct kA aA B le' w' hh' d' f cnt F W0 H0 D0 rows cols nc lc tx len at_ C R CL RL A th co at2 wr no nu op pi wi he de fo := by
  unfold bigH
  rw [mkR_up (by omega) (by omega) (by omega), mkG_up (by omega), fsB_ux]
theorem big_u1 {ct : Nat → ClassId} {kA aA : Nat → Nat} {B : Nat} {le w hh d : Int32} {f : Nat → Int32} {cnt : Int32} {F W0 H0 D0 : Nat → Int32} {rows cols : Int32} {nc lc : Int32} {tx : Value} {len at_ : Int32} {C : Nat → Nat → Int32} {R : Nat → Nat → Option Nat} {CL : Nat → Nat → Int32} {RL : Nat → Nat → Option Nat} {A : Nat → Nat → Int32} {th co at2 wr no nu op pi wi he de : Int32} {fo : Nat → Int64} {f' : Nat → Int32} : fh_up (bigH ct kA aA B le w hh d f cnt F W0 H0 D0 rows cols nc lc tx len at_ C R CL RL A th co at2 wr no nu op pi wi he de fo) (B + 1) (.inl (ct 1, 160, .inl f')) = bigH ct kA aA B le w hh d f' cnt F W0 H0 D0 rows cols nc lc tx len at_ C R CL RL A th co at2 wr no nu op pi wi he de fo := by
  unfold bigH
  rw [mkR_up (by omega) (by omega) (by omega), mkG_up (by omega), fsB_u1]
theorem big_uy {ct : Nat → ClassId} {kA aA : Nat → Nat} {B : Nat} {le w hh d : Int32} {f : Nat → Int32} {cnt : Int32} {F W0 H0 D0 : Nat → Int32} {rows cols : Int32} {nc lc : Int32} {tx : Value} {len at_ : Int32} {C : Nat → Nat → Int32} {R : Nat → Nat → Option Nat} {CL : Nat → Nat → Int32} {RL : Nat → Nat → Option Nat} {A : Nat → Nat → Int32} {th co at2 wr no nu op pi wi he de : Int32} {fo : Nat → Int64} {th' co' at_' wr' no' nu' op' pi' wi' he' de' : Int32} : fh_up (bigH ct kA aA B le w hh d f cnt F W0 H0 D0 rows cols nc lc tx len at_ C R CL RL A th co at2 wr no nu op pi wi he de fo) (B + 233) (mo_s (B + 233) th' co' at_' wr' no' nu' op' pi' wi' he' de') = bigH ct kA aA B le w hh d f cnt F W0 H0 D0 rows cols nc lc tx len at_ C R CL RL A th' co' at_' wr' no' nu' op' pi' wi' he' de' fo := by
  unfold bigH
  rw [mkR_up (by omega) (by omega) (by omega), mkG_up (by omega), fsB_up (by omega), mkM_ux]
theorem big_uy1 {ct : Nat → ClassId} {kA aA : Nat → Nat} {B : Nat} {le w hh d : Int32} {f : Nat → Int32} {cnt : Int32} {F W0 H0 D0 : Nat → Int32} {rows cols : Int32} {nc lc : Int32} {tx : Value} {len at_ : Int32} {C : Nat → Nat → Int32} {R : Nat → Nat → Option Nat} {CL : Nat → Nat → Int32} {RL : Nat → Nat → Option Nat} {A : Nat → Nat → Int32} {th co at2 wr no nu op pi wi he de : Int32} {fo : Nat → Int64} {f' : Nat → Int32} : fh_up (bigH ct kA aA B le w hh d f cnt F W0 H0 D0 rows cols nc lc tx len at_ C R CL RL A th co at2 wr no nu op pi wi he de fo) (B + 234) (.inl (ct 0, 160, .inl f')) = bigH ct kA aA B le w hh d f cnt F W0 H0 D0 rows cols nc lc tx len at_ C R CL RL (up2 A 0 f') th co at2 wr no nu op pi wi he de fo := by
  unfold bigH
  rw [mkR_up (by omega) (by omega) (by omega), mkG_up (by omega), fsB_up (by omega)]
  rw [show B + 234 = B + 233 + 1 from rfl, mkM_u0]
theorem ouB_u {ct : Nat → ClassId} {B : Nat} {fo fo' : Nat → Int64} : fh_up (ouB ct B fo) (B + 276) (.inl (ct 2, 1, .inr (.inl fo'))) = ouB ct B fo' := by
  funext q
  by_cases h1 : q = B + 276
  · subst h1; rw [fh_up_same]; exact (if_pos rfl).symm
  · rw [fh_up_ne h1]; unfold ouB; rw [if_neg h1, if_neg h1]
theorem mkM_up {ct : Nat → ClassId} {x : Nat} {g : fh_H} {A : Nat → Nat → Int32} {th co at2 wr no nu op pi wi he de : Int32} {q : Nat} {e : va_E} (h : q < x ∨ x + 43 ≤ q) : fh_up (mkM ct x g A th co at2 wr no nu op pi wi he de) q e = mkM ct x (fh_up g q e) A th co at2 wr no nu op pi wi he de := by
  funext z
  by_cases h1 : z = q
  · subst h1; rw [fh_up_same, mkM_g h, fh_up_same]
  · rw [fh_up_ne h1]; unfold mkM; rw [fh_up_ne h1]
theorem big_uo {ct : Nat → ClassId} {kA aA : Nat → Nat} {B : Nat} {le w hh d : Int32} {f : Nat → Int32} {cnt : Int32} {F W0 H0 D0 : Nat → Int32} {rows cols : Int32} {nc lc : Int32} {tx : Value} {len at_ : Int32} {C : Nat → Nat → Int32} {R : Nat → Nat → Option Nat} {CL : Nat → Nat → Int32} {RL : Nat → Nat → Option Nat} {A : Nat → Nat → Int32} {th co at2 wr no nu op pi wi he de : Int32} {fo : Nat → Int64} {fo' : Nat → Int64} : fh_up (bigH ct kA aA B le w hh d f cnt F W0 H0 D0 rows cols nc lc tx len at_ C R CL RL A th co at2 wr no nu op pi wi he de fo) (B + 276) (.inl (ct 2, 1, .inr (.inl fo'))) = bigH ct kA aA B le w hh d f cnt F W0 H0 D0 rows cols nc lc tx len at_ C R CL RL A th co at2 wr no nu op pi wi he de fo' := by
  unfold bigH
  rw [mkR_up (by omega) (by omega) (by omega), mkG_up (by omega), fsB_up (by omega), mkM_up (by omega), ouB_u]
theorem law_h0_big (ct : Nat → ClassId) (kA aA : Nat → Nat) (B : Nat) : law_h0 ct B = bigH ct kA aA B 0 0 0 0 (fun _ => (0 : Int32)) 0 (fun _ => (0 : Int32)) (fun _ => (0 : Int32)) (fun _ => (0 : Int32)) (fun _ => (0 : Int32)) 0 0 0 0 .null 0 0 (fun _ _ => 0) (fun _ _ => none) (fun _ _ => 0) (fun _ _ => none) (fun _ _ => 0) 0 0 0 0 0 0 0 0 0 0 0 (fun _ => 0) := by
  unfold law_h0
  rw [mo_1_mk]
  funext q
  by_cases ho : q = B + 276
  · subst ho; rw [fh_up_same, big_o]
  · rw [fh_up_ne ho]
    by_cases hm : B + 233 ≤ q ∧ q < B + 276
    · rw [big_M]
      unfold mkM
      by_cases h1 : q = B + 233
      · rw [if_pos h1, if_pos h1]
      · rw [if_neg h1, if_neg h1, if_pos (by omega), if_pos (by omega)]
    · rw [mkM_g (by omega), fh_up_ne (by omega), fs_1_mk ct B kA aA, fs_1_mkG]
      unfold bigH mkR
      by_cases h2 : q = B + 2
      · rw [if_pos h2, if_pos h2]
      rw [if_neg h2, if_neg h2]
      by_cases h4 : B + 4 ≤ q ∧ q < B + 64
      · rw [if_pos h4, if_pos h4]
      rw [if_neg h4, if_neg h4]
      by_cases h5 : B + 65 ≤ q ∧ q < B + 226
      · rw [if_pos h5, if_pos h5]
      rw [if_neg h5, if_neg h5]
      by_cases h6 : B + 226 ≤ q ∧ q < B + 233
      · unfold mkG
        by_cases g0 : q = B + 226
        · rw [if_pos g0, if_pos g0]
        by_cases g1 : q = B + 227
        · rw [if_neg g0, if_neg g0, if_pos g1, if_pos g1]
        by_cases g2 : q = B + 228
        · rw [if_neg g0, if_neg g0, if_neg g1, if_neg g1, if_pos g2, if_pos g2]
        by_cases g3 : q = B + 229
        · rw [if_neg g0, if_neg g0, if_neg g1, if_neg g1, if_neg g2, if_neg g2, if_pos g3, if_pos g3]
        by_cases g4 : q = B + 230
        · rw [if_neg g0, if_neg g0, if_neg g1, if_neg g1, if_neg g2, if_neg g2, if_neg g3, if_neg g3, if_pos g4, if_pos g4]
        by_cases g5 : q = B + 231
        · rw [if_neg g0, if_neg g0, if_neg g1, if_neg g1, if_neg g2, if_neg g2, if_neg g3, if_neg g3, if_neg g4, if_neg g4, if_pos g5, if_pos g5]
        rw [if_neg g0, if_neg g0, if_neg g1, if_neg g1, if_neg g2, if_neg g2, if_neg g3, if_neg g3, if_neg g4, if_neg g4, if_neg g5, if_neg g5, if_pos (by omega), if_pos (by omega)]
      · rw [mkG_g h6, mkG_g h6]
        by_cases e0 : q = B
        · subst e0; rw [fsB_x]; exact if_pos rfl
        by_cases e1 : q = B + 1
        · subst e1; rw [fsB_1]; unfold fs_1; rw [if_neg (by omega), if_pos rfl]
        by_cases e3 : q = B + 3
        · subst e3; rw [fsB_3]; unfold fs_1 rd_2 rd_1; rw [if_neg (by omega), if_neg (by omega), if_pos (by omega), if_neg (by omega), if_neg (by omega), if_neg (by omega), if_neg (by omega), if_pos (by omega)]
        by_cases e6 : q = B + 64
        · subst e6; rw [fsB_6]; unfold fs_1 rd_2; rw [if_neg (by omega), if_neg (by omega), if_pos (by omega), if_neg (by omega), if_pos (by omega)]
        unfold fsB
        rw [if_neg e0, if_neg e1, if_neg e3, if_neg e6, mkM_g (by omega)]
        unfold fs_1 ouB
        rw [if_neg e0, if_neg e1, if_neg (by omega), if_neg (by omega), if_neg ho]
        exact fh_up_ne e0
