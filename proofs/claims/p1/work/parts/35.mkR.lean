/-! The Reader's memory as one function of tables. Printed by wip/whole/gen/p35.py -/
/-- a nucleus: numbers c, references r (a kind, a class, nuclei and lines by their places) -/
def nuV (x : Nat) (kA aA : Nat → Nat) (c : Nat → Int32) (r : Nat → Option Nat) : List Value := [.int (c 0), .int (c 1), .int (c 2), .int (c 3), .int (c 4), va_rf ((r 5).map kA), va_rf ((r 6).map aA), .int (c 7), .int (c 8), va_rf ((r 9).map (fun z => x + 4 + z)), va_rf ((r 10).map (fun z => x + 4 + z)), va_rf ((r 11).map (fun z => x + 65 + z)), va_rf ((r 12).map (fun z => x + 4 + z)), va_rf ((r 13).map (fun z => x + 4 + z)), va_rf ((r 14).map (fun z => x + 4 + z))]
def liV (x : Nat) (c : Nat → Int32) (r : Nat → Option Nat) : List Value := [.int (c 0), .int (c 1), .int (c 2), .int (c 3), .int (c 4), va_rf ((r 5).map (fun z => x + 4 + z)), .int (c 6), .int (c 7), va_rf ((r 8).map (fun z => x + 65 + z))]
abbrev rdV (x : Nat) (nc lc : Int32) (tx : Value) (len at_ : Int32) : va_E := .inr (1, [.ref (x + 3), .ref (x + 64), .int nc, .int lc, tx, .int len, .int at_])
/-- the Reader of the FormulaSetter at x, its nuclei and its lines; all else is g -/
def mkR (x : Nat) (kA aA : Nat → Nat) (g : fh_H) (nc lc : Int32) (tx : Value) (len at_ : Int32) (C : Nat → Nat → Int32) (R : Nat → Nat → Option Nat) (CL : Nat → Nat → Int32) (RL : Nat → Nat → Option Nat) : fh_H := fun q => if q = x + 2 then some (rdV x nc lc tx len at_) else if x + 4 ≤ q ∧ q < x + 64 then some (.inr (2, nuV x kA aA (C (q - x - 4)) (R (q - x - 4)))) else if x + 65 ≤ q ∧ q < x + 226 then some (.inr (3, liV x (CL (q - x - 65)) (RL (q - x - 65)))) else g q
theorem mkR_rd {x : Nat} {kA aA : Nat → Nat} {g : fh_H} {nc lc : Int32} {tx : Value} {len at_ : Int32} {C : Nat → Nat → Int32} {R : Nat → Nat → Option Nat} {CL : Nat → Nat → Int32} {RL : Nat → Nat → Option Nat} : mkR x kA aA g nc lc tx len at_ C R CL RL (x + 2) = some (rdV x nc lc tx len at_) := if_pos rfl
theorem mkR_nu {x : Nat} {kA aA : Nat → Nat} {g : fh_H} {nc lc : Int32} {tx : Value} {len at_ : Int32} {C : Nat → Nat → Int32} {R : Nat → Nat → Option Nat} {CL : Nat → Nat → Int32} {RL : Nat → Nat → Option Nat} {i : Nat} (hi : i < 60) : mkR x kA aA g nc lc tx len at_ C R CL RL (x + 4 + i) = some (.inr (2, nuV x kA aA (C i) (R i))) := by
  unfold mkR
  rw [if_neg (by omega), if_pos (by omega), show x + 4 + i - x - 4 = i by omega]
theorem mkR_li {x : Nat} {kA aA : Nat → Nat} {g : fh_H} {nc lc : Int32} {tx : Value} {len at_ : Int32} {C : Nat → Nat → Int32} {R : Nat → Nat → Option Nat} {CL : Nat → Nat → Int32} {RL : Nat → Nat → Option Nat} {i : Nat} (hi : i < 161) : mkR x kA aA g nc lc tx len at_ C R CL RL (x + 65 + i) = some (.inr (3, liV x (CL i) (RL i))) := by
  unfold mkR
  rw [if_neg (by omega), if_neg (by omega), if_pos (by omega), show x + 65 + i - x - 65 = i by omega]
theorem mkR_g {x : Nat} {kA aA : Nat → Nat} {g : fh_H} {nc lc : Int32} {tx : Value} {len at_ : Int32} {C : Nat → Nat → Int32} {R : Nat → Nat → Option Nat} {CL : Nat → Nat → Int32} {RL : Nat → Nat → Option Nat} {q : Nat} (h1 : q ≠ x + 2) (h2 : ¬ (x + 4 ≤ q ∧ q < x + 64)) (h3 : ¬ (x + 65 ≤ q ∧ q < x + 226)) : mkR x kA aA g nc lc tx len at_ C R CL RL q = g q := by
  unfold mkR
  rw [if_neg h1, if_neg h2, if_neg h3]
theorem mkR_urd {x : Nat} {kA aA : Nat → Nat} {g : fh_H} {nc lc : Int32} {tx : Value} {len at_ : Int32} {C : Nat → Nat → Int32} {R : Nat → Nat → Option Nat} {CL : Nat → Nat → Int32} {RL : Nat → Nat → Option Nat} {nc' lc' : Int32} {tx' : Value} {len' at' : Int32} : fh_up (mkR x kA aA g nc lc tx len at_ C R CL RL) (x + 2) (rdV x nc' lc' tx' len' at') = mkR x kA aA g nc' lc' tx' len' at' C R CL RL := by
  funext q
  by_cases h1 : q = x + 2
  · subst h1; rw [fh_up_same, mkR_rd]
  · rw [fh_up_ne h1]; unfold mkR; rw [if_neg h1, if_neg h1]
def upT {α : Type} (T : Nat → Nat → α) (i : Nat) (f : Nat → α) : Nat → Nat → α := fun j => if j = i then f else T j
def up1 {α : Type} (f : Nat → α) (k : Nat) (v : α) : Nat → α := fun j => if j = k then v else f j
theorem upT_same {α : Type} {T : Nat → Nat → α} {i : Nat} {f : Nat → α} : upT T i f i = f := if_pos rfl
theorem upT_ne {α : Type} {T : Nat → Nat → α} {i j : Nat} {f : Nat → α} (h : j ≠ i) : upT T i f j = T j := if_neg h
theorem upT_id {α : Type} {T : Nat → Nat → α} {i : Nat} : upT T i (T i) = T := by
  funext j
  by_cases h : j = i
  · subst h; rw [upT_same]
  · rw [upT_ne h]
theorem upT_up {α : Type} {T : Nat → Nat → α} {i : Nat} {f g : Nat → α} : upT (upT T i f) i g = upT T i g := by
  funext j
  by_cases h : j = i
  · subst h; rw [upT_same, upT_same]
  · rw [upT_ne h, upT_ne h, upT_ne h]
theorem mkR_unu {x : Nat} {kA aA : Nat → Nat} {g : fh_H} {nc lc : Int32} {tx : Value} {len at_ : Int32} {C : Nat → Nat → Int32} {R : Nat → Nat → Option Nat} {CL : Nat → Nat → Int32} {RL : Nat → Nat → Option Nat} {i : Nat} (hi : i < 60) {c : Nat → Int32} {r : Nat → Option Nat} : fh_up (mkR x kA aA g nc lc tx len at_ C R CL RL) (x + 4 + i) (.inr (2, nuV x kA aA c r)) = mkR x kA aA g nc lc tx len at_ (upT C i c) (upT R i r) CL RL := by
  funext q
  by_cases h1 : q = x + 4 + i
  · subst h1; rw [fh_up_same, mkR_nu hi, upT_same, upT_same]
  · rw [fh_up_ne h1]; unfold mkR
    by_cases h2 : q = x + 2
    · rw [if_pos h2, if_pos h2]
    · rw [if_neg h2, if_neg h2]
      by_cases h3 : x + 4 ≤ q ∧ q < x + 64
      · rw [if_pos h3, if_pos h3, upT_ne (by omega), upT_ne (by omega)]
      · rw [if_neg h3, if_neg h3]
theorem mkR_uli {x : Nat} {kA aA : Nat → Nat} {g : fh_H} {nc lc : Int32} {tx : Value} {len at_ : Int32} {C : Nat → Nat → Int32} {R : Nat → Nat → Option Nat} {CL : Nat → Nat → Int32} {RL : Nat → Nat → Option Nat} {i : Nat} (hi : i < 161) {c : Nat → Int32} {r : Nat → Option Nat} : fh_up (mkR x kA aA g nc lc tx len at_ C R CL RL) (x + 65 + i) (.inr (3, liV x c r)) = mkR x kA aA g nc lc tx len at_ C R (upT CL i c) (upT RL i r) := by
  funext q
  by_cases h1 : q = x + 65 + i
  · subst h1; rw [fh_up_same, mkR_li hi, upT_same, upT_same]
  · rw [fh_up_ne h1]; unfold mkR
    by_cases h2 : q = x + 2
    · rw [if_pos h2, if_pos h2]
    · rw [if_neg h2, if_neg h2]
      by_cases h3 : x + 4 ≤ q ∧ q < x + 64
      · rw [if_pos h3, if_pos h3]
      · rw [if_neg h3, if_neg h3]
        by_cases h4 : x + 65 ≤ q ∧ q < x + 226
        · rw [if_pos h4, if_pos h4, upT_ne (by omega), upT_ne (by omega)]
        · rw [if_neg h4, if_neg h4]
/-- what a new FormulaSetter's Reader holds -/
theorem fs_1_mk (ct : Nat → ClassId) (x : Nat) (kA aA : Nat → Nat) (h : fh_H) : fs_1 ct x h = mkR x kA aA (fs_1 ct x h) 0 0 .null 0 0 (fun _ _ => 0) (fun _ _ => none) (fun _ _ => 0) (fun _ _ => none) := by
  funext q
  unfold mkR
  by_cases h1 : q = x + 2
  · subst h1
    rw [if_pos rfl]
    unfold fs_1
    rw [if_neg (by omega), if_neg (by omega), if_pos (by omega)]
    unfold rd_2
    rw [if_pos rfl]
  · rw [if_neg h1]
    by_cases h2 : x + 4 ≤ q ∧ q < x + 64
    · rw [if_pos h2]
      unfold fs_1
      rw [if_neg (by omega), if_neg (by omega), if_pos (by omega)]
      unfold rd_2
      rw [if_neg (by omega), if_neg (by omega), if_neg (by omega)]
      unfold rd_1
      rw [if_neg (by omega), if_neg (by omega), if_pos (by omega)]
      rfl
    · rw [if_neg h2]
      by_cases h3 : x + 65 ≤ q ∧ q < x + 226
      · rw [if_pos h3]
        unfold fs_1
        rw [if_neg (by omega), if_neg (by omega), if_pos (by omega)]
        unfold rd_2
        rw [if_neg (by omega), if_neg (by omega), if_pos (by omega)]
        rfl
      · rw [if_neg h3]
