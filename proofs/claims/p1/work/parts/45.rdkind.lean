/-! Tables written; Atom.ofCharacter, Kind.atom, takeCommand. Printed by wip/whole/gen/p45.py -/
/-- a table with one cell written -/
def sT {α : Type} (T : Nat → Nat → α) (i k : Nat) (v : α) : Nat → Nat → α := upT T i (up1 (T i) k v)
theorem sT_same {α : Type} {T : Nat → Nat → α} {i k : Nat} {v : α} : sT T i k v i k = v := by
  unfold sT; rw [upT_same]; exact if_pos rfl
theorem sT_ne {α : Type} {T : Nat → Nat → α} {i k j q : Nat} {v : α} (h : ¬ (j = i ∧ q = k)) : sT T i k v j q = T j q := by
  unfold sT
  by_cases e : j = i
  · subst e; rw [upT_same]; exact if_neg fun z => h ⟨rfl, z⟩
  · rw [upT_ne e]
theorem mkR_nu0 {x : Nat} {kA aA : Nat → Nat} {g : fh_H} {nc lc : Int32} {tx : Value} {len at_ : Int32} {C : Nat → Nat → Int32} {R : Nat → Nat → Option Nat} {CL : Nat → Nat → Int32} {RL : Nat → Nat → Option Nat} {i : Nat} (hi : i < 60) {v : Int32} : fh_up (mkR x kA aA g nc lc tx len at_ C R CL RL) (x + 4 + i) (.inr (2, (nuV x kA aA (C i) (R i)).set 0 (.int v))) = mkR x kA aA g nc lc tx len at_ (sT C i 0 v) R CL RL := by
  have e := mkR_unu (nc := nc) (lc := lc) (tx := tx) (len := len) (at_ := at_) (kA := kA) (aA := aA) (g := g) (x := x) (C := C) (R := R) (CL := CL) (RL := RL) hi (c := (up1 (C i) 0 v)) (r := (R i))
  rw [upT_id] at e
  exact e
theorem mkR_nu1 {x : Nat} {kA aA : Nat → Nat} {g : fh_H} {nc lc : Int32} {tx : Value} {len at_ : Int32} {C : Nat → Nat → Int32} {R : Nat → Nat → Option Nat} {CL : Nat → Nat → Int32} {RL : Nat → Nat → Option Nat} {i : Nat} (hi : i < 60) {v : Int32} : fh_up (mkR x kA aA g nc lc tx len at_ C R CL RL) (x + 4 + i) (.inr (2, (nuV x kA aA (C i) (R i)).set 1 (.int v))) = mkR x kA aA g nc lc tx len at_ (sT C i 1 v) R CL RL := by
  have e := mkR_unu (nc := nc) (lc := lc) (tx := tx) (len := len) (at_ := at_) (kA := kA) (aA := aA) (g := g) (x := x) (C := C) (R := R) (CL := CL) (RL := RL) hi (c := (up1 (C i) 1 v)) (r := (R i))
  rw [upT_id] at e
  exact e
theorem mkR_nu2 {x : Nat} {kA aA : Nat → Nat} {g : fh_H} {nc lc : Int32} {tx : Value} {len at_ : Int32} {C : Nat → Nat → Int32} {R : Nat → Nat → Option Nat} {CL : Nat → Nat → Int32} {RL : Nat → Nat → Option Nat} {i : Nat} (hi : i < 60) {v : Int32} : fh_up (mkR x kA aA g nc lc tx len at_ C R CL RL) (x + 4 + i) (.inr (2, (nuV x kA aA (C i) (R i)).set 2 (.int v))) = mkR x kA aA g nc lc tx len at_ (sT C i 2 v) R CL RL := by
  have e := mkR_unu (nc := nc) (lc := lc) (tx := tx) (len := len) (at_ := at_) (kA := kA) (aA := aA) (g := g) (x := x) (C := C) (R := R) (CL := CL) (RL := RL) hi (c := (up1 (C i) 2 v)) (r := (R i))
  rw [upT_id] at e
  exact e
theorem mkR_nu3 {x : Nat} {kA aA : Nat → Nat} {g : fh_H} {nc lc : Int32} {tx : Value} {len at_ : Int32} {C : Nat → Nat → Int32} {R : Nat → Nat → Option Nat} {CL : Nat → Nat → Int32} {RL : Nat → Nat → Option Nat} {i : Nat} (hi : i < 60) {v : Int32} : fh_up (mkR x kA aA g nc lc tx len at_ C R CL RL) (x + 4 + i) (.inr (2, (nuV x kA aA (C i) (R i)).set 3 (.int v))) = mkR x kA aA g nc lc tx len at_ (sT C i 3 v) R CL RL := by
  have e := mkR_unu (nc := nc) (lc := lc) (tx := tx) (len := len) (at_ := at_) (kA := kA) (aA := aA) (g := g) (x := x) (C := C) (R := R) (CL := CL) (RL := RL) hi (c := (up1 (C i) 3 v)) (r := (R i))
  rw [upT_id] at e
  exact e
theorem mkR_nu4 {x : Nat} {kA aA : Nat → Nat} {g : fh_H} {nc lc : Int32} {tx : Value} {len at_ : Int32} {C : Nat → Nat → Int32} {R : Nat → Nat → Option Nat} {CL : Nat → Nat → Int32} {RL : Nat → Nat → Option Nat} {i : Nat} (hi : i < 60) {v : Int32} : fh_up (mkR x kA aA g nc lc tx len at_ C R CL RL) (x + 4 + i) (.inr (2, (nuV x kA aA (C i) (R i)).set 4 (.int v))) = mkR x kA aA g nc lc tx len at_ (sT C i 4 v) R CL RL := by
  have e := mkR_unu (nc := nc) (lc := lc) (tx := tx) (len := len) (at_ := at_) (kA := kA) (aA := aA) (g := g) (x := x) (C := C) (R := R) (CL := CL) (RL := RL) hi (c := (up1 (C i) 4 v)) (r := (R i))
  rw [upT_id] at e
  exact e
theorem mkR_nu5 {x : Nat} {kA aA : Nat → Nat} {g : fh_H} {nc lc : Int32} {tx : Value} {len at_ : Int32} {C : Nat → Nat → Int32} {R : Nat → Nat → Option Nat} {CL : Nat → Nat → Int32} {RL : Nat → Nat → Option Nat} {i : Nat} (hi : i < 60) {v : Option Nat} : fh_up (mkR x kA aA g nc lc tx len at_ C R CL RL) (x + 4 + i) (.inr (2, (nuV x kA aA (C i) (R i)).set 5 (va_rf (v.map kA)))) = mkR x kA aA g nc lc tx len at_ C (sT R i 5 v) CL RL := by
  have e := mkR_unu (nc := nc) (lc := lc) (tx := tx) (len := len) (at_ := at_) (kA := kA) (aA := aA) (g := g) (x := x) (C := C) (R := R) (CL := CL) (RL := RL) hi (c := (C i)) (r := (up1 (R i) 5 v))
  rw [upT_id] at e
  exact e
theorem mkR_nu6 {x : Nat} {kA aA : Nat → Nat} {g : fh_H} {nc lc : Int32} {tx : Value} {len at_ : Int32} {C : Nat → Nat → Int32} {R : Nat → Nat → Option Nat} {CL : Nat → Nat → Int32} {RL : Nat → Nat → Option Nat} {i : Nat} (hi : i < 60) {v : Option Nat} : fh_up (mkR x kA aA g nc lc tx len at_ C R CL RL) (x + 4 + i) (.inr (2, (nuV x kA aA (C i) (R i)).set 6 (va_rf (v.map aA)))) = mkR x kA aA g nc lc tx len at_ C (sT R i 6 v) CL RL := by
  have e := mkR_unu (nc := nc) (lc := lc) (tx := tx) (len := len) (at_ := at_) (kA := kA) (aA := aA) (g := g) (x := x) (C := C) (R := R) (CL := CL) (RL := RL) hi (c := (C i)) (r := (up1 (R i) 6 v))
  rw [upT_id] at e
  exact e
theorem mkR_nu7 {x : Nat} {kA aA : Nat → Nat} {g : fh_H} {nc lc : Int32} {tx : Value} {len at_ : Int32} {C : Nat → Nat → Int32} {R : Nat → Nat → Option Nat} {CL : Nat → Nat → Int32} {RL : Nat → Nat → Option Nat} {i : Nat} (hi : i < 60) {v : Int32} : fh_up (mkR x kA aA g nc lc tx len at_ C R CL RL) (x + 4 + i) (.inr (2, (nuV x kA aA (C i) (R i)).set 7 (.int v))) = mkR x kA aA g nc lc tx len at_ (sT C i 7 v) R CL RL := by
  have e := mkR_unu (nc := nc) (lc := lc) (tx := tx) (len := len) (at_ := at_) (kA := kA) (aA := aA) (g := g) (x := x) (C := C) (R := R) (CL := CL) (RL := RL) hi (c := (up1 (C i) 7 v)) (r := (R i))
  rw [upT_id] at e
  exact e
theorem mkR_nu8 {x : Nat} {kA aA : Nat → Nat} {g : fh_H} {nc lc : Int32} {tx : Value} {len at_ : Int32} {C : Nat → Nat → Int32} {R : Nat → Nat → Option Nat} {CL : Nat → Nat → Int32} {RL : Nat → Nat → Option Nat} {i : Nat} (hi : i < 60) {v : Int32} : fh_up (mkR x kA aA g nc lc tx len at_ C R CL RL) (x + 4 + i) (.inr (2, (nuV x kA aA (C i) (R i)).set 8 (.int v))) = mkR x kA aA g nc lc tx len at_ (sT C i 8 v) R CL RL := by
  have e := mkR_unu (nc := nc) (lc := lc) (tx := tx) (len := len) (at_ := at_) (kA := kA) (aA := aA) (g := g) (x := x) (C := C) (R := R) (CL := CL) (RL := RL) hi (c := (up1 (C i) 8 v)) (r := (R i))
  rw [upT_id] at e
  exact e
theorem mkR_nu9 {x : Nat} {kA aA : Nat → Nat} {g : fh_H} {nc lc : Int32} {tx : Value} {len at_ : Int32} {C : Nat → Nat → Int32} {R : Nat → Nat → Option Nat} {CL : Nat → Nat → Int32} {RL : Nat → Nat → Option Nat} {i : Nat} (hi : i < 60) {v : Option Nat} : fh_up (mkR x kA aA g nc lc tx len at_ C R CL RL) (x + 4 + i) (.inr (2, (nuV x kA aA (C i) (R i)).set 9 (va_rf (v.map (fun z => x + 4 + z))))) = mkR x kA aA g nc lc tx len at_ C (sT R i 9 v) CL RL := by
  have e := mkR_unu (nc := nc) (lc := lc) (tx := tx) (len := len) (at_ := at_) (kA := kA) (aA := aA) (g := g) (x := x) (C := C) (R := R) (CL := CL) (RL := RL) hi (c := (C i)) (r := (up1 (R i) 9 v))
  rw [upT_id] at e
  exact e
theorem mkR_nu10 {x : Nat} {kA aA : Nat → Nat} {g : fh_H} {nc lc : Int32} {tx : Value} {len at_ : Int32} {C : Nat → Nat → Int32} {R : Nat → Nat → Option Nat} {CL : Nat → Nat → Int32} {RL : Nat → Nat → Option Nat} {i : Nat} (hi : i < 60) {v : Option Nat} : fh_up (mkR x kA aA g nc lc tx len at_ C R CL RL) (x + 4 + i) (.inr (2, (nuV x kA aA (C i) (R i)).set 10 (va_rf (v.map (fun z => x + 4 + z))))) = mkR x kA aA g nc lc tx len at_ C (sT R i 10 v) CL RL := by
  have e := mkR_unu (nc := nc) (lc := lc) (tx := tx) (len := len) (at_ := at_) (kA := kA) (aA := aA) (g := g) (x := x) (C := C) (R := R) (CL := CL) (RL := RL) hi (c := (C i)) (r := (up1 (R i) 10 v))
  rw [upT_id] at e
  exact e
theorem mkR_nu11 {x : Nat} {kA aA : Nat → Nat} {g : fh_H} {nc lc : Int32} {tx : Value} {len at_ : Int32} {C : Nat → Nat → Int32} {R : Nat → Nat → Option Nat} {CL : Nat → Nat → Int32} {RL : Nat → Nat → Option Nat} {i : Nat} (hi : i < 60) {v : Option Nat} : fh_up (mkR x kA aA g nc lc tx len at_ C R CL RL) (x + 4 + i) (.inr (2, (nuV x kA aA (C i) (R i)).set 11 (va_rf (v.map (fun z => x + 65 + z))))) = mkR x kA aA g nc lc tx len at_ C (sT R i 11 v) CL RL := by
  have e := mkR_unu (nc := nc) (lc := lc) (tx := tx) (len := len) (at_ := at_) (kA := kA) (aA := aA) (g := g) (x := x) (C := C) (R := R) (CL := CL) (RL := RL) hi (c := (C i)) (r := (up1 (R i) 11 v))
  rw [upT_id] at e
  exact e
theorem mkR_nu12 {x : Nat} {kA aA : Nat → Nat} {g : fh_H} {nc lc : Int32} {tx : Value} {len at_ : Int32} {C : Nat → Nat → Int32} {R : Nat → Nat → Option Nat} {CL : Nat → Nat → Int32} {RL : Nat → Nat → Option Nat} {i : Nat} (hi : i < 60) {v : Option Nat} : fh_up (mkR x kA aA g nc lc tx len at_ C R CL RL) (x + 4 + i) (.inr (2, (nuV x kA aA (C i) (R i)).set 12 (va_rf (v.map (fun z => x + 4 + z))))) = mkR x kA aA g nc lc tx len at_ C (sT R i 12 v) CL RL := by
  have e := mkR_unu (nc := nc) (lc := lc) (tx := tx) (len := len) (at_ := at_) (kA := kA) (aA := aA) (g := g) (x := x) (C := C) (R := R) (CL := CL) (RL := RL) hi (c := (C i)) (r := (up1 (R i) 12 v))
  rw [upT_id] at e
  exact e
theorem mkR_nu13 {x : Nat} {kA aA : Nat → Nat} {g : fh_H} {nc lc : Int32} {tx : Value} {len at_ : Int32} {C : Nat → Nat → Int32} {R : Nat → Nat → Option Nat} {CL : Nat → Nat → Int32} {RL : Nat → Nat → Option Nat} {i : Nat} (hi : i < 60) {v : Option Nat} : fh_up (mkR x kA aA g nc lc tx len at_ C R CL RL) (x + 4 + i) (.inr (2, (nuV x kA aA (C i) (R i)).set 13 (va_rf (v.map (fun z => x + 4 + z))))) = mkR x kA aA g nc lc tx len at_ C (sT R i 13 v) CL RL := by
  have e := mkR_unu (nc := nc) (lc := lc) (tx := tx) (len := len) (at_ := at_) (kA := kA) (aA := aA) (g := g) (x := x) (C := C) (R := R) (CL := CL) (RL := RL) hi (c := (C i)) (r := (up1 (R i) 13 v))
  rw [upT_id] at e
  exact e
theorem mkR_nu14 {x : Nat} {kA aA : Nat → Nat} {g : fh_H} {nc lc : Int32} {tx : Value} {len at_ : Int32} {C : Nat → Nat → Int32} {R : Nat → Nat → Option Nat} {CL : Nat → Nat → Int32} {RL : Nat → Nat → Option Nat} {i : Nat} (hi : i < 60) {v : Option Nat} : fh_up (mkR x kA aA g nc lc tx len at_ C R CL RL) (x + 4 + i) (.inr (2, (nuV x kA aA (C i) (R i)).set 14 (va_rf (v.map (fun z => x + 4 + z))))) = mkR x kA aA g nc lc tx len at_ C (sT R i 14 v) CL RL := by
  have e := mkR_unu (nc := nc) (lc := lc) (tx := tx) (len := len) (at_ := at_) (kA := kA) (aA := aA) (g := g) (x := x) (C := C) (R := R) (CL := CL) (RL := RL) hi (c := (C i)) (r := (up1 (R i) 14 v))
  rw [upT_id] at e
  exact e
theorem mkR_li0 {x : Nat} {kA aA : Nat → Nat} {g : fh_H} {nc lc : Int32} {tx : Value} {len at_ : Int32} {C : Nat → Nat → Int32} {R : Nat → Nat → Option Nat} {CL : Nat → Nat → Int32} {RL : Nat → Nat → Option Nat} {i : Nat} (hi : i < 161) {v : Int32} : fh_up (mkR x kA aA g nc lc tx len at_ C R CL RL) (x + 65 + i) (.inr (3, (liV x (CL i) (RL i)).set 0 (.int v))) = mkR x kA aA g nc lc tx len at_ C R (sT CL i 0 v) RL := by
  have e := mkR_uli (nc := nc) (lc := lc) (tx := tx) (len := len) (at_ := at_) (kA := kA) (aA := aA) (g := g) (x := x) (C := C) (R := R) (CL := CL) (RL := RL) hi (c := (up1 (CL i) 0 v)) (r := (RL i))
  rw [upT_id] at e
  exact e
theorem mkR_li1 {x : Nat} {kA aA : Nat → Nat} {g : fh_H} {nc lc : Int32} {tx : Value} {len at_ : Int32} {C : Nat → Nat → Int32} {R : Nat → Nat → Option Nat} {CL : Nat → Nat → Int32} {RL : Nat → Nat → Option Nat} {i : Nat} (hi : i < 161) {v : Int32} : fh_up (mkR x kA aA g nc lc tx len at_ C R CL RL) (x + 65 + i) (.inr (3, (liV x (CL i) (RL i)).set 1 (.int v))) = mkR x kA aA g nc lc tx len at_ C R (sT CL i 1 v) RL := by
  have e := mkR_uli (nc := nc) (lc := lc) (tx := tx) (len := len) (at_ := at_) (kA := kA) (aA := aA) (g := g) (x := x) (C := C) (R := R) (CL := CL) (RL := RL) hi (c := (up1 (CL i) 1 v)) (r := (RL i))
  rw [upT_id] at e
  exact e
theorem mkR_li2 {x : Nat} {kA aA : Nat → Nat} {g : fh_H} {nc lc : Int32} {tx : Value} {len at_ : Int32} {C : Nat → Nat → Int32} {R : Nat → Nat → Option Nat} {CL : Nat → Nat → Int32} {RL : Nat → Nat → Option Nat} {i : Nat} (hi : i < 161) {v : Int32} : fh_up (mkR x kA aA g nc lc tx len at_ C R CL RL) (x + 65 + i) (.inr (3, (liV x (CL i) (RL i)).set 2 (.int v))) = mkR x kA aA g nc lc tx len at_ C R (sT CL i 2 v) RL := by
  have e := mkR_uli (nc := nc) (lc := lc) (tx := tx) (len := len) (at_ := at_) (kA := kA) (aA := aA) (g := g) (x := x) (C := C) (R := R) (CL := CL) (RL := RL) hi (c := (up1 (CL i) 2 v)) (r := (RL i))
  rw [upT_id] at e
  exact e
theorem mkR_li3 {x : Nat} {kA aA : Nat → Nat} {g : fh_H} {nc lc : Int32} {tx : Value} {len at_ : Int32} {C : Nat → Nat → Int32} {R : Nat → Nat → Option Nat} {CL : Nat → Nat → Int32} {RL : Nat → Nat → Option Nat} {i : Nat} (hi : i < 161) {v : Int32} : fh_up (mkR x kA aA g nc lc tx len at_ C R CL RL) (x + 65 + i) (.inr (3, (liV x (CL i) (RL i)).set 3 (.int v))) = mkR x kA aA g nc lc tx len at_ C R (sT CL i 3 v) RL := by
  have e := mkR_uli (nc := nc) (lc := lc) (tx := tx) (len := len) (at_ := at_) (kA := kA) (aA := aA) (g := g) (x := x) (C := C) (R := R) (CL := CL) (RL := RL) hi (c := (up1 (CL i) 3 v)) (r := (RL i))
  rw [upT_id] at e
  exact e
theorem mkR_li4 {x : Nat} {kA aA : Nat → Nat} {g : fh_H} {nc lc : Int32} {tx : Value} {len at_ : Int32} {C : Nat → Nat → Int32} {R : Nat → Nat → Option Nat} {CL : Nat → Nat → Int32} {RL : Nat → Nat → Option Nat} {i : Nat} (hi : i < 161) {v : Int32} : fh_up (mkR x kA aA g nc lc tx len at_ C R CL RL) (x + 65 + i) (.inr (3, (liV x (CL i) (RL i)).set 4 (.int v))) = mkR x kA aA g nc lc tx len at_ C R (sT CL i 4 v) RL := by
  have e := mkR_uli (nc := nc) (lc := lc) (tx := tx) (len := len) (at_ := at_) (kA := kA) (aA := aA) (g := g) (x := x) (C := C) (R := R) (CL := CL) (RL := RL) hi (c := (up1 (CL i) 4 v)) (r := (RL i))
  rw [upT_id] at e
  exact e
theorem mkR_li5 {x : Nat} {kA aA : Nat → Nat} {g : fh_H} {nc lc : Int32} {tx : Value} {len at_ : Int32} {C : Nat → Nat → Int32} {R : Nat → Nat → Option Nat} {CL : Nat → Nat → Int32} {RL : Nat → Nat → Option Nat} {i : Nat} (hi : i < 161) {v : Option Nat} : fh_up (mkR x kA aA g nc lc tx len at_ C R CL RL) (x + 65 + i) (.inr (3, (liV x (CL i) (RL i)).set 5 (va_rf (v.map (fun z => x + 4 + z))))) = mkR x kA aA g nc lc tx len at_ C R CL (sT RL i 5 v) := by
  have e := mkR_uli (nc := nc) (lc := lc) (tx := tx) (len := len) (at_ := at_) (kA := kA) (aA := aA) (g := g) (x := x) (C := C) (R := R) (CL := CL) (RL := RL) hi (c := (CL i)) (r := (up1 (RL i) 5 v))
  rw [upT_id] at e
  exact e
theorem mkR_li6 {x : Nat} {kA aA : Nat → Nat} {g : fh_H} {nc lc : Int32} {tx : Value} {len at_ : Int32} {C : Nat → Nat → Int32} {R : Nat → Nat → Option Nat} {CL : Nat → Nat → Int32} {RL : Nat → Nat → Option Nat} {i : Nat} (hi : i < 161) {v : Int32} : fh_up (mkR x kA aA g nc lc tx len at_ C R CL RL) (x + 65 + i) (.inr (3, (liV x (CL i) (RL i)).set 6 (.int v))) = mkR x kA aA g nc lc tx len at_ C R (sT CL i 6 v) RL := by
  have e := mkR_uli (nc := nc) (lc := lc) (tx := tx) (len := len) (at_ := at_) (kA := kA) (aA := aA) (g := g) (x := x) (C := C) (R := R) (CL := CL) (RL := RL) hi (c := (up1 (CL i) 6 v)) (r := (RL i))
  rw [upT_id] at e
  exact e
theorem mkR_li7 {x : Nat} {kA aA : Nat → Nat} {g : fh_H} {nc lc : Int32} {tx : Value} {len at_ : Int32} {C : Nat → Nat → Int32} {R : Nat → Nat → Option Nat} {CL : Nat → Nat → Int32} {RL : Nat → Nat → Option Nat} {i : Nat} (hi : i < 161) {v : Int32} : fh_up (mkR x kA aA g nc lc tx len at_ C R CL RL) (x + 65 + i) (.inr (3, (liV x (CL i) (RL i)).set 7 (.int v))) = mkR x kA aA g nc lc tx len at_ C R (sT CL i 7 v) RL := by
  have e := mkR_uli (nc := nc) (lc := lc) (tx := tx) (len := len) (at_ := at_) (kA := kA) (aA := aA) (g := g) (x := x) (C := C) (R := R) (CL := CL) (RL := RL) hi (c := (up1 (CL i) 7 v)) (r := (RL i))
  rw [upT_id] at e
  exact e
theorem mkR_li8 {x : Nat} {kA aA : Nat → Nat} {g : fh_H} {nc lc : Int32} {tx : Value} {len at_ : Int32} {C : Nat → Nat → Int32} {R : Nat → Nat → Option Nat} {CL : Nat → Nat → Int32} {RL : Nat → Nat → Option Nat} {i : Nat} (hi : i < 161) {v : Option Nat} : fh_up (mkR x kA aA g nc lc tx len at_ C R CL RL) (x + 65 + i) (.inr (3, (liV x (CL i) (RL i)).set 8 (va_rf (v.map (fun z => x + 65 + z))))) = mkR x kA aA g nc lc tx len at_ C R CL (sT RL i 8 v) := by
  have e := mkR_uli (nc := nc) (lc := lc) (tx := tx) (len := len) (at_ := at_) (kA := kA) (aA := aA) (g := g) (x := x) (C := C) (R := R) (CL := CL) (RL := RL) hi (c := (CL i)) (r := (up1 (RL i) 8 v))
  rw [upT_id] at e
  exact e
abbrev ch0 (c : Int32) : Prop := isL c ∨ (48 ≤ c ∧ c ≤ 57) ∨ c ∈ st_b 1
/-- the class of a character -/
def chA (c : Int32) : Option Nat := if ch0 c then some 0 else if c ∈ st_b 2 then some 2 else if c ∈ st_b 3 then some 3 else if c ∈ st_b 4 then some 4 else if c ∈ st_b 5 then some 5 else if c ∈ st_b 6 then some 6 else none
set_option maxHeartbeats 4000000 in
set_option maxRecDepth 100000 in
theorem m_At_ofCharacter (l : Launch) (D : va_G) (ct : Nat → ClassId) (b : Nat) (RO : State → Prop) (hR : fh_R b RO) (sA sV : Nat → Nat) (hSt : ∀ U, RO U → ro_S b sA sV U) (kA aA yA : Nat → Nat) (tK tS tM : Nat) (hEn : ∀ U, RO U → ro_E b sA kA aA yA tK tS tM U) (r n q : Nat) (hr : 4 ≤ r) (hq : q < 128) (h : fh_H) : fh_C l D fh_cl (fh_tys ct) b RO y_At_ofCharacter (Cond.code y_At_ofCharacter c_At_ofCharacter 1 (Option.some (FieldType.object "FormulaSetter$Atom")) :: fh_T) (fh_rm r 0 0) [.int (nI q)] h n (fun v h' n' => v = some (va_rf ((chA (nI q)).map aA)) ∧ h' = h ∧ n' = n) 0 0 := by
  refine fh_enter (by decide) (Nat.le_of_ble_eq_true rfl) [(0, .int (nI q))] rfl ?_
  intro p e s m args below meth c H ls X hP hS hl
  have hx := X.1
  have hb := X.2.1
  have hml := X.2.2.1
  have hown : s.vm.findClass "FormulaSetter$Atom" = some m.cls := X.2.2.2.1
  have hT := X.2.2.2.2.1
  have hK := X.2.2.2.2.2.1
  have hRO := X.2.2.2.2.2.2.1
  have hnm : meth.name = "ofCharacter" := X.2.2.2.2.2.2.2.2.2.2
  refine lv_iload_n hx hb (fh_d d_At_ofCharacter 0 rfl) rfl (lv_at hl 0 rfl) ?_
  refine fh_callS (cc' := c_At_isLetter) (nL' := 1) (rest := []) (av := [.int (nI q)]) X hR (m_At_isLetter l D ct b RO (r - 1) n (nI q) h) w379 w413 w378 w20 ⟨by decide, by decide, by show _ = some 1; decide +kernel⟩ (by omega) (by decide) hP hS hl.1 rfl (by exact Nat.le_of_ble_eq_true rfl) (fh_d d_At_ofCharacter 1 rfl) ⟨Nat.le_refl _, Nat.le_refl _⟩ (fun v9 h9 n9 H locs hq hP hS => ?_)
  obtain ⟨rfl, u1, u2⟩ := hq
  rw [u1, u2] at hP
  refine lv_if_ne (tgt := 28) hx hb (fh_d d_At_ofCharacter 2 rfl) rfl (fun c3 => ?_) (fun c3 => ?_)
  · refine va_gets (own := "FormulaSetter$Atom") (ref := "FormulaSetter$Atom") (n := "ORD") hx hb ((hEn _ hRO).2.1 0 (by decide)).1 hS hown (hT _ w472) (fun _ h9 => h9) (fh_d d_At_ofCharacter 13 rfl) ?_
    refine fh_aret (r := some (aA 0)) X hP hS (fh_d d_At_ofCharacter 14 rfl) ⟨?_, rfl, rfl⟩
    unfold chA; rw [if_pos (Or.inl (Classical.byContradiction fun z => c3 (if_neg z)))]; rfl
  · refine lv_iload_n hx hb (fh_d d_At_ofCharacter 3 rfl) rfl (lv_at hl 0 rfl) ?_
    refine lv_bipush (v := 48) hx hb (fh_d d_At_ofCharacter 4 rfl) (by decide) ?_
    refine lv_icmp_lt (tgt := 19) hx hb (fh_d d_At_ofCharacter 5 rfl) rfl (fun c4 => ?_) (fun c4 => ?_)
    · refine va_ldcS (own := "FormulaSetter$Atom") (tx := ".!/|") (index := 66) hx hb hown ((hSt _ hRO).1 1 (by decide)).2.2.2.2 (fh_d d_At_ofCharacter 9 rfl) ?_
      refine lv_iload_n hx hb (fh_d d_At_ofCharacter 10 rfl) rfl (lv_at hl 0 rfl) ?_
      refine fh_callV (cc' := c_St_indexOf0) (nL' := 2) (rest := []) (a := sA 1) (As := [.int (nI q)]) X hR (m_St_indexOf0 l D ct b RO hR sA sV hSt (r - 1) n 1 q (by omega) (by decide) hq h) w418 w415 w416 w417 w15 ⟨by decide, by decide, by show _ = some 1; decide +kernel⟩ (by omega) (by decide) (fs_recv ((hSt _ hRO).1 1 (by decide)).1 hS) hP hS hl.1 rfl (by exact Nat.le_of_ble_eq_true rfl) (fh_d d_At_ofCharacter 11 rfl) ⟨Nat.le_refl _, Nat.le_refl _⟩ (fun v9 h9 n9 H locs hq hP hS => ?_)
      obtain ⟨rfl, u5, u6⟩ := hq
      rw [u5, u6] at hP
      refine lv_if_lt (tgt := 32) hx hb (fh_d d_At_ofCharacter 12 rfl) rfl (fun c7 => ?_) (fun c7 => ?_)
      · refine va_ldcS (own := "FormulaSetter$Atom") (tx := "+-*") (index := 74) hx hb hown ((hSt _ hRO).1 2 (by decide)).2.2.2.2 (fh_d d_At_ofCharacter 15 rfl) ?_
        refine lv_iload_n hx hb (fh_d d_At_ofCharacter 16 rfl) rfl (lv_at hl 0 rfl) ?_
        refine fh_callV (cc' := c_St_indexOf0) (nL' := 2) (rest := []) (a := sA 2) (As := [.int (nI q)]) X hR (m_St_indexOf0 l D ct b RO hR sA sV hSt (r - 1) n 2 q (by omega) (by decide) hq h) w418 w415 w416 w417 w15 ⟨by decide, by decide, by show _ = some 1; decide +kernel⟩ (by omega) (by decide) (fs_recv ((hSt _ hRO).1 2 (by decide)).1 hS) hP hS hl.1 rfl (by exact Nat.le_of_ble_eq_true rfl) (fh_d d_At_ofCharacter 17 rfl) ⟨Nat.le_refl _, Nat.le_refl _⟩ (fun v9 h9 n9 H locs hq hP hS => ?_)
        obtain ⟨rfl, u8, u9⟩ := hq
        rw [u8, u9] at hP
        refine lv_if_lt (tgt := 45) hx hb (fh_d d_At_ofCharacter 18 rfl) rfl (fun c10 => ?_) (fun c10 => ?_)
        · refine va_ldcS (own := "FormulaSetter$Atom") (tx := "=<>") (index := 76) hx hb hown ((hSt _ hRO).1 3 (by decide)).2.2.2.2 (fh_d d_At_ofCharacter 21 rfl) ?_
          refine lv_iload_n hx hb (fh_d d_At_ofCharacter 22 rfl) rfl (lv_at hl 0 rfl) ?_
          refine fh_callV (cc' := c_St_indexOf0) (nL' := 2) (rest := []) (a := sA 3) (As := [.int (nI q)]) X hR (m_St_indexOf0 l D ct b RO hR sA sV hSt (r - 1) n 3 q (by omega) (by decide) hq h) w418 w415 w416 w417 w15 ⟨by decide, by decide, by show _ = some 1; decide +kernel⟩ (by omega) (by decide) (fs_recv ((hSt _ hRO).1 3 (by decide)).1 hS) hP hS hl.1 rfl (by exact Nat.le_of_ble_eq_true rfl) (fh_d d_At_ofCharacter 23 rfl) ⟨Nat.le_refl _, Nat.le_refl _⟩ (fun v9 h9 n9 H locs hq hP hS => ?_)
          obtain ⟨rfl, u11, u12⟩ := hq
          rw [u11, u12] at hP
          refine lv_if_lt (tgt := 58) hx hb (fh_d d_At_ofCharacter 24 rfl) rfl (fun c13 => ?_) (fun c13 => ?_)
          · refine va_ldcS (own := "FormulaSetter$Atom") (tx := "([") (index := 78) hx hb hown ((hSt _ hRO).1 4 (by decide)).2.2.2.2 (fh_d d_At_ofCharacter 27 rfl) ?_
            refine lv_iload_n hx hb (fh_d d_At_ofCharacter 28 rfl) rfl (lv_at hl 0 rfl) ?_
            refine fh_callV (cc' := c_St_indexOf0) (nL' := 2) (rest := []) (a := sA 4) (As := [.int (nI q)]) X hR (m_St_indexOf0 l D ct b RO hR sA sV hSt (r - 1) n 4 q (by omega) (by decide) hq h) w418 w415 w416 w417 w15 ⟨by decide, by decide, by show _ = some 1; decide +kernel⟩ (by omega) (by decide) (fs_recv ((hSt _ hRO).1 4 (by decide)).1 hS) hP hS hl.1 rfl (by exact Nat.le_of_ble_eq_true rfl) (fh_d d_At_ofCharacter 29 rfl) ⟨Nat.le_refl _, Nat.le_refl _⟩ (fun v9 h9 n9 H locs hq hP hS => ?_)
            obtain ⟨rfl, u14, u15⟩ := hq
            rw [u14, u15] at hP
            refine lv_if_lt (tgt := 71) hx hb (fh_d d_At_ofCharacter 30 rfl) rfl (fun c16 => ?_) (fun c16 => ?_)
            · refine va_ldcS (own := "FormulaSetter$Atom") (tx := ")]") (index := 80) hx hb hown ((hSt _ hRO).1 5 (by decide)).2.2.2.2 (fh_d d_At_ofCharacter 33 rfl) ?_
              refine lv_iload_n hx hb (fh_d d_At_ofCharacter 34 rfl) rfl (lv_at hl 0 rfl) ?_
              refine fh_callV (cc' := c_St_indexOf0) (nL' := 2) (rest := []) (a := sA 5) (As := [.int (nI q)]) X hR (m_St_indexOf0 l D ct b RO hR sA sV hSt (r - 1) n 5 q (by omega) (by decide) hq h) w418 w415 w416 w417 w15 ⟨by decide, by decide, by show _ = some 1; decide +kernel⟩ (by omega) (by decide) (fs_recv ((hSt _ hRO).1 5 (by decide)).1 hS) hP hS hl.1 rfl (by exact Nat.le_of_ble_eq_true rfl) (fh_d d_At_ofCharacter 35 rfl) ⟨Nat.le_refl _, Nat.le_refl _⟩ (fun v9 h9 n9 H locs hq hP hS => ?_)
              obtain ⟨rfl, u17, u18⟩ := hq
              rw [u17, u18] at hP
              refine lv_if_lt (tgt := 84) hx hb (fh_d d_At_ofCharacter 36 rfl) rfl (fun c19 => ?_) (fun c19 => ?_)
              · refine va_ldcS (own := "FormulaSetter$Atom") (tx := ",;") (index := 82) hx hb hown ((hSt _ hRO).1 6 (by decide)).2.2.2.2 (fh_d d_At_ofCharacter 39 rfl) ?_
                refine lv_iload_n hx hb (fh_d d_At_ofCharacter 40 rfl) rfl (lv_at hl 0 rfl) ?_
                refine fh_callV (cc' := c_St_indexOf0) (nL' := 2) (rest := []) (a := sA 6) (As := [.int (nI q)]) X hR (m_St_indexOf0 l D ct b RO hR sA sV hSt (r - 1) n 6 q (by omega) (by decide) hq h) w418 w415 w416 w417 w15 ⟨by decide, by decide, by show _ = some 1; decide +kernel⟩ (by omega) (by decide) (fs_recv ((hSt _ hRO).1 6 (by decide)).1 hS) hP hS hl.1 rfl (by exact Nat.le_of_ble_eq_true rfl) (fh_d d_At_ofCharacter 41 rfl) ⟨Nat.le_refl _, Nat.le_refl _⟩ (fun v9 h9 n9 H locs hq hP hS => ?_)
                obtain ⟨rfl, u20, u21⟩ := hq
                rw [u20, u21] at hP
                refine lv_if_lt (tgt := 99) hx hb (fh_d d_At_ofCharacter 42 rfl) rfl (fun c22 => ?_) (fun c22 => ?_)
                · refine lv_null hx hb (fh_d d_At_ofCharacter 45 rfl) ?_
                  refine fh_aret (r := none) X hP hS (fh_d d_At_ofCharacter 46 rfl) ⟨?_, rfl, rfl⟩
                  unfold chA; rw [if_neg (fun z => z.elim (fun z => absurd c3 (by rw [if_pos z]; decide)) (fun z => z.elim (fun z => absurd z.1 (Int32.not_le.mpr c4)) (fun z => absurd c7 (Int32.not_lt.mpr ((ixo_mem (by decide)).mpr z))))), if_neg (fun z => absurd c10 (Int32.not_lt.mpr ((ixo_mem (by decide)).mpr z))), if_neg (fun z => absurd c13 (Int32.not_lt.mpr ((ixo_mem (by decide)).mpr z))), if_neg (fun z => absurd c16 (Int32.not_lt.mpr ((ixo_mem (by decide)).mpr z))), if_neg (fun z => absurd c19 (Int32.not_lt.mpr ((ixo_mem (by decide)).mpr z))), if_neg (fun z => absurd c22 (Int32.not_lt.mpr ((ixo_mem (by decide)).mpr z)))]; rfl
                · refine va_gets (own := "FormulaSetter$Atom") (ref := "FormulaSetter$Atom") (n := "PUNCT") hx hb ((hEn _ hRO).2.1 6 (by decide)).1 hS hown (hT _ w487) (fun _ h9 => h9) (fh_d d_At_ofCharacter 43 rfl) ?_
                  refine lv_goto (tgt := 100) hx hb (fh_d d_At_ofCharacter 44 rfl) rfl ?_
                  refine fh_aret (r := some (aA 6)) X hP hS (fh_d d_At_ofCharacter 46 rfl) ⟨?_, rfl, rfl⟩
                  unfold chA; rw [if_neg (fun z => z.elim (fun z => absurd c3 (by rw [if_pos z]; decide)) (fun z => z.elim (fun z => absurd z.1 (Int32.not_le.mpr c4)) (fun z => absurd c7 (Int32.not_lt.mpr ((ixo_mem (by decide)).mpr z))))), if_neg (fun z => absurd c10 (Int32.not_lt.mpr ((ixo_mem (by decide)).mpr z))), if_neg (fun z => absurd c13 (Int32.not_lt.mpr ((ixo_mem (by decide)).mpr z))), if_neg (fun z => absurd c16 (Int32.not_lt.mpr ((ixo_mem (by decide)).mpr z))), if_neg (fun z => absurd c19 (Int32.not_lt.mpr ((ixo_mem (by decide)).mpr z))), if_pos ((ixo_mem (by decide)).mp (Int32.not_lt.mp c22))]; rfl
              · refine va_gets (own := "FormulaSetter$Atom") (ref := "FormulaSetter$Atom") (n := "CLOSE") hx hb ((hEn _ hRO).2.1 5 (by decide)).1 hS hown (hT _ w484) (fun _ h9 => h9) (fh_d d_At_ofCharacter 37 rfl) ?_
                refine fh_aret (r := some (aA 5)) X hP hS (fh_d d_At_ofCharacter 38 rfl) ⟨?_, rfl, rfl⟩
                unfold chA; rw [if_neg (fun z => z.elim (fun z => absurd c3 (by rw [if_pos z]; decide)) (fun z => z.elim (fun z => absurd z.1 (Int32.not_le.mpr c4)) (fun z => absurd c7 (Int32.not_lt.mpr ((ixo_mem (by decide)).mpr z))))), if_neg (fun z => absurd c10 (Int32.not_lt.mpr ((ixo_mem (by decide)).mpr z))), if_neg (fun z => absurd c13 (Int32.not_lt.mpr ((ixo_mem (by decide)).mpr z))), if_neg (fun z => absurd c16 (Int32.not_lt.mpr ((ixo_mem (by decide)).mpr z))), if_pos ((ixo_mem (by decide)).mp (Int32.not_lt.mp c19))]; rfl
            · refine va_gets (own := "FormulaSetter$Atom") (ref := "FormulaSetter$Atom") (n := "OPEN") hx hb ((hEn _ hRO).2.1 4 (by decide)).1 hS hown (hT _ w481) (fun _ h9 => h9) (fh_d d_At_ofCharacter 31 rfl) ?_
              refine fh_aret (r := some (aA 4)) X hP hS (fh_d d_At_ofCharacter 32 rfl) ⟨?_, rfl, rfl⟩
              unfold chA; rw [if_neg (fun z => z.elim (fun z => absurd c3 (by rw [if_pos z]; decide)) (fun z => z.elim (fun z => absurd z.1 (Int32.not_le.mpr c4)) (fun z => absurd c7 (Int32.not_lt.mpr ((ixo_mem (by decide)).mpr z))))), if_neg (fun z => absurd c10 (Int32.not_lt.mpr ((ixo_mem (by decide)).mpr z))), if_neg (fun z => absurd c13 (Int32.not_lt.mpr ((ixo_mem (by decide)).mpr z))), if_pos ((ixo_mem (by decide)).mp (Int32.not_lt.mp c16))]; rfl
          · refine va_gets (own := "FormulaSetter$Atom") (ref := "FormulaSetter$Atom") (n := "REL") hx hb ((hEn _ hRO).2.1 3 (by decide)).1 hS hown (hT _ w478) (fun _ h9 => h9) (fh_d d_At_ofCharacter 25 rfl) ?_
            refine fh_aret (r := some (aA 3)) X hP hS (fh_d d_At_ofCharacter 26 rfl) ⟨?_, rfl, rfl⟩
            unfold chA; rw [if_neg (fun z => z.elim (fun z => absurd c3 (by rw [if_pos z]; decide)) (fun z => z.elim (fun z => absurd z.1 (Int32.not_le.mpr c4)) (fun z => absurd c7 (Int32.not_lt.mpr ((ixo_mem (by decide)).mpr z))))), if_neg (fun z => absurd c10 (Int32.not_lt.mpr ((ixo_mem (by decide)).mpr z))), if_pos ((ixo_mem (by decide)).mp (Int32.not_lt.mp c13))]; rfl
        · refine va_gets (own := "FormulaSetter$Atom") (ref := "FormulaSetter$Atom") (n := "BIN") hx hb ((hEn _ hRO).2.1 2 (by decide)).1 hS hown (hT _ w475) (fun _ h9 => h9) (fh_d d_At_ofCharacter 19 rfl) ?_
          refine fh_aret (r := some (aA 2)) X hP hS (fh_d d_At_ofCharacter 20 rfl) ⟨?_, rfl, rfl⟩
          unfold chA; rw [if_neg (fun z => z.elim (fun z => absurd c3 (by rw [if_pos z]; decide)) (fun z => z.elim (fun z => absurd z.1 (Int32.not_le.mpr c4)) (fun z => absurd c7 (Int32.not_lt.mpr ((ixo_mem (by decide)).mpr z))))), if_pos ((ixo_mem (by decide)).mp (Int32.not_lt.mp c10))]; rfl
      · refine va_gets (own := "FormulaSetter$Atom") (ref := "FormulaSetter$Atom") (n := "ORD") hx hb ((hEn _ hRO).2.1 0 (by decide)).1 hS hown (hT _ w472) (fun _ h9 => h9) (fh_d d_At_ofCharacter 13 rfl) ?_
        refine fh_aret (r := some (aA 0)) X hP hS (fh_d d_At_ofCharacter 14 rfl) ⟨?_, rfl, rfl⟩
        unfold chA; rw [if_pos (Or.inr (Or.inr ((ixo_mem (by decide)).mp (Int32.not_lt.mp c7))))]; rfl
    · refine lv_iload_n hx hb (fh_d d_At_ofCharacter 6 rfl) rfl (lv_at hl 0 rfl) ?_
      refine lv_bipush (v := 57) hx hb (fh_d d_At_ofCharacter 7 rfl) (by decide) ?_
      refine lv_icmp_le (tgt := 28) hx hb (fh_d d_At_ofCharacter 8 rfl) rfl (fun c23 => ?_) (fun c23 => ?_)
      · refine va_gets (own := "FormulaSetter$Atom") (ref := "FormulaSetter$Atom") (n := "ORD") hx hb ((hEn _ hRO).2.1 0 (by decide)).1 hS hown (hT _ w472) (fun _ h9 => h9) (fh_d d_At_ofCharacter 13 rfl) ?_
        refine fh_aret (r := some (aA 0)) X hP hS (fh_d d_At_ofCharacter 14 rfl) ⟨?_, rfl, rfl⟩
        unfold chA; rw [if_pos (Or.inr (Or.inl ⟨Int32.not_lt.mp c4, c23⟩))]; rfl
      · refine va_ldcS (own := "FormulaSetter$Atom") (tx := ".!/|") (index := 66) hx hb hown ((hSt _ hRO).1 1 (by decide)).2.2.2.2 (fh_d d_At_ofCharacter 9 rfl) ?_
        refine lv_iload_n hx hb (fh_d d_At_ofCharacter 10 rfl) rfl (lv_at hl 0 rfl) ?_
        refine fh_callV (cc' := c_St_indexOf0) (nL' := 2) (rest := []) (a := sA 1) (As := [.int (nI q)]) X hR (m_St_indexOf0 l D ct b RO hR sA sV hSt (r - 1) n 1 q (by omega) (by decide) hq h) w418 w415 w416 w417 w15 ⟨by decide, by decide, by show _ = some 1; decide +kernel⟩ (by omega) (by decide) (fs_recv ((hSt _ hRO).1 1 (by decide)).1 hS) hP hS hl.1 rfl (by exact Nat.le_of_ble_eq_true rfl) (fh_d d_At_ofCharacter 11 rfl) ⟨Nat.le_refl _, Nat.le_refl _⟩ (fun v9 h9 n9 H locs hq hP hS => ?_)
        obtain ⟨rfl, u24, u25⟩ := hq
        rw [u24, u25] at hP
        refine lv_if_lt (tgt := 32) hx hb (fh_d d_At_ofCharacter 12 rfl) rfl (fun c26 => ?_) (fun c26 => ?_)
        · refine va_ldcS (own := "FormulaSetter$Atom") (tx := "+-*") (index := 74) hx hb hown ((hSt _ hRO).1 2 (by decide)).2.2.2.2 (fh_d d_At_ofCharacter 15 rfl) ?_
          refine lv_iload_n hx hb (fh_d d_At_ofCharacter 16 rfl) rfl (lv_at hl 0 rfl) ?_
          refine fh_callV (cc' := c_St_indexOf0) (nL' := 2) (rest := []) (a := sA 2) (As := [.int (nI q)]) X hR (m_St_indexOf0 l D ct b RO hR sA sV hSt (r - 1) n 2 q (by omega) (by decide) hq h) w418 w415 w416 w417 w15 ⟨by decide, by decide, by show _ = some 1; decide +kernel⟩ (by omega) (by decide) (fs_recv ((hSt _ hRO).1 2 (by decide)).1 hS) hP hS hl.1 rfl (by exact Nat.le_of_ble_eq_true rfl) (fh_d d_At_ofCharacter 17 rfl) ⟨Nat.le_refl _, Nat.le_refl _⟩ (fun v9 h9 n9 H locs hq hP hS => ?_)
          obtain ⟨rfl, u27, u28⟩ := hq
          rw [u27, u28] at hP
          refine lv_if_lt (tgt := 45) hx hb (fh_d d_At_ofCharacter 18 rfl) rfl (fun c29 => ?_) (fun c29 => ?_)
          · refine va_ldcS (own := "FormulaSetter$Atom") (tx := "=<>") (index := 76) hx hb hown ((hSt _ hRO).1 3 (by decide)).2.2.2.2 (fh_d d_At_ofCharacter 21 rfl) ?_
            refine lv_iload_n hx hb (fh_d d_At_ofCharacter 22 rfl) rfl (lv_at hl 0 rfl) ?_
            refine fh_callV (cc' := c_St_indexOf0) (nL' := 2) (rest := []) (a := sA 3) (As := [.int (nI q)]) X hR (m_St_indexOf0 l D ct b RO hR sA sV hSt (r - 1) n 3 q (by omega) (by decide) hq h) w418 w415 w416 w417 w15 ⟨by decide, by decide, by show _ = some 1; decide +kernel⟩ (by omega) (by decide) (fs_recv ((hSt _ hRO).1 3 (by decide)).1 hS) hP hS hl.1 rfl (by exact Nat.le_of_ble_eq_true rfl) (fh_d d_At_ofCharacter 23 rfl) ⟨Nat.le_refl _, Nat.le_refl _⟩ (fun v9 h9 n9 H locs hq hP hS => ?_)
            obtain ⟨rfl, u30, u31⟩ := hq
            rw [u30, u31] at hP
            refine lv_if_lt (tgt := 58) hx hb (fh_d d_At_ofCharacter 24 rfl) rfl (fun c32 => ?_) (fun c32 => ?_)
            · refine va_ldcS (own := "FormulaSetter$Atom") (tx := "([") (index := 78) hx hb hown ((hSt _ hRO).1 4 (by decide)).2.2.2.2 (fh_d d_At_ofCharacter 27 rfl) ?_
              refine lv_iload_n hx hb (fh_d d_At_ofCharacter 28 rfl) rfl (lv_at hl 0 rfl) ?_
              refine fh_callV (cc' := c_St_indexOf0) (nL' := 2) (rest := []) (a := sA 4) (As := [.int (nI q)]) X hR (m_St_indexOf0 l D ct b RO hR sA sV hSt (r - 1) n 4 q (by omega) (by decide) hq h) w418 w415 w416 w417 w15 ⟨by decide, by decide, by show _ = some 1; decide +kernel⟩ (by omega) (by decide) (fs_recv ((hSt _ hRO).1 4 (by decide)).1 hS) hP hS hl.1 rfl (by exact Nat.le_of_ble_eq_true rfl) (fh_d d_At_ofCharacter 29 rfl) ⟨Nat.le_refl _, Nat.le_refl _⟩ (fun v9 h9 n9 H locs hq hP hS => ?_)
              obtain ⟨rfl, u33, u34⟩ := hq
              rw [u33, u34] at hP
              refine lv_if_lt (tgt := 71) hx hb (fh_d d_At_ofCharacter 30 rfl) rfl (fun c35 => ?_) (fun c35 => ?_)
              · refine va_ldcS (own := "FormulaSetter$Atom") (tx := ")]") (index := 80) hx hb hown ((hSt _ hRO).1 5 (by decide)).2.2.2.2 (fh_d d_At_ofCharacter 33 rfl) ?_
                refine lv_iload_n hx hb (fh_d d_At_ofCharacter 34 rfl) rfl (lv_at hl 0 rfl) ?_
                refine fh_callV (cc' := c_St_indexOf0) (nL' := 2) (rest := []) (a := sA 5) (As := [.int (nI q)]) X hR (m_St_indexOf0 l D ct b RO hR sA sV hSt (r - 1) n 5 q (by omega) (by decide) hq h) w418 w415 w416 w417 w15 ⟨by decide, by decide, by show _ = some 1; decide +kernel⟩ (by omega) (by decide) (fs_recv ((hSt _ hRO).1 5 (by decide)).1 hS) hP hS hl.1 rfl (by exact Nat.le_of_ble_eq_true rfl) (fh_d d_At_ofCharacter 35 rfl) ⟨Nat.le_refl _, Nat.le_refl _⟩ (fun v9 h9 n9 H locs hq hP hS => ?_)
                obtain ⟨rfl, u36, u37⟩ := hq
                rw [u36, u37] at hP
                refine lv_if_lt (tgt := 84) hx hb (fh_d d_At_ofCharacter 36 rfl) rfl (fun c38 => ?_) (fun c38 => ?_)
                · refine va_ldcS (own := "FormulaSetter$Atom") (tx := ",;") (index := 82) hx hb hown ((hSt _ hRO).1 6 (by decide)).2.2.2.2 (fh_d d_At_ofCharacter 39 rfl) ?_
                  refine lv_iload_n hx hb (fh_d d_At_ofCharacter 40 rfl) rfl (lv_at hl 0 rfl) ?_
                  refine fh_callV (cc' := c_St_indexOf0) (nL' := 2) (rest := []) (a := sA 6) (As := [.int (nI q)]) X hR (m_St_indexOf0 l D ct b RO hR sA sV hSt (r - 1) n 6 q (by omega) (by decide) hq h) w418 w415 w416 w417 w15 ⟨by decide, by decide, by show _ = some 1; decide +kernel⟩ (by omega) (by decide) (fs_recv ((hSt _ hRO).1 6 (by decide)).1 hS) hP hS hl.1 rfl (by exact Nat.le_of_ble_eq_true rfl) (fh_d d_At_ofCharacter 41 rfl) ⟨Nat.le_refl _, Nat.le_refl _⟩ (fun v9 h9 n9 H locs hq hP hS => ?_)
                  obtain ⟨rfl, u39, u40⟩ := hq
                  rw [u39, u40] at hP
                  refine lv_if_lt (tgt := 99) hx hb (fh_d d_At_ofCharacter 42 rfl) rfl (fun c41 => ?_) (fun c41 => ?_)
                  · refine lv_null hx hb (fh_d d_At_ofCharacter 45 rfl) ?_
                    refine fh_aret (r := none) X hP hS (fh_d d_At_ofCharacter 46 rfl) ⟨?_, rfl, rfl⟩
                    unfold chA; rw [if_neg (fun z => z.elim (fun z => absurd c3 (by rw [if_pos z]; decide)) (fun z => z.elim (fun z => c23 z.2) (fun z => absurd c26 (Int32.not_lt.mpr ((ixo_mem (by decide)).mpr z))))), if_neg (fun z => absurd c29 (Int32.not_lt.mpr ((ixo_mem (by decide)).mpr z))), if_neg (fun z => absurd c32 (Int32.not_lt.mpr ((ixo_mem (by decide)).mpr z))), if_neg (fun z => absurd c35 (Int32.not_lt.mpr ((ixo_mem (by decide)).mpr z))), if_neg (fun z => absurd c38 (Int32.not_lt.mpr ((ixo_mem (by decide)).mpr z))), if_neg (fun z => absurd c41 (Int32.not_lt.mpr ((ixo_mem (by decide)).mpr z)))]; rfl
                  · refine va_gets (own := "FormulaSetter$Atom") (ref := "FormulaSetter$Atom") (n := "PUNCT") hx hb ((hEn _ hRO).2.1 6 (by decide)).1 hS hown (hT _ w487) (fun _ h9 => h9) (fh_d d_At_ofCharacter 43 rfl) ?_
                    refine lv_goto (tgt := 100) hx hb (fh_d d_At_ofCharacter 44 rfl) rfl ?_
                    refine fh_aret (r := some (aA 6)) X hP hS (fh_d d_At_ofCharacter 46 rfl) ⟨?_, rfl, rfl⟩
                    unfold chA; rw [if_neg (fun z => z.elim (fun z => absurd c3 (by rw [if_pos z]; decide)) (fun z => z.elim (fun z => c23 z.2) (fun z => absurd c26 (Int32.not_lt.mpr ((ixo_mem (by decide)).mpr z))))), if_neg (fun z => absurd c29 (Int32.not_lt.mpr ((ixo_mem (by decide)).mpr z))), if_neg (fun z => absurd c32 (Int32.not_lt.mpr ((ixo_mem (by decide)).mpr z))), if_neg (fun z => absurd c35 (Int32.not_lt.mpr ((ixo_mem (by decide)).mpr z))), if_neg (fun z => absurd c38 (Int32.not_lt.mpr ((ixo_mem (by decide)).mpr z))), if_pos ((ixo_mem (by decide)).mp (Int32.not_lt.mp c41))]; rfl
                · refine va_gets (own := "FormulaSetter$Atom") (ref := "FormulaSetter$Atom") (n := "CLOSE") hx hb ((hEn _ hRO).2.1 5 (by decide)).1 hS hown (hT _ w484) (fun _ h9 => h9) (fh_d d_At_ofCharacter 37 rfl) ?_
                  refine fh_aret (r := some (aA 5)) X hP hS (fh_d d_At_ofCharacter 38 rfl) ⟨?_, rfl, rfl⟩
                  unfold chA; rw [if_neg (fun z => z.elim (fun z => absurd c3 (by rw [if_pos z]; decide)) (fun z => z.elim (fun z => c23 z.2) (fun z => absurd c26 (Int32.not_lt.mpr ((ixo_mem (by decide)).mpr z))))), if_neg (fun z => absurd c29 (Int32.not_lt.mpr ((ixo_mem (by decide)).mpr z))), if_neg (fun z => absurd c32 (Int32.not_lt.mpr ((ixo_mem (by decide)).mpr z))), if_neg (fun z => absurd c35 (Int32.not_lt.mpr ((ixo_mem (by decide)).mpr z))), if_pos ((ixo_mem (by decide)).mp (Int32.not_lt.mp c38))]; rfl
              · refine va_gets (own := "FormulaSetter$Atom") (ref := "FormulaSetter$Atom") (n := "OPEN") hx hb ((hEn _ hRO).2.1 4 (by decide)).1 hS hown (hT _ w481) (fun _ h9 => h9) (fh_d d_At_ofCharacter 31 rfl) ?_
                refine fh_aret (r := some (aA 4)) X hP hS (fh_d d_At_ofCharacter 32 rfl) ⟨?_, rfl, rfl⟩
                unfold chA; rw [if_neg (fun z => z.elim (fun z => absurd c3 (by rw [if_pos z]; decide)) (fun z => z.elim (fun z => c23 z.2) (fun z => absurd c26 (Int32.not_lt.mpr ((ixo_mem (by decide)).mpr z))))), if_neg (fun z => absurd c29 (Int32.not_lt.mpr ((ixo_mem (by decide)).mpr z))), if_neg (fun z => absurd c32 (Int32.not_lt.mpr ((ixo_mem (by decide)).mpr z))), if_pos ((ixo_mem (by decide)).mp (Int32.not_lt.mp c35))]; rfl
            · refine va_gets (own := "FormulaSetter$Atom") (ref := "FormulaSetter$Atom") (n := "REL") hx hb ((hEn _ hRO).2.1 3 (by decide)).1 hS hown (hT _ w478) (fun _ h9 => h9) (fh_d d_At_ofCharacter 25 rfl) ?_
              refine fh_aret (r := some (aA 3)) X hP hS (fh_d d_At_ofCharacter 26 rfl) ⟨?_, rfl, rfl⟩
              unfold chA; rw [if_neg (fun z => z.elim (fun z => absurd c3 (by rw [if_pos z]; decide)) (fun z => z.elim (fun z => c23 z.2) (fun z => absurd c26 (Int32.not_lt.mpr ((ixo_mem (by decide)).mpr z))))), if_neg (fun z => absurd c29 (Int32.not_lt.mpr ((ixo_mem (by decide)).mpr z))), if_pos ((ixo_mem (by decide)).mp (Int32.not_lt.mp c32))]; rfl
          · refine va_gets (own := "FormulaSetter$Atom") (ref := "FormulaSetter$Atom") (n := "BIN") hx hb ((hEn _ hRO).2.1 2 (by decide)).1 hS hown (hT _ w475) (fun _ h9 => h9) (fh_d d_At_ofCharacter 19 rfl) ?_
            refine fh_aret (r := some (aA 2)) X hP hS (fh_d d_At_ofCharacter 20 rfl) ⟨?_, rfl, rfl⟩
            unfold chA; rw [if_neg (fun z => z.elim (fun z => absurd c3 (by rw [if_pos z]; decide)) (fun z => z.elim (fun z => c23 z.2) (fun z => absurd c26 (Int32.not_lt.mpr ((ixo_mem (by decide)).mpr z))))), if_pos ((ixo_mem (by decide)).mp (Int32.not_lt.mp c29))]; rfl
        · refine va_gets (own := "FormulaSetter$Atom") (ref := "FormulaSetter$Atom") (n := "ORD") hx hb ((hEn _ hRO).2.1 0 (by decide)).1 hS hown (hT _ w472) (fun _ h9 => h9) (fh_d d_At_ofCharacter 13 rfl) ?_
          refine fh_aret (r := some (aA 0)) X hP hS (fh_d d_At_ofCharacter 14 rfl) ⟨?_, rfl, rfl⟩
          unfold chA; rw [if_pos (Or.inr (Or.inr ((ixo_mem (by decide)).mp (Int32.not_lt.mp c26))))]; rfl

/-- the class of a kind -/
def kAt (i : Nat) : Nat := if kO i ≠ 0 then 1 else if i = 5 ∨ i = 9 ∨ i = 10 then 7 else 0
theorem kC_lt : ∀ i, i < 11 → kC i < 28 := by decide
set_option maxHeartbeats 4000000 in
set_option maxRecDepth 100000 in
theorem m_Ki_atom (l : Launch) (D : va_G) (ct : Nat → ClassId) (b : Nat) (RO : State → Prop) (sA sV : Nat → Nat) (hSt : ∀ U, RO U → ro_S b sA sV U) (kA aA yA : Nat → Nat) (tK tS tM : Nat) (hEn : ∀ U, RO U → ro_E b sA kA aA yA tK tS tM U) (hAd : ad_ok kA aA yA) (r n i : Nat) (hi : i < 11) (h : fh_H) : fh_C l D fh_cl (fh_tys ct) b RO y_Ki_atom (Cond.code y_Ki_atom c_Ki_atom 1 (Option.some (FieldType.object "FormulaSetter$Atom")) :: fh_T) (fh_rm r 0 0) [.ref (kA i)] h n (fun v h' n' => v = some (.ref (aA (kAt i))) ∧ h' = h ∧ n' = n) 0 0 := by
  refine fh_enter (by decide) (Nat.le_of_ble_eq_true rfl) [(0, .ref (kA i))] rfl ?_
  intro p e s m args below meth c H ls X hP hS hl
  have hx := X.1
  have hb := X.2.1
  have hml := X.2.2.1
  have hown : s.vm.findClass "FormulaSetter$Kind" = some m.cls := X.2.2.2.1
  have hT := X.2.2.2.2.1
  have hK := X.2.2.2.2.2.1
  have hRO := X.2.2.2.2.2.2.1
  have hnm : meth.name = "atom" := X.2.2.2.2.2.2.2.2.2.2
  refine lv_aload_n hx hb (fh_d d_Ki_atom 0 rfl) rfl (lv_at hl 0 rfl) ?_
  refine vk_getf (own := "FormulaSetter$Kind") (ref := "FormulaSetter$Kind") hx hb (((hEn _ hRO).1 i hi).2.2.2.2) hS hown (hT _ w1244) (fun _ h9 => h9) (fh_d d_Ki_atom 1 rfl) ?_
  refine lv_if_eq (tgt := 11) hx hb (fh_d d_Ki_atom 2 rfl) rfl (fun c1 => ?_) (fun c1 => ?_)
  · refine lv_aload_n hx hb (fh_d d_Ki_atom 5 rfl) rfl (lv_at hl 0 rfl) ?_
    refine va_gets (own := "FormulaSetter$Kind") (ref := "FormulaSetter$Kind") (n := "FRAC") hx hb ((hEn _ hRO).1 5 (by decide)).1 hS hown (hT _ w495) (fun _ h9 => h9) (fh_d d_Ki_atom 6 rfl) ?_
    refine lv_acmp_eq (rx := some (kA i)) (ry := some (kA 5)) (tgt := 32) hx hb (fh_d d_Ki_atom 7 rfl) rfl (fun c2 => ?_) (fun c2 => ?_)
    · refine va_gets (own := "FormulaSetter$Kind") (ref := "FormulaSetter$Atom") (n := "INNER") hx hb ((hEn _ hRO).2.1 7 (by decide)).1 hS hown (hT _ w501) (fun _ h9 => h9) (fh_d d_Ki_atom 14 rfl) ?_
      refine lv_goto (tgt := 41) hx hb (fh_d d_Ki_atom 15 rfl) rfl ?_
      refine fh_aret (r := some (aA 7)) X hP hS (fh_d d_Ki_atom 17 rfl) ⟨?_, rfl, rfl⟩
      unfold kAt; rw [if_neg (Classical.not_not.mpr c1), if_pos (Or.inl (hAd.1 _ _ hi (by decide) (Option.some.inj c2)))]; rfl
    · refine lv_aload_n hx hb (fh_d d_Ki_atom 8 rfl) rfl (lv_at hl 0 rfl) ?_
      refine va_gets (own := "FormulaSetter$Kind") (ref := "FormulaSetter$Kind") (n := "LEFT") hx hb ((hEn _ hRO).1 9 (by decide)).1 hS hown (hT _ w497) (fun _ h9 => h9) (fh_d d_Ki_atom 9 rfl) ?_
      refine lv_acmp_eq (rx := some (kA i)) (ry := some (kA 9)) (tgt := 32) hx hb (fh_d d_Ki_atom 10 rfl) rfl (fun c3 => ?_) (fun c3 => ?_)
      · refine va_gets (own := "FormulaSetter$Kind") (ref := "FormulaSetter$Atom") (n := "INNER") hx hb ((hEn _ hRO).2.1 7 (by decide)).1 hS hown (hT _ w501) (fun _ h9 => h9) (fh_d d_Ki_atom 14 rfl) ?_
        refine lv_goto (tgt := 41) hx hb (fh_d d_Ki_atom 15 rfl) rfl ?_
        refine fh_aret (r := some (aA 7)) X hP hS (fh_d d_Ki_atom 17 rfl) ⟨?_, rfl, rfl⟩
        unfold kAt; rw [if_neg (Classical.not_not.mpr c1), if_pos (Or.inr (Or.inl (hAd.1 _ _ hi (by decide) (Option.some.inj c3))))]; rfl
      · refine lv_aload_n hx hb (fh_d d_Ki_atom 11 rfl) rfl (lv_at hl 0 rfl) ?_
        refine va_gets (own := "FormulaSetter$Kind") (ref := "FormulaSetter$Kind") (n := "MAT") hx hb ((hEn _ hRO).1 10 (by decide)).1 hS hown (hT _ w499) (fun _ h9 => h9) (fh_d d_Ki_atom 12 rfl) ?_
        refine lv_acmp_ne (rx := some (kA i)) (ry := some (kA 10)) (tgt := 38) hx hb (fh_d d_Ki_atom 13 rfl) rfl (fun c4 => ?_) (fun c4 => ?_)
        · refine va_gets (own := "FormulaSetter$Kind") (ref := "FormulaSetter$Atom") (n := "ORD") hx hb ((hEn _ hRO).2.1 0 (by decide)).1 hS hown (hT _ w503) (fun _ h9 => h9) (fh_d d_Ki_atom 16 rfl) ?_
          refine fh_aret (r := some (aA 0)) X hP hS (fh_d d_Ki_atom 17 rfl) ⟨?_, rfl, rfl⟩
          unfold kAt; rw [if_neg (Classical.not_not.mpr c1), if_neg (fun z => z.elim (fun z => c2 (by rw [z])) (fun z => z.elim (fun z => c3 (by rw [z])) (fun z => c4 (by rw [z]))))]; rfl
        · refine va_gets (own := "FormulaSetter$Kind") (ref := "FormulaSetter$Atom") (n := "INNER") hx hb ((hEn _ hRO).2.1 7 (by decide)).1 hS hown (hT _ w501) (fun _ h9 => h9) (fh_d d_Ki_atom 14 rfl) ?_
          refine lv_goto (tgt := 41) hx hb (fh_d d_Ki_atom 15 rfl) rfl ?_
          refine fh_aret (r := some (aA 7)) X hP hS (fh_d d_Ki_atom 17 rfl) ⟨?_, rfl, rfl⟩
          unfold kAt; rw [if_neg (Classical.not_not.mpr c1), if_pos (Or.inr (Or.inr (hAd.1 _ _ hi (by decide) (Option.some.inj c4))))]; rfl
  · refine va_gets (own := "FormulaSetter$Kind") (ref := "FormulaSetter$Atom") (n := "OP") hx hb ((hEn _ hRO).2.1 1 (by decide)).1 hS hown (hT _ w493) (fun _ h9 => h9) (fh_d d_Ki_atom 3 rfl) ?_
    refine fh_aret (r := some (aA 1)) X hP hS (fh_d d_Ki_atom 4 rfl) ⟨?_, rfl, rfl⟩
    unfold kAt; rw [if_pos c1]; rfl

/-- the command that stands at a -/
def cmdK (f : Nat → Int32) (L a k : Nat) : Option Nat := if h : k < 11 then (if ¬ (st_b (kC k)).length = 0 ∧ scm f L a (kC k) then some k else cmdK f L a (k + 1)) else none
termination_by 11 - k
theorem cmdK_y {f : Nat → Int32} {L a k : Nat} (h : k < 11) (e : ¬ (st_b (kC k)).length = 0 ∧ scm f L a (kC k)) : cmdK f L a k = some k := by rw [cmdK, dif_pos h, if_pos e]
theorem cmdK_s {f : Nat → Int32} {L a k : Nat} (h : k < 11) (e : ¬ (¬ (st_b (kC k)).length = 0 ∧ scm f L a (kC k))) : cmdK f L a k = cmdK f L a (k + 1) := by rw [cmdK, dif_pos h, if_neg e]
theorem cmdK_n {f : Nat → Int32} {L a k : Nat} (h : ¬ k < 11) : cmdK f L a k = none := by rw [cmdK, dif_neg h]
abbrev cmdA (a : Nat) (q : Option Nat) : Nat := q.elim a (fun i => a + ((st_b (kC i)).length + 1))
set_option maxHeartbeats 4000000 in
set_option maxRecDepth 100000 in
theorem m_Rd_takeCommand (l : Launch) (D : va_G) (ct : Nat → ClassId) (b : Nat) (RO : State → Prop) (hR : fh_R b RO) (sA sV : Nat → Nat) (hSt : ∀ U, RO U → ro_S b sA sV U) (kA aA yA : Nat → Nat) (tK tS tM : Nat) (hEn : ∀ U, RO U → ro_E b sA kA aA yA tK tS tM U) (r : Nat) (hr : 5 ≤ r) (n x : Nat) (g : fh_H) (C : Nat → Nat → Int32) (R : Nat → Nat → Option Nat) (CL : Nat → Nat → Int32) (RL : Nat → Nat → Option Nat) (nc lc : Int32) (f : Nat → Int32) (L a : Nat) (hL : L ≤ 160) (ha : a ≤ 400) (hg1 : g (x + 1) = some (.inl (ct 1, 160, .inl f))) (hf7 : ∀ j, f j = (nI (ixI (f j))) ∧ ixI (f j) < 128) (hsa : sk f L a = a) : fh_C l D fh_cl (fh_tys ct) b RO y_Rd_takeCommand (Cond.code y_Rd_takeCommand c_Rd_takeCommand 3 (Option.some (FieldType.object "FormulaSetter$Kind")) :: fh_T) (fh_rm r 0 0) [.ref (x + 2)] (mkR x kA aA g nc lc (.ref (x + 1)) (nI L) (nI a) C R CL RL) n (fun v h' n' => v = some (va_rf ((cmdK f L a 0).map kA)) ∧ h' = mkR x kA aA g nc lc (.ref (x + 1)) (nI L) (nI (cmdA a (cmdK f L a 0))) C R CL RL ∧ n' = n) 0 0 := by
  refine fh_enter (by decide) (Nat.le_of_ble_eq_true rfl) [(0, .ref (x + 2))] rfl ?_
  intro p e s m args below meth c H ls X hP hS hl
  have hx := X.1
  have hb := X.2.1
  have hml := X.2.2.1
  have hown : s.vm.findClass "FormulaSetter$Reader" = some m.cls := X.2.2.2.1
  have hT := X.2.2.2.2.1
  have hK := X.2.2.2.2.2.1
  have hRO := X.2.2.2.2.2.2.1
  have hnm : meth.name = "takeCommand" := X.2.2.2.2.2.2.2.2.2.2
  have loop : ∀ (t k : Nat), 11 - k = t → k ≤ 11 → cmdK f L a k = cmdK f L a 0 → ∀ (H : Heap) (locs : List Loc) (ls : Array Slot), fh_P D fh_cl b (mkR x kA aA g nc lc (.ref (x + 1)) (nI L) (nI a) C R CL RL) n H → va_S (fh_A b) s.heap H locs → lv_has ls 3 [(1, .int (nI k)), (0, .ref (x + 2))] → W p l e (fh_rm r 0 0) s m args below meth c H locs 0 0 (MQ below (fh_Post D fh_cl b (fun v h' n' => v = some (va_rf ((cmdK f L a 0).map kA)) ∧ h' = mkR x kA aA g nc lc (.ref (x + 1)) (nI L) (nI (cmdA a (cmdK f L a 0))) C R CL RL ∧ n' = n)) args s 0 0 (fh_A b)) (F0 m 2 ls []) := by
    intro t
    induction t with
    | zero =>
      intro k hkt hk hix H locs ls hP hS hl
      refine lv_iload_n hx hb (fh_d d_Rd_takeCommand 2 rfl) rfl (lv_at hl 0 rfl) ?_
      refine va_getsN (own := "FormulaSetter$Reader") (ref := "FormulaSetter") (host := "FormulaSetter") hx hb (hEn _ hRO).2.2.2.1 hS hown (va_Nw.use rfl (hEn _ hRO).2.2.2.2.2.2.2.2.2) (fun _ h9 => h9) (fh_d d_Rd_takeCommand 3 rfl) ?_
      refine va_tlen (v := 11) hx hb (hEn _ hRO).2.2.2.2.1 hS rfl (fh_d d_Rd_takeCommand 4 rfl) ?_
      refine lv_icmp_ge (tgt := 63) hx hb (fh_d d_Rd_takeCommand 5 rfl) rfl (fun c1 => ?_) (fun c1 => absurd c1 (fun c9 => c1 ((nI_leI (a := 11) (b := k) (by decide) (by omega)).mpr (by omega))))
      refine lv_null hx hb (fh_d d_Rd_takeCommand 33 rfl) ?_
      have qn : cmdK f L a 0 = none := by rw [← hix, cmdK_n (by omega)]
      refine fh_aret (r := none) X hP hS (fh_d d_Rd_takeCommand 34 rfl) ⟨by rw [qn]; rfl, by rw [qn]; rfl, rfl⟩
    | succ t ih =>
      intro k hkt hk hix H locs ls hP hS hl
      refine lv_iload_n hx hb (fh_d d_Rd_takeCommand 2 rfl) rfl (lv_at hl 0 rfl) ?_
      refine va_getsN (own := "FormulaSetter$Reader") (ref := "FormulaSetter") (host := "FormulaSetter") hx hb (hEn _ hRO).2.2.2.1 hS hown (va_Nw.use rfl (hEn _ hRO).2.2.2.2.2.2.2.2.2) (fun _ h9 => h9) (fh_d d_Rd_takeCommand 3 rfl) ?_
      refine va_tlen (v := 11) hx hb (hEn _ hRO).2.2.2.2.1 hS rfl (fh_d d_Rd_takeCommand 4 rfl) ?_
      refine lv_icmp_ge (tgt := 63) hx hb (fh_d d_Rd_takeCommand 5 rfl) rfl (fun c2 => absurd c2 (fun c9 => absurd ((nI_leI (a := 11) (b := k) (by decide) (by omega)).mp c9) (by omega))) (fun c2 => ?_)
      refine va_getsN (own := "FormulaSetter$Reader") (ref := "FormulaSetter") (host := "FormulaSetter") hx hb (hEn _ hRO).2.2.2.1 hS hown (va_Nw.use rfl (hEn _ hRO).2.2.2.2.2.2.2.2.2) (fun _ h9 => h9) (fh_d d_Rd_takeCommand 6 rfl) ?_
      refine lv_iload_n hx hb (fh_d d_Rd_takeCommand 7 rfl) rfl (lv_at hl 0 rfl) ?_
      refine vb_tq (v := .ref (kA k)) hx hb (hEn _ hRO).2.2.2.2.1 hS (i := nI k) (vp_in_nI (by omega) (by decide)) (by rw [nI_clamp (show k < 2 ^ 31 from Nat.lt_trans (show k < 11 from by omega) (by decide))]) (fh_d d_Rd_takeCommand 8 rfl) ?_
      refine lv_astore_n (lv' := [(2, .ref (kA k)), (1, .int (nI k)), (0, .ref (x + 2))]) hx hb (fh_d d_Rd_takeCommand 9 rfl) rfl hl (by decide) rfl (fun ls hl => ?_)
      refine lv_aload_n hx hb (fh_d d_Rd_takeCommand 10 rfl) rfl (lv_at hl 0 rfl) ?_
      refine vk_getf (own := "FormulaSetter$Reader") (ref := "FormulaSetter$Kind") hx hb (((hEn _ hRO).1 k (by omega)).2.2.2.1) hS hown (hT _ w1243) (fun _ h9 => h9) (fh_d d_Rd_takeCommand 11 rfl) ?_
      refine fh_callV (cc' := c_St_isEmpty) (nL' := 1) (rest := []) (a := sA (kC k)) (As := []) X hR (m_St_isEmpty l D ct b RO sA sV hSt (r - 1) n (kC k) (kC_lt k (by omega)) (mkR x kA aA g nc lc (.ref (x + 1)) (nI L) (nI a) C R CL RL)) w405 w402 w403 w404 w15 ⟨by decide, by decide, by show _ = some 0; decide +kernel⟩ (by omega) (by decide) (fs_recv ((hSt _ hRO).1 (kC k) (kC_lt k (by omega))).1 hS) hP hS hl.1 rfl (by exact Nat.le_of_ble_eq_true rfl) (fh_d d_Rd_takeCommand 12 rfl) ⟨Nat.le_refl _, Nat.le_refl _⟩ (fun v9 h9 n9 H locs hq hP hS => ?_)
      obtain ⟨rfl, u3, u4⟩ := hq
      rw [u3, u4] at hP
      refine lv_if_ne (tgt := 57) hx hb (fh_d d_Rd_takeCommand 13 rfl) rfl (fun c5 => ?_) (fun c5 => ?_)
      · refine lv_iinc (k := 1) (v := (nI k) + 1) (lv' := [(1, .int ((nI k) + 1)), (2, .ref (kA k)), (0, .ref (x + 2))]) hx hb (fh_d d_Rd_takeCommand 31 rfl) hl rfl (by rfl) (by decide) rfl (fun ls hl => ?_)
        refine lv_goto (tgt := 2) hx hb (fh_d d_Rd_takeCommand 32 rfl) rfl ?_
        rw [nI_1] at hl
        exact ih (k + 1) (by omega) (by omega) (by rw [← hix, cmdK_s (k := k) (by omega) (fun z => c5 (if_neg z.1))]) H _ _ hP hS (lv_sub hl [0, 2] rfl)
      · refine lv_aload_n hx hb (fh_d d_Rd_takeCommand 14 rfl) rfl (lv_at hl 2 rfl) ?_
        refine lv_aload_n hx hb (fh_d d_Rd_takeCommand 15 rfl) rfl (lv_at hl 0 rfl) ?_
        refine vk_getf (own := "FormulaSetter$Reader") (ref := "FormulaSetter$Kind") hx hb (((hEn _ hRO).1 k (by omega)).2.2.2.1) hS hown (hT _ w1243) (fun _ h9 => h9) (fh_d d_Rd_takeCommand 16 rfl) ?_
        have hC := m_Rd_seesCommand l D ct b RO hR sA sV hSt (r - 1) (by omega) n x kA aA g C R CL RL nc lc f L a hL ha hg1 hf7 (kC k) (kC_lt k (by omega))
        rw [hsa] at hC
        refine fh_callV (cc' := c_Rd_seesCommand) (nL' := 4) (rest := []) (a := x + 2) (As := [.ref (sA (kC k))]) X hR (hC) w328 w325 w327 v5 w2 ⟨by decide, by decide, by show _ = some 1; decide +kernel⟩ (by omega) (by decide) (fh_recv hK hP mkR_rd rfl) hP hS hl.1 rfl (by exact Nat.le_of_ble_eq_true rfl) (fh_d d_Rd_takeCommand 17 rfl) ⟨Nat.le_refl _, Nat.le_refl _⟩ (fun v9 h9 n9 H locs hq hP hS => ?_)
        obtain ⟨rfl, u6, u7⟩ := hq
        rw [u6, u7] at hP
        refine lv_if_eq (tgt := 57) hx hb (fh_d d_Rd_takeCommand 18 rfl) rfl (fun c8 => ?_) (fun c8 => ?_)
        · refine lv_iinc (k := 1) (v := (nI k) + 1) (lv' := [(1, .int ((nI k) + 1)), (2, .ref (kA k)), (0, .ref (x + 2))]) hx hb (fh_d d_Rd_takeCommand 31 rfl) hl rfl (by rfl) (by decide) rfl (fun ls hl => ?_)
          refine lv_goto (tgt := 2) hx hb (fh_d d_Rd_takeCommand 32 rfl) rfl ?_
          rw [nI_1] at hl
          exact ih (k + 1) (by omega) (by omega) (by rw [← hix, cmdK_s (k := k) (by omega) (fun z => absurd c8 (by rw [if_pos z.2]; decide))]) H _ _ hP hS (lv_sub hl [0, 2] rfl)
        · refine lv_aload_n hx hb (fh_d d_Rd_takeCommand 19 rfl) rfl (lv_at hl 2 rfl) ?_
          refine lv_dup hx hb (fh_d d_Rd_takeCommand 20 rfl) rfl ?_
          refine fh_get (own := "FormulaSetter$Reader") (ref := "FormulaSetter$Reader") (C := "FormulaSetter$Reader") (T := T_Rd) (N := 7) (v := .int (nI a)) hx hb hT i_Rd hown hK hP mkR_rd rfl 6 (by decide) (hT _ w186) (fun _ h9 => h9) (rfl) (fh_d d_Rd_takeCommand 21 rfl) ?_
          refine lv_aload_n hx hb (fh_d d_Rd_takeCommand 22 rfl) rfl (lv_at hl 0 rfl) ?_
          refine vk_getf (own := "FormulaSetter$Reader") (ref := "FormulaSetter$Kind") hx hb (((hEn _ hRO).1 k (by omega)).2.2.2.1) hS hown (hT _ w1243) (fun _ h9 => h9) (fh_d d_Rd_takeCommand 23 rfl) ?_
          refine fh_callV (cc' := c_St_length) (nL' := 1) (rest := [.int (nI a), .ref (x + 2)]) (a := sA (kC k)) (As := []) X hR (m_St_length l D ct b RO hR sA sV hSt (r - 1) n (kC k) (by omega) (kC_lt k (by omega)) (mkR x kA aA g nc lc (.ref (x + 1)) (nI L) (nI a) C R CL RL)) w332 w329 w330 w331 w15 ⟨by decide, by decide, by show _ = some 0; decide +kernel⟩ (by omega) (by decide) (fs_recv ((hSt _ hRO).1 (kC k) (kC_lt k (by omega))).1 hS) hP hS hl.1 rfl (by exact Nat.le_of_ble_eq_true rfl) (fh_d d_Rd_takeCommand 24 rfl) ⟨Nat.le_refl _, Nat.le_refl _⟩ (fun v9 h9 n9 H locs hq hP hS => ?_)
          obtain ⟨rfl, u9, u10⟩ := hq
          rw [u9, u10] at hP
          refine lv_iconst (v := 1) hx hb (fh_d d_Rd_takeCommand 25 rfl) (by decide) ?_
          refine lv_iadd hx hb (fh_d d_Rd_takeCommand 26 rfl) ?_
          refine lv_iadd hx hb (fh_d d_Rd_takeCommand 27 rfl) ?_
          refine fh_put (own := "FormulaSetter$Reader") (ref := "FormulaSetter$Reader") (C := "FormulaSetter$Reader") (T := T_Rd) (N := 7) (v := .int ((nI a) + ((nI (st_b (kC k)).length) + 1))) (ty := .int) hx hb hT i_Rd t_Rd k_Rd n_Rd hown hK hP hS mkR_rd rfl 6 (by decide) (hT _ w186) (fun _ h9 => h9) rfl (by decide +kernel) rfl rfl (Nat.le_of_ble_eq_true rfl) (fh_d d_Rd_takeCommand 28 rfl) (fun H locs hP hS => ?_)
          replace hP := fh_P.eq (h' := mkR x kA aA g nc lc (.ref (x + 1)) (nI L) ((nI a) + ((nI (st_b (kC k)).length) + 1)) C R CL RL) hP mkR_urd
          refine lv_aload_n hx hb (fh_d d_Rd_takeCommand 29 rfl) rfl (lv_at hl 0 rfl) ?_
          have qn : cmdK f L a 0 = some k := by rw [← hix, cmdK_y (by omega) ⟨fun z => absurd c5 (by rw [if_pos z]; decide), Classical.byContradiction fun z => c8 (if_neg z)⟩]
          rw [nI_1, nI_add] at hP
          refine fh_aret (r := some (kA k)) X hP hS (fh_d d_Rd_takeCommand 30 rfl) ⟨by rw [qn]; rfl, by rw [qn]; rfl, rfl⟩
  refine lv_iconst (v := 0) hx hb (fh_d d_Rd_takeCommand 0 rfl) (by decide) ?_
  refine lv_istore_n (lv' := [(1, .int 0), (0, .ref (x + 2))]) hx hb (fh_d d_Rd_takeCommand 1 rfl) rfl hl (by decide) rfl (fun ls hl => ?_)
  exact loop _ 0 rfl (by omega) rfl H _ _ hP hS hl
