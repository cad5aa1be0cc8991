/-! The class's reading as pure functions of its tables: (nuclei made, lines made, place, C, R, CL, RL). By hand. -/
abbrev RT : Type := Nat × Nat × Nat × (Nat → Nat → Int32) × (Nat → Nat → Option Nat) × (Nat → Nat → Int32) × (Nat → Nat → Option Nat)
/-- scripts of nucleus i; k more may come -/
def pScr (f : Nat → Int32) (L : Nat) (N1 : RT → Option RT) (i : Nat) : Nat → RT → Option RT
  | 0, S => some S
  | k + 1, (nc, lc, a, C, R, CL, RL) =>
    if hre f L (sk f L a) = 94 then
      (if R i 12 = none then (N1 (nc, lc, sk f L a + 1, C, R, CL, RL)).bind fun (nc1, lc1, a1, C1, R1, CL1, RL1) => pScr f L N1 i k (nc1, lc1, a1, C1, sT R1 i 12 (some nc), CL1, RL1) else none)
    else if hre f L (sk f L a) = 95 then
      (if R i 13 = none then (N1 (nc, lc, sk f L a + 1, C, R, CL, RL)).bind fun (nc1, lc1, a1, C1, R1, CL1, RL1) => pScr f L N1 i k (nc1, lc1, a1, C1, sT R1 i 13 (some nc), CL1, RL1) else none)
    else some (nc, lc, sk f L a, C, R, CL, RL)
/-- items of line j; its are those that stand -/
def pLine (f : Nat → Int32) (L : Nat) (N : RT → Option RT) (N1 : RT → Option RT) (j : Nat) : Nat → List Nat → RT → Option RT
  | 0, _, _ => none
  | t + 1, its, (nc, lc, a, C, R, CL, RL) =>
    if lend f L (sk f L a) then some (nc, lc, sk f L a, C, st2 (st1 R none its) its, CL, RL)
    else (N (nc, lc, sk f L a, C, R, CL, RL)).bind fun S1 => (pScr f L N1 nc 2 S1).bind fun (nc2, lc2, a2, C2, R2, CL2, RL2) => pLine f L N N1 j t (its ++ [nc]) (nc2, lc2, a2, C2, its.getLast?.elim R2 (fun q => sT R2 q 14 (some nc)), CL2, its.getLast?.elim (sT RL2 j 5 (some nc)) (fun _ => RL2))
def pLn (f : Nat → Int32) (L : Nat) (N N1 : RT → Option RT) : RT → Option RT
  | (nc, lc, a, C, R, CL, RL) => if lc < 161 then pLine f L N N1 lc 61 [] (nc, lc + 1, a, C, R, li_c CL lc, nu_r RL lc) else none
/-- cells of nucleus i -/
def pCell (f : Nat → Int32) (L : Nat) (L1 : RT → Option RT) (i : Nat) : Nat → Nat → Nat → Option Nat → RT → Option RT
  | 0, _, _, _, _ => none
  | t + 1, row, col, last, (nc, lc, a, C, R, CL, RL) =>
    if row < 8 ∧ col < 8 then (L1 (nc, lc, a, C, R, CL, RL)).bind fun (nc1, lc1, a1, C1, R1, CL1, RL1) =>
      if hre f L (sk f L a1) = 125 then some (nc1, lc1, sk f L a1 + 1, C1, last.elim (sT R1 i 11 (some lc)) (fun _ => R1), sT (sT CL1 lc 6 (nI row)) lc 7 (nI col), last.elim RL1 (fun q => sT RL1 q 8 (some lc)))
      else if hre f L (sk f L a1) = 38 then pCell f L L1 i t row (col + 1) (some lc) (nc1, lc1, sk f L a1 + 1, C1, last.elim (sT R1 i 11 (some lc)) (fun _ => R1), sT (sT CL1 lc 6 (nI row)) lc 7 (nI col), last.elim RL1 (fun q => sT RL1 q 8 (some lc)))
      else if hre f L (sk f L a1) = 92 ∧ hre f L (sk f L a1 + 1) = 92 then pCell f L L1 i t (row + 1) 0 (some lc) (nc1, lc1, sk f L a1 + 2, C1, last.elim (sT R1 i 11 (some lc)) (fun _ => R1), sT (sT CL1 lc 6 (nI row)) lc 7 (nI col), last.elim RL1 (fun q => sT RL1 q 8 (some lc)))
      else none
    else none
def pCells (f : Nat → Int32) (L : Nat) (L1 : RT → Option RT) (i : Nat) : RT → Option RT
  | (nc, lc, a, C, R, CL, RL) => if hre f L (sk f L a) = 123 then pCell f L L1 i 161 0 0 none (nc, lc, sk f L a + 1, C, R, CL, RL) else none
/-- what lies between two sides -/
def pSides (f : Nat → Int32) (L : Nat) (L1 : RT → Option RT) (i : Nat) : RT → Option RT
  | (nc, lc, a, C, R, CL, RL) => if isSd (hre f L (sk f L a)) then
      (L1 (nc, lc, sk f L a + 1, sT C i 7 (hre f L (sk f L a)), R, CL, RL)).bind fun (nc1, lc1, a1, C1, R1, CL1, RL1) =>
        if scm f L (sk f L a1) 0 then
          (if isSd (hre f L (sk f L (sk f L a1 + 6))) then some (nc1, lc1, sk f L (sk f L a1 + 6) + 1, sT C1 i 8 (hre f L (sk f L (sk f L a1 + 6))), sT R1 i 11 (some lc), CL1, RL1) else none)
        else none
    else none
/-- what belongs to a nucleus i of kind k -/
def pParts (f : Nat → Int32) (L : Nat) (N1 L1 : RT → Option RT) (k i : Nat) : RT → Option RT
  | (nc, lc, a, C, R, CL, RL) =>
    if k = 1 then (L1 (nc, lc, a, C, R, CL, RL)).bind fun (nc1, lc1, a1, C1, R1, CL1, RL1) => if hre f L (sk f L a1) = 125 then some (nc1, lc1, sk f L a1 + 1, C1, sT R1 i 11 (some lc), CL1, RL1) else none
    else if k = 5 then (N1 (nc, lc, a, C, R, CL, RL)).bind fun (nc1, lc1, a1, C1, R1, CL1, RL1) => (N1 (nc1, lc1, a1, C1, sT R1 i 9 (some nc), CL1, RL1)).bind fun (nc2, lc2, a2, C2, R2, CL2, RL2) => some (nc2, lc2, a2, C2, sT R2 i 10 (some nc1), CL2, RL2)
    else if k = 6 ∨ k = 7 ∨ k = 8 then (N1 (nc, lc, a, C, R, CL, RL)).bind fun (nc1, lc1, a1, C1, R1, CL1, RL1) => some (nc1, lc1, a1, C1, sT R1 i 9 (some nc), CL1, RL1)
    else if k = 9 then pSides f L L1 i (nc, lc, a, C, R, CL, RL)
    else if k = 10 then pCells f L L1 i (nc, lc, a, C, R, CL, RL)
    else some (nc, lc, a, C, R, CL, RL)
def pNu (f : Nat → Int32) (L : Nat) (N1 L1 : RT → Option RT) : RT → Option RT
  | (nc, lc, a, C, R, CL, RL) => if nc < 60 then (rdHead f L (sk f L a)).bind fun (k, a', cd, t) => pParts f L N1 L1 k nc (nc + 1, lc, a', sT (nu_c C nc) nc 7 cd, sT (sT (nu_r R nc) nc 5 (some k)) nc 6 (some t), CL, RL) else none
/-- a nucleus, d levels above the deepest -/
def pN (f : Nat → Int32) (L : Nat) : Nat → RT → Option RT
  | 0 => fun _ => none
  | d + 1 => pNu f L (pN f L d) (pLn f L (pN f L d) (pN f L (d - 1)))
def pL (f : Nat → Int32) (L d : Nat) : RT → Option RT := pLn f L (pN f L d) (pN f L (d - 1))
/-- an answer that is an object or null; an answer that is yes or no -/
def rdP (x : Nat) (kA aA : Nat → Nat) (g : fh_H) (L n ad : Nat) (q : Option RT) (v : Option Value) (h' : fh_H) (n' : Nat) : Prop := n' = n ∧ ((∃ nc lc a C R CL RL, q = some (nc, lc, a, C, R, CL, RL) ∧ v = some (.ref ad) ∧ h' = mkR x kA aA g (nI nc) (nI lc) (.ref (x + 1)) (nI L) (nI a) C R CL RL) ∨ (q = none ∧ v = some (va_rf none) ∧ rdF x kA aA g L h'))
def rdB (x : Nat) (kA aA : Nat → Nat) (g : fh_H) (L n : Nat) (q : Option RT) (v : Option Value) (h' : fh_H) (n' : Nat) : Prop := n' = n ∧ ((∃ nc lc a C R CL RL, q = some (nc, lc, a, C, R, CL, RL) ∧ v = some (.int 1) ∧ h' = mkR x kA aA g (nI nc) (nI lc) (.ref (x + 1)) (nI L) (nI a) C R CL RL) ∨ (q = none ∧ v = some (.int 0) ∧ rdF x kA aA g L h'))
