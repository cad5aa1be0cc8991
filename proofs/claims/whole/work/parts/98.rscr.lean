/-! The reference: setScripts. Printed by wip/whole/gen/p98.py -/
theorem upd_n {f : Nat → Int32} {n k : Nat} {v : Int32} (h : k ≠ n) : upd f n v k = f k := if_neg h
theorem nI_z4 {k : Nat} (h : k < 400) (e : nI k = 0) : k = 0 := (nI_eq (a := k) (b := 0) (by omega) (by decide)).mp e
def rf_sc (A : Nat → Nat → Int32) (n0 s0 u lo : Nat) : Nat → Nat → Int32 := if u = 0 then (if lo = 0 then (up2 (up2 (up2 (up2 A 25 (upd (A 25) n0 ((A 22) n0))) 26 (upd (A 26) n0 ((A 23) n0))) 27 (upd (A 27) n0 ((A 24) n0))) 28 (upd (A 28) n0 0)) else (if A 1 n0 = 0 then (up2 (up2 (up2 (up2 A 25 (upd (A 25) n0 ((A 22) n0))) 26 (upd (A 26) n0 ((A 23) n0))) 27 (upd (A 27) n0 ((A 24) n0))) 28 (upd (A 28) n0 0)) else (if A 1 n0 = 2 ∧ ¬ A 2 n0 = 73 ∧ s0 = 0 then (up2 (up2 (up2 (up2 (up2 (up2 (up2 (up2 (up2 A 25 (upd (A 25) n0 ((A 22) n0))) 26 (upd (A 26) n0 ((A 23) n0))) 27 (upd (A 27) n0 ((A 24) n0))) 28 (upd (A 28) n0 0)) 25 (upd (upd (A 25) n0 ((A 22) n0)) n0 (ms ((A 22) n0) (ms 0 ((A 25) lo))))) 28 (upd (upd (A 28) n0 0) n0 (((ms ((A 22) n0) (ms 0 ((A 25) lo))) - ((A 22) n0)) / 2))) 29 (upd (A 29) lo (((ms ((A 22) n0) (ms 0 ((A 25) lo))) - ((A 25) lo)) / 2))) 30 (upd (A 30) lo (-((((A 24) n0) + (2 * (yT s0))) + ((A 26) lo))))) 27 (upd (upd (A 27) n0 ((A 24) n0)) n0 (((A 27) lo) - (-((((A 24) n0) + (2 * (yT s0))) + ((A 26) lo)))))) else (if A 1 n0 = 2 then (if A 2 n0 = 73 then (up2 (up2 (up2 (up2 (up2 (up2 (up2 (up2 A 25 (upd (A 25) n0 ((A 22) n0))) 26 (upd (A 26) n0 ((A 23) n0))) 27 (upd (A 27) n0 ((A 24) n0))) 28 (upd (A 28) n0 0)) 29 (upd (A 29) lo (((A 22) n0) - (yS s0)))) 30 (upd (A 30) lo (-(ms (ms (2 * (yS s0)) (((A 24) n0) + ((yS s0) / 2))) (((A 26) lo) - (4 * (yS s0))))))) 27 (upd (upd (A 27) n0 ((A 24) n0)) n0 (ms ((A 24) n0) ((ms (ms (2 * (yS s0)) (((A 24) n0) + ((yS s0) / 2))) (((A 26) lo) - (4 * (yS s0)))) + ((A 27) lo))))) 25 (upd (upd (A 25) n0 ((A 22) n0)) n0 ((ms ((A 22) n0) ((((A 22) n0) - (yS s0)) + ((A 25) lo))) + ((yS s0) / 2)))) else (up2 (up2 (up2 (up2 (up2 (up2 (up2 (up2 A 25 (upd (A 25) n0 ((A 22) n0))) 26 (upd (A 26) n0 ((A 23) n0))) 27 (upd (A 27) n0 ((A 24) n0))) 28 (upd (A 28) n0 0)) 29 (upd (A 29) lo ((A 22) n0))) 30 (upd (A 30) lo (-(ms (ms (2 * (yS s0)) (((A 24) n0) + ((yS s0) / 2))) (((A 26) lo) - (4 * (yS s0))))))) 27 (upd (upd (A 27) n0 ((A 24) n0)) n0 (ms ((A 24) n0) ((ms (ms (2 * (yS s0)) (((A 24) n0) + ((yS s0) / 2))) (((A 26) lo) - (4 * (yS s0)))) + ((A 27) lo))))) 25 (upd (upd (A 25) n0 ((A 22) n0)) n0 ((ms ((A 22) n0) (((A 22) n0) + ((A 25) lo))) + ((yS s0) / 2))))) else (up2 (up2 (up2 (up2 (up2 (up2 (up2 (up2 A 25 (upd (A 25) n0 ((A 22) n0))) 26 (upd (A 26) n0 ((A 23) n0))) 27 (upd (A 27) n0 ((A 24) n0))) 28 (upd (A 28) n0 0)) 29 (upd (A 29) lo ((A 22) n0))) 30 (upd (A 30) lo (-(ms (ms (2 * (yS s0)) (((A 24) n0) + ((yS s0) / 2))) (((A 26) lo) - (4 * (yS s0))))))) 27 (upd (upd (A 27) n0 ((A 24) n0)) n0 (ms ((A 24) n0) ((ms (ms (2 * (yS s0)) (((A 24) n0) + ((yS s0) / 2))) (((A 26) lo) - (4 * (yS s0)))) + ((A 27) lo))))) 25 (upd (upd (A 25) n0 ((A 22) n0)) n0 ((ms ((A 22) n0) (((A 22) n0) + ((A 25) lo))) + ((yS s0) / 2)))))))) else (if lo = 0 then (if A 1 n0 = 0 then (up2 (up2 (up2 (up2 A 25 (upd (A 25) n0 ((A 22) n0))) 26 (upd (A 26) n0 ((A 23) n0))) 27 (upd (A 27) n0 ((A 24) n0))) 28 (upd (A 28) n0 0)) else (if A 1 n0 = 2 ∧ ¬ A 2 n0 = 73 ∧ s0 = 0 then (up2 (up2 (up2 (up2 (up2 (up2 (up2 (up2 (up2 A 25 (upd (A 25) n0 ((A 22) n0))) 26 (upd (A 26) n0 ((A 23) n0))) 27 (upd (A 27) n0 ((A 24) n0))) 28 (upd (A 28) n0 0)) 25 (upd (upd (A 25) n0 ((A 22) n0)) n0 (ms ((A 22) n0) (ms ((A 25) u) 0)))) 28 (upd (upd (A 28) n0 0) n0 (((ms ((A 22) n0) (ms ((A 25) u) 0)) - ((A 22) n0)) / 2))) 29 (upd (A 29) u (((ms ((A 22) n0) (ms ((A 25) u) 0)) - ((A 25) u)) / 2))) 30 (upd (A 30) u ((((A 23) n0) + (2 * (yT s0))) + ((A 27) u)))) 26 (upd (upd (A 26) n0 ((A 23) n0)) n0 (((((A 23) n0) + (2 * (yT s0))) + ((A 27) u)) + ((A 26) u)))) else (if A 21 n0 = 0 then (up2 (up2 (up2 (up2 (up2 (up2 (up2 (up2 A 25 (upd (A 25) n0 ((A 22) n0))) 26 (upd (A 26) n0 ((A 23) n0))) 27 (upd (A 27) n0 ((A 24) n0))) 28 (upd (A 28) n0 0)) 29 (upd (A 29) u ((A 22) n0))) 30 (upd (A 30) u (ms (ms (4 * (yS s0)) (((A 23) n0) - (2 * (yS s0)))) (((A 27) u) + (yS s0))))) 26 (upd (upd (A 26) n0 ((A 23) n0)) n0 (ms ((A 23) n0) ((ms (ms (4 * (yS s0)) (((A 23) n0) - (2 * (yS s0)))) (((A 27) u) + (yS s0))) + ((A 26) u))))) 25 (upd (upd (A 25) n0 ((A 22) n0)) n0 ((((A 22) n0) + ((A 25) u)) + ((yS s0) / 2)))) else (up2 (up2 (up2 (up2 (up2 (up2 (up2 (up2 A 25 (upd (A 25) n0 ((A 22) n0))) 26 (upd (A 26) n0 ((A 23) n0))) 27 (upd (A 27) n0 ((A 24) n0))) 28 (upd (A 28) n0 0)) 29 (upd (A 29) u ((A 22) n0))) 30 (upd (A 30) u (ms (ms (3 * (yS s0)) (((A 23) n0) - (2 * (yS s0)))) (((A 27) u) + (yS s0))))) 26 (upd (upd (A 26) n0 ((A 23) n0)) n0 (ms ((A 23) n0) ((ms (ms (3 * (yS s0)) (((A 23) n0) - (2 * (yS s0)))) (((A 27) u) + (yS s0))) + ((A 26) u))))) 25 (upd (upd (A 25) n0 ((A 22) n0)) n0 ((((A 22) n0) + ((A 25) u)) + ((yS s0) / 2))))))) else (if A 1 n0 = 0 then (up2 (up2 (up2 (up2 A 25 (upd (A 25) n0 ((A 22) n0))) 26 (upd (A 26) n0 ((A 23) n0))) 27 (upd (A 27) n0 ((A 24) n0))) 28 (upd (A 28) n0 0)) else (if A 1 n0 = 2 ∧ ¬ A 2 n0 = 73 ∧ s0 = 0 then (up2 (up2 (up2 (up2 (up2 (up2 (up2 (up2 (up2 (up2 (up2 (up2 A 25 (upd (A 25) n0 ((A 22) n0))) 26 (upd (A 26) n0 ((A 23) n0))) 27 (upd (A 27) n0 ((A 24) n0))) 28 (upd (A 28) n0 0)) 25 (upd (upd (A 25) n0 ((A 22) n0)) n0 (ms ((A 22) n0) (ms ((A 25) u) ((A 25) lo))))) 28 (upd (upd (A 28) n0 0) n0 (((ms ((A 22) n0) (ms ((A 25) u) ((A 25) lo))) - ((A 22) n0)) / 2))) 29 (upd (A 29) u (((ms ((A 22) n0) (ms ((A 25) u) ((A 25) lo))) - ((A 25) u)) / 2))) 30 (upd (A 30) u ((((A 23) n0) + (2 * (yT s0))) + ((A 27) u)))) 26 (upd (upd (A 26) n0 ((A 23) n0)) n0 (((((A 23) n0) + (2 * (yT s0))) + ((A 27) u)) + ((A 26) u)))) 29 (upd (upd (A 29) u (((ms ((A 22) n0) (ms ((A 25) u) ((A 25) lo))) - ((A 25) u)) / 2)) lo (((ms ((A 22) n0) (ms ((A 25) u) ((A 25) lo))) - ((A 25) lo)) / 2))) 30 (upd (upd (A 30) u ((((A 23) n0) + (2 * (yT s0))) + ((A 27) u))) lo (-((((A 24) n0) + (2 * (yT s0))) + ((A 26) lo))))) 27 (upd (upd (A 27) n0 ((A 24) n0)) n0 (((A 27) lo) - (-((((A 24) n0) + (2 * (yT s0))) + ((A 26) lo)))))) else (if A 21 n0 = 0 then (if ((ms (ms (4 * (yS s0)) (((A 23) n0) - (2 * (yS s0)))) (((A 27) u) + (yS s0))) - ((A 27) u)) - (((A 26) lo) - (ms (ms (2 * (yS s0)) (((A 24) n0) + ((yS s0) / 2))) (((A 26) lo) - (4 * (yS s0))))) < 4 * yT s0 then (if A 1 n0 = 2 then (if A 2 n0 = 73 then (up2 (up2 (up2 (up2 (up2 (up2 (up2 (up2 (up2 (up2 (up2 A 25 (upd (A 25) n0 ((A 22) n0))) 26 (upd (A 26) n0 ((A 23) n0))) 27 (upd (A 27) n0 ((A 24) n0))) 28 (upd (A 28) n0 0)) 29 (upd (A 29) u ((A 22) n0))) 30 (upd (A 30) u (ms (ms (4 * (yS s0)) (((A 23) n0) - (2 * (yS s0)))) (((A 27) u) + (yS s0))))) 26 (upd (upd (A 26) n0 ((A 23) n0)) n0 (ms ((A 23) n0) ((ms (ms (4 * (yS s0)) (((A 23) n0) - (2 * (yS s0)))) (((A 27) u) + (yS s0))) + ((A 26) u))))) 29 (upd (upd (A 29) u ((A 22) n0)) lo (((A 22) n0) - (yS s0)))) 30 (upd (upd (A 30) u (ms (ms (4 * (yS s0)) (((A 23) n0) - (2 * (yS s0)))) (((A 27) u) + (yS s0)))) lo (-(((ms (ms (2 * (yS s0)) (((A 24) n0) + ((yS s0) / 2))) (((A 26) lo) - (4 * (yS s0)))) + (4 * (yT s0))) - (((ms (ms (4 * (yS s0)) (((A 23) n0) - (2 * (yS s0)))) (((A 27) u) + (yS s0))) - ((A 27) u)) - (((A 26) lo) - (ms (ms (2 * (yS s0)) (((A 24) n0) + ((yS s0) / 2))) (((A 26) lo) - (4 * (yS s0)))))))))) 27 (upd (upd (A 27) n0 ((A 24) n0)) n0 (ms ((A 24) n0) ((((ms (ms (2 * (yS s0)) (((A 24) n0) + ((yS s0) / 2))) (((A 26) lo) - (4 * (yS s0)))) + (4 * (yT s0))) - (((ms (ms (4 * (yS s0)) (((A 23) n0) - (2 * (yS s0)))) (((A 27) u) + (yS s0))) - ((A 27) u)) - (((A 26) lo) - (ms (ms (2 * (yS s0)) (((A 24) n0) + ((yS s0) / 2))) (((A 26) lo) - (4 * (yS s0))))))) + ((A 27) lo))))) 25 (upd (upd (A 25) n0 ((A 22) n0)) n0 ((ms (((A 22) n0) + ((A 25) u)) ((((A 22) n0) - (yS s0)) + ((A 25) lo))) + ((yS s0) / 2)))) else (up2 (up2 (up2 (up2 (up2 (up2 (up2 (up2 (up2 (up2 (up2 A 25 (upd (A 25) n0 ((A 22) n0))) 26 (upd (A 26) n0 ((A 23) n0))) 27 (upd (A 27) n0 ((A 24) n0))) 28 (upd (A 28) n0 0)) 29 (upd (A 29) u ((A 22) n0))) 30 (upd (A 30) u (ms (ms (4 * (yS s0)) (((A 23) n0) - (2 * (yS s0)))) (((A 27) u) + (yS s0))))) 26 (upd (upd (A 26) n0 ((A 23) n0)) n0 (ms ((A 23) n0) ((ms (ms (4 * (yS s0)) (((A 23) n0) - (2 * (yS s0)))) (((A 27) u) + (yS s0))) + ((A 26) u))))) 29 (upd (upd (A 29) u ((A 22) n0)) lo ((A 22) n0))) 30 (upd (upd (A 30) u (ms (ms (4 * (yS s0)) (((A 23) n0) - (2 * (yS s0)))) (((A 27) u) + (yS s0)))) lo (-(((ms (ms (2 * (yS s0)) (((A 24) n0) + ((yS s0) / 2))) (((A 26) lo) - (4 * (yS s0)))) + (4 * (yT s0))) - (((ms (ms (4 * (yS s0)) (((A 23) n0) - (2 * (yS s0)))) (((A 27) u) + (yS s0))) - ((A 27) u)) - (((A 26) lo) - (ms (ms (2 * (yS s0)) (((A 24) n0) + ((yS s0) / 2))) (((A 26) lo) - (4 * (yS s0)))))))))) 27 (upd (upd (A 27) n0 ((A 24) n0)) n0 (ms ((A 24) n0) ((((ms (ms (2 * (yS s0)) (((A 24) n0) + ((yS s0) / 2))) (((A 26) lo) - (4 * (yS s0)))) + (4 * (yT s0))) - (((ms (ms (4 * (yS s0)) (((A 23) n0) - (2 * (yS s0)))) (((A 27) u) + (yS s0))) - ((A 27) u)) - (((A 26) lo) - (ms (ms (2 * (yS s0)) (((A 24) n0) + ((yS s0) / 2))) (((A 26) lo) - (4 * (yS s0))))))) + ((A 27) lo))))) 25 (upd (upd (A 25) n0 ((A 22) n0)) n0 ((ms (((A 22) n0) + ((A 25) u)) (((A 22) n0) + ((A 25) lo))) + ((yS s0) / 2))))) else (up2 (up2 (up2 (up2 (up2 (up2 (up2 (up2 (up2 (up2 (up2 A 25 (upd (A 25) n0 ((A 22) n0))) 26 (upd (A 26) n0 ((A 23) n0))) 27 (upd (A 27) n0 ((A 24) n0))) 28 (upd (A 28) n0 0)) 29 (upd (A 29) u ((A 22) n0))) 30 (upd (A 30) u (ms (ms (4 * (yS s0)) (((A 23) n0) - (2 * (yS s0)))) (((A 27) u) + (yS s0))))) 26 (upd (upd (A 26) n0 ((A 23) n0)) n0 (ms ((A 23) n0) ((ms (ms (4 * (yS s0)) (((A 23) n0) - (2 * (yS s0)))) (((A 27) u) + (yS s0))) + ((A 26) u))))) 29 (upd (upd (A 29) u ((A 22) n0)) lo ((A 22) n0))) 30 (upd (upd (A 30) u (ms (ms (4 * (yS s0)) (((A 23) n0) - (2 * (yS s0)))) (((A 27) u) + (yS s0)))) lo (-(((ms (ms (2 * (yS s0)) (((A 24) n0) + ((yS s0) / 2))) (((A 26) lo) - (4 * (yS s0)))) + (4 * (yT s0))) - (((ms (ms (4 * (yS s0)) (((A 23) n0) - (2 * (yS s0)))) (((A 27) u) + (yS s0))) - ((A 27) u)) - (((A 26) lo) - (ms (ms (2 * (yS s0)) (((A 24) n0) + ((yS s0) / 2))) (((A 26) lo) - (4 * (yS s0)))))))))) 27 (upd (upd (A 27) n0 ((A 24) n0)) n0 (ms ((A 24) n0) ((((ms (ms (2 * (yS s0)) (((A 24) n0) + ((yS s0) / 2))) (((A 26) lo) - (4 * (yS s0)))) + (4 * (yT s0))) - (((ms (ms (4 * (yS s0)) (((A 23) n0) - (2 * (yS s0)))) (((A 27) u) + (yS s0))) - ((A 27) u)) - (((A 26) lo) - (ms (ms (2 * (yS s0)) (((A 24) n0) + ((yS s0) / 2))) (((A 26) lo) - (4 * (yS s0))))))) + ((A 27) lo))))) 25 (upd (upd (A 25) n0 ((A 22) n0)) n0 ((ms (((A 22) n0) + ((A 25) u)) (((A 22) n0) + ((A 25) lo))) + ((yS s0) / 2))))) else (if A 1 n0 = 2 then (if A 2 n0 = 73 then (up2 (up2 (up2 (up2 (up2 (up2 (up2 (up2 (up2 (up2 (up2 A 25 (upd (A 25) n0 ((A 22) n0))) 26 (upd (A 26) n0 ((A 23) n0))) 27 (upd (A 27) n0 ((A 24) n0))) 28 (upd (A 28) n0 0)) 29 (upd (A 29) u ((A 22) n0))) 30 (upd (A 30) u (ms (ms (4 * (yS s0)) (((A 23) n0) - (2 * (yS s0)))) (((A 27) u) + (yS s0))))) 26 (upd (upd (A 26) n0 ((A 23) n0)) n0 (ms ((A 23) n0) ((ms (ms (4 * (yS s0)) (((A 23) n0) - (2 * (yS s0)))) (((A 27) u) + (yS s0))) + ((A 26) u))))) 29 (upd (upd (A 29) u ((A 22) n0)) lo (((A 22) n0) - (yS s0)))) 30 (upd (upd (A 30) u (ms (ms (4 * (yS s0)) (((A 23) n0) - (2 * (yS s0)))) (((A 27) u) + (yS s0)))) lo (-(ms (ms (2 * (yS s0)) (((A 24) n0) + ((yS s0) / 2))) (((A 26) lo) - (4 * (yS s0))))))) 27 (upd (upd (A 27) n0 ((A 24) n0)) n0 (ms ((A 24) n0) ((ms (ms (2 * (yS s0)) (((A 24) n0) + ((yS s0) / 2))) (((A 26) lo) - (4 * (yS s0)))) + ((A 27) lo))))) 25 (upd (upd (A 25) n0 ((A 22) n0)) n0 ((ms (((A 22) n0) + ((A 25) u)) ((((A 22) n0) - (yS s0)) + ((A 25) lo))) + ((yS s0) / 2)))) else (up2 (up2 (up2 (up2 (up2 (up2 (up2 (up2 (up2 (up2 (up2 A 25 (upd (A 25) n0 ((A 22) n0))) 26 (upd (A 26) n0 ((A 23) n0))) 27 (upd (A 27) n0 ((A 24) n0))) 28 (upd (A 28) n0 0)) 29 (upd (A 29) u ((A 22) n0))) 30 (upd (A 30) u (ms (ms (4 * (yS s0)) (((A 23) n0) - (2 * (yS s0)))) (((A 27) u) + (yS s0))))) 26 (upd (upd (A 26) n0 ((A 23) n0)) n0 (ms ((A 23) n0) ((ms (ms (4 * (yS s0)) (((A 23) n0) - (2 * (yS s0)))) (((A 27) u) + (yS s0))) + ((A 26) u))))) 29 (upd (upd (A 29) u ((A 22) n0)) lo ((A 22) n0))) 30 (upd (upd (A 30) u (ms (ms (4 * (yS s0)) (((A 23) n0) - (2 * (yS s0)))) (((A 27) u) + (yS s0)))) lo (-(ms (ms (2 * (yS s0)) (((A 24) n0) + ((yS s0) / 2))) (((A 26) lo) - (4 * (yS s0))))))) 27 (upd (upd (A 27) n0 ((A 24) n0)) n0 (ms ((A 24) n0) ((ms (ms (2 * (yS s0)) (((A 24) n0) + ((yS s0) / 2))) (((A 26) lo) - (4 * (yS s0)))) + ((A 27) lo))))) 25 (upd (upd (A 25) n0 ((A 22) n0)) n0 ((ms (((A 22) n0) + ((A 25) u)) (((A 22) n0) + ((A 25) lo))) + ((yS s0) / 2))))) else (up2 (up2 (up2 (up2 (up2 (up2 (up2 (up2 (up2 (up2 (up2 A 25 (upd (A 25) n0 ((A 22) n0))) 26 (upd (A 26) n0 ((A 23) n0))) 27 (upd (A 27) n0 ((A 24) n0))) 28 (upd (A 28) n0 0)) 29 (upd (A 29) u ((A 22) n0))) 30 (upd (A 30) u (ms (ms (4 * (yS s0)) (((A 23) n0) - (2 * (yS s0)))) (((A 27) u) + (yS s0))))) 26 (upd (upd (A 26) n0 ((A 23) n0)) n0 (ms ((A 23) n0) ((ms (ms (4 * (yS s0)) (((A 23) n0) - (2 * (yS s0)))) (((A 27) u) + (yS s0))) + ((A 26) u))))) 29 (upd (upd (A 29) u ((A 22) n0)) lo ((A 22) n0))) 30 (upd (upd (A 30) u (ms (ms (4 * (yS s0)) (((A 23) n0) - (2 * (yS s0)))) (((A 27) u) + (yS s0)))) lo (-(ms (ms (2 * (yS s0)) (((A 24) n0) + ((yS s0) / 2))) (((A 26) lo) - (4 * (yS s0))))))) 27 (upd (upd (A 27) n0 ((A 24) n0)) n0 (ms ((A 24) n0) ((ms (ms (2 * (yS s0)) (((A 24) n0) + ((yS s0) / 2))) (((A 26) lo) - (4 * (yS s0)))) + ((A 27) lo))))) 25 (upd (upd (A 25) n0 ((A 22) n0)) n0 ((ms (((A 22) n0) + ((A 25) u)) (((A 22) n0) + ((A 25) lo))) + ((yS s0) / 2)))))) else (if ((ms (ms (3 * (yS s0)) (((A 23) n0) - (2 * (yS s0)))) (((A 27) u) + (yS s0))) - ((A 27) u)) - (((A 26) lo) - (ms (ms (2 * (yS s0)) (((A 24) n0) + ((yS s0) / 2))) (((A 26) lo) - (4 * (yS s0))))) < 4 * yT s0 then (if A 1 n0 = 2 then (if A 2 n0 = 73 then (up2 (up2 (up2 (up2 (up2 (up2 (up2 (up2 (up2 (up2 (up2 A 25 (upd (A 25) n0 ((A 22) n0))) 26 (upd (A 26) n0 ((A 23) n0))) 27 (upd (A 27) n0 ((A 24) n0))) 28 (upd (A 28) n0 0)) 29 (upd (A 29) u ((A 22) n0))) 30 (upd (A 30) u (ms (ms (3 * (yS s0)) (((A 23) n0) - (2 * (yS s0)))) (((A 27) u) + (yS s0))))) 26 (upd (upd (A 26) n0 ((A 23) n0)) n0 (ms ((A 23) n0) ((ms (ms (3 * (yS s0)) (((A 23) n0) - (2 * (yS s0)))) (((A 27) u) + (yS s0))) + ((A 26) u))))) 29 (upd (upd (A 29) u ((A 22) n0)) lo (((A 22) n0) - (yS s0)))) 30 (upd (upd (A 30) u (ms (ms (3 * (yS s0)) (((A 23) n0) - (2 * (yS s0)))) (((A 27) u) + (yS s0)))) lo (-(((ms (ms (2 * (yS s0)) (((A 24) n0) + ((yS s0) / 2))) (((A 26) lo) - (4 * (yS s0)))) + (4 * (yT s0))) - (((ms (ms (3 * (yS s0)) (((A 23) n0) - (2 * (yS s0)))) (((A 27) u) + (yS s0))) - ((A 27) u)) - (((A 26) lo) - (ms (ms (2 * (yS s0)) (((A 24) n0) + ((yS s0) / 2))) (((A 26) lo) - (4 * (yS s0)))))))))) 27 (upd (upd (A 27) n0 ((A 24) n0)) n0 (ms ((A 24) n0) ((((ms (ms (2 * (yS s0)) (((A 24) n0) + ((yS s0) / 2))) (((A 26) lo) - (4 * (yS s0)))) + (4 * (yT s0))) - (((ms (ms (3 * (yS s0)) (((A 23) n0) - (2 * (yS s0)))) (((A 27) u) + (yS s0))) - ((A 27) u)) - (((A 26) lo) - (ms (ms (2 * (yS s0)) (((A 24) n0) + ((yS s0) / 2))) (((A 26) lo) - (4 * (yS s0))))))) + ((A 27) lo))))) 25 (upd (upd (A 25) n0 ((A 22) n0)) n0 ((ms (((A 22) n0) + ((A 25) u)) ((((A 22) n0) - (yS s0)) + ((A 25) lo))) + ((yS s0) / 2)))) else (up2 (up2 (up2 (up2 (up2 (up2 (up2 (up2 (up2 (up2 (up2 A 25 (upd (A 25) n0 ((A 22) n0))) 26 (upd (A 26) n0 ((A 23) n0))) 27 (upd (A 27) n0 ((A 24) n0))) 28 (upd (A 28) n0 0)) 29 (upd (A 29) u ((A 22) n0))) 30 (upd (A 30) u (ms (ms (3 * (yS s0)) (((A 23) n0) - (2 * (yS s0)))) (((A 27) u) + (yS s0))))) 26 (upd (upd (A 26) n0 ((A 23) n0)) n0 (ms ((A 23) n0) ((ms (ms (3 * (yS s0)) (((A 23) n0) - (2 * (yS s0)))) (((A 27) u) + (yS s0))) + ((A 26) u))))) 29 (upd (upd (A 29) u ((A 22) n0)) lo ((A 22) n0))) 30 (upd (upd (A 30) u (ms (ms (3 * (yS s0)) (((A 23) n0) - (2 * (yS s0)))) (((A 27) u) + (yS s0)))) lo (-(((ms (ms (2 * (yS s0)) (((A 24) n0) + ((yS s0) / 2))) (((A 26) lo) - (4 * (yS s0)))) + (4 * (yT s0))) - (((ms (ms (3 * (yS s0)) (((A 23) n0) - (2 * (yS s0)))) (((A 27) u) + (yS s0))) - ((A 27) u)) - (((A 26) lo) - (ms (ms (2 * (yS s0)) (((A 24) n0) + ((yS s0) / 2))) (((A 26) lo) - (4 * (yS s0)))))))))) 27 (upd (upd (A 27) n0 ((A 24) n0)) n0 (ms ((A 24) n0) ((((ms (ms (2 * (yS s0)) (((A 24) n0) + ((yS s0) / 2))) (((A 26) lo) - (4 * (yS s0)))) + (4 * (yT s0))) - (((ms (ms (3 * (yS s0)) (((A 23) n0) - (2 * (yS s0)))) (((A 27) u) + (yS s0))) - ((A 27) u)) - (((A 26) lo) - (ms (ms (2 * (yS s0)) (((A 24) n0) + ((yS s0) / 2))) (((A 26) lo) - (4 * (yS s0))))))) + ((A 27) lo))))) 25 (upd (upd (A 25) n0 ((A 22) n0)) n0 ((ms (((A 22) n0) + ((A 25) u)) (((A 22) n0) + ((A 25) lo))) + ((yS s0) / 2))))) else (up2 (up2 (up2 (up2 (up2 (up2 (up2 (up2 (up2 (up2 (up2 A 25 (upd (A 25) n0 ((A 22) n0))) 26 (upd (A 26) n0 ((A 23) n0))) 27 (upd (A 27) n0 ((A 24) n0))) 28 (upd (A 28) n0 0)) 29 (upd (A 29) u ((A 22) n0))) 30 (upd (A 30) u (ms (ms (3 * (yS s0)) (((A 23) n0) - (2 * (yS s0)))) (((A 27) u) + (yS s0))))) 26 (upd (upd (A 26) n0 ((A 23) n0)) n0 (ms ((A 23) n0) ((ms (ms (3 * (yS s0)) (((A 23) n0) - (2 * (yS s0)))) (((A 27) u) + (yS s0))) + ((A 26) u))))) 29 (upd (upd (A 29) u ((A 22) n0)) lo ((A 22) n0))) 30 (upd (upd (A 30) u (ms (ms (3 * (yS s0)) (((A 23) n0) - (2 * (yS s0)))) (((A 27) u) + (yS s0)))) lo (-(((ms (ms (2 * (yS s0)) (((A 24) n0) + ((yS s0) / 2))) (((A 26) lo) - (4 * (yS s0)))) + (4 * (yT s0))) - (((ms (ms (3 * (yS s0)) (((A 23) n0) - (2 * (yS s0)))) (((A 27) u) + (yS s0))) - ((A 27) u)) - (((A 26) lo) - (ms (ms (2 * (yS s0)) (((A 24) n0) + ((yS s0) / 2))) (((A 26) lo) - (4 * (yS s0)))))))))) 27 (upd (upd (A 27) n0 ((A 24) n0)) n0 (ms ((A 24) n0) ((((ms (ms (2 * (yS s0)) (((A 24) n0) + ((yS s0) / 2))) (((A 26) lo) - (4 * (yS s0)))) + (4 * (yT s0))) - (((ms (ms (3 * (yS s0)) (((A 23) n0) - (2 * (yS s0)))) (((A 27) u) + (yS s0))) - ((A 27) u)) - (((A 26) lo) - (ms (ms (2 * (yS s0)) (((A 24) n0) + ((yS s0) / 2))) (((A 26) lo) - (4 * (yS s0))))))) + ((A 27) lo))))) 25 (upd (upd (A 25) n0 ((A 22) n0)) n0 ((ms (((A 22) n0) + ((A 25) u)) (((A 22) n0) + ((A 25) lo))) + ((yS s0) / 2))))) else (if A 1 n0 = 2 then (if A 2 n0 = 73 then (up2 (up2 (up2 (up2 (up2 (up2 (up2 (up2 (up2 (up2 (up2 A 25 (upd (A 25) n0 ((A 22) n0))) 26 (upd (A 26) n0 ((A 23) n0))) 27 (upd (A 27) n0 ((A 24) n0))) 28 (upd (A 28) n0 0)) 29 (upd (A 29) u ((A 22) n0))) 30 (upd (A 30) u (ms (ms (3 * (yS s0)) (((A 23) n0) - (2 * (yS s0)))) (((A 27) u) + (yS s0))))) 26 (upd (upd (A 26) n0 ((A 23) n0)) n0 (ms ((A 23) n0) ((ms (ms (3 * (yS s0)) (((A 23) n0) - (2 * (yS s0)))) (((A 27) u) + (yS s0))) + ((A 26) u))))) 29 (upd (upd (A 29) u ((A 22) n0)) lo (((A 22) n0) - (yS s0)))) 30 (upd (upd (A 30) u (ms (ms (3 * (yS s0)) (((A 23) n0) - (2 * (yS s0)))) (((A 27) u) + (yS s0)))) lo (-(ms (ms (2 * (yS s0)) (((A 24) n0) + ((yS s0) / 2))) (((A 26) lo) - (4 * (yS s0))))))) 27 (upd (upd (A 27) n0 ((A 24) n0)) n0 (ms ((A 24) n0) ((ms (ms (2 * (yS s0)) (((A 24) n0) + ((yS s0) / 2))) (((A 26) lo) - (4 * (yS s0)))) + ((A 27) lo))))) 25 (upd (upd (A 25) n0 ((A 22) n0)) n0 ((ms (((A 22) n0) + ((A 25) u)) ((((A 22) n0) - (yS s0)) + ((A 25) lo))) + ((yS s0) / 2)))) else (up2 (up2 (up2 (up2 (up2 (up2 (up2 (up2 (up2 (up2 (up2 A 25 (upd (A 25) n0 ((A 22) n0))) 26 (upd (A 26) n0 ((A 23) n0))) 27 (upd (A 27) n0 ((A 24) n0))) 28 (upd (A 28) n0 0)) 29 (upd (A 29) u ((A 22) n0))) 30 (upd (A 30) u (ms (ms (3 * (yS s0)) (((A 23) n0) - (2 * (yS s0)))) (((A 27) u) + (yS s0))))) 26 (upd (upd (A 26) n0 ((A 23) n0)) n0 (ms ((A 23) n0) ((ms (ms (3 * (yS s0)) (((A 23) n0) - (2 * (yS s0)))) (((A 27) u) + (yS s0))) + ((A 26) u))))) 29 (upd (upd (A 29) u ((A 22) n0)) lo ((A 22) n0))) 30 (upd (upd (A 30) u (ms (ms (3 * (yS s0)) (((A 23) n0) - (2 * (yS s0)))) (((A 27) u) + (yS s0)))) lo (-(ms (ms (2 * (yS s0)) (((A 24) n0) + ((yS s0) / 2))) (((A 26) lo) - (4 * (yS s0))))))) 27 (upd (upd (A 27) n0 ((A 24) n0)) n0 (ms ((A 24) n0) ((ms (ms (2 * (yS s0)) (((A 24) n0) + ((yS s0) / 2))) (((A 26) lo) - (4 * (yS s0)))) + ((A 27) lo))))) 25 (upd (upd (A 25) n0 ((A 22) n0)) n0 ((ms (((A 22) n0) + ((A 25) u)) (((A 22) n0) + ((A 25) lo))) + ((yS s0) / 2))))) else (up2 (up2 (up2 (up2 (up2 (up2 (up2 (up2 (up2 (up2 (up2 A 25 (upd (A 25) n0 ((A 22) n0))) 26 (upd (A 26) n0 ((A 23) n0))) 27 (upd (A 27) n0 ((A 24) n0))) 28 (upd (A 28) n0 0)) 29 (upd (A 29) u ((A 22) n0))) 30 (upd (A 30) u (ms (ms (3 * (yS s0)) (((A 23) n0) - (2 * (yS s0)))) (((A 27) u) + (yS s0))))) 26 (upd (upd (A 26) n0 ((A 23) n0)) n0 (ms ((A 23) n0) ((ms (ms (3 * (yS s0)) (((A 23) n0) - (2 * (yS s0)))) (((A 27) u) + (yS s0))) + ((A 26) u))))) 29 (upd (upd (A 29) u ((A 22) n0)) lo ((A 22) n0))) 30 (upd (upd (A 30) u (ms (ms (3 * (yS s0)) (((A 23) n0) - (2 * (yS s0)))) (((A 27) u) + (yS s0)))) lo (-(ms (ms (2 * (yS s0)) (((A 24) n0) + ((yS s0) / 2))) (((A 26) lo) - (4 * (yS s0))))))) 27 (upd (upd (A 27) n0 ((A 24) n0)) n0 (ms ((A 24) n0) ((ms (ms (2 * (yS s0)) (((A 24) n0) + ((yS s0) / 2))) (((A 26) lo) - (4 * (yS s0)))) + ((A 27) lo))))) 25 (upd (upd (A 25) n0 ((A 22) n0)) n0 ((ms (((A 22) n0) + ((A 25) u)) (((A 22) n0) + ((A 25) lo))) + ((yS s0) / 2))))))))))
set_option maxHeartbeats 4000000 in
set_option maxRecDepth 100000 in
theorem m_Mo_setScripts (l : Launch) (D : va_G) (ct : Nat → ClassId) (b : Nat) (RO : State → Prop) (hR : fh_R b RO) (r : Nat) (hr : 2 ≤ r) (n x : Nat) (g : fh_H) (A : Nat → Nat → Int32) (th co at_ wr no nu op pi wi he de : Int32) (n0 : Nat) (hn0 : n0 < 400) (s0 : Nat) (hs0 : s0 < 4) (h20 : A 20 n0 = nI s0) (u lo : Nat) (hu : u < 400) (hlo : lo < 400) (h12 : A 12 n0 = nI u) (h13 : A 13 n0 = nI lo) (hun : u ≠ 0 → u ≠ n0) (hln : lo ≠ 0 → lo ≠ n0) : fh_C l D fh_cl (fh_tys ct) b RO y_Mo_setScripts (Cond.code y_Mo_setScripts c_Mo_setScripts 10 (Option.none : Option FieldType) :: fh_T) (fh_rm r 0 0) [.ref x, .int (nI n0)] (mkM ct x g A th co at_ wr no nu op pi wi he de) n (fun v h' n' => v = none ∧ h' = mkM ct x g (rf_sc A n0 s0 u lo) th co at_ wr no nu op pi wi he de ∧ n' = n) 0 0 := by
  refine fh_enter (by decide) (Nat.le_of_ble_eq_true rfl) [(0, .ref x), (1, .int (nI n0))] rfl ?_
  intro p e s m args below meth c H ls X hP hS hl
  have hx := X.1
  have hb := X.2.1
  have hml := X.2.2.1
  have hown : s.vm.findClass "FormulaSetterModel" = some m.cls := X.2.2.2.1
  have hT := X.2.2.2.2.1
  have hK := X.2.2.2.2.2.1
  have hRO := X.2.2.2.2.2.2.1
  have hnm : meth.name = "setScripts" := X.2.2.2.2.2.2.2.2.2.2
  by_cases h0u : u = 0
  · skip
    by_cases h0l : lo = 0
    · skip
      refine lv_aload_n hx hb (fh_d d_Mo_setScripts 0 rfl) rfl (lv_at hl 0 rfl) ?_
      refine fh_get (own := "FormulaSetterModel") (ref := "FormulaSetterModel") (C := "FormulaSetterModel") (T := T_Mo) (N := 53) (v := .ref (x + 13)) hx hb hT i_Mo hown hK hP mkM_o rfl 18 (by decide) (hT _ w878) (fun _ h9 => h9) rfl (fh_d d_Mo_setScripts 1 rfl) ?_
      refine lv_iload_n hx hb (fh_d d_Mo_setScripts 2 rfl) rfl (lv_at hl 1 rfl) ?_
      refine fn_iald (f := A 12) (k := n0) hx hb hK hP 0 mkM_a12 rfl (rfl) (by omega) (by decide) (fh_d d_Mo_setScripts 3 rfl) ?_
      rw [show ((A 12) n0) = nI u from h12]
      refine lv_istore_n (lv' := [(2, .int (nI u)), (0, .ref x), (1, .int (nI n0))]) hx hb (fh_d d_Mo_setScripts 4 rfl) rfl hl (by decide) rfl (fun ls hl => ?_)
      refine lv_aload_n hx hb (fh_d d_Mo_setScripts 5 rfl) rfl (lv_at hl 1 rfl) ?_
      refine fh_get (own := "FormulaSetterModel") (ref := "FormulaSetterModel") (C := "FormulaSetterModel") (T := T_Mo) (N := 53) (v := .ref (x + 14)) hx hb hT i_Mo hown hK hP mkM_o rfl 19 (by decide) (hT _ w879) (fun _ h9 => h9) rfl (fh_d d_Mo_setScripts 6 rfl) ?_
      refine lv_iload_n hx hb (fh_d d_Mo_setScripts 7 rfl) rfl (lv_at hl 2 rfl) ?_
      refine fn_iald (f := A 13) (k := n0) hx hb hK hP 0 mkM_a13 rfl (rfl) (by omega) (by decide) (fh_d d_Mo_setScripts 8 rfl) ?_
      rw [show ((A 13) n0) = nI lo from h13]
      refine lv_istore_n (lv' := [(3, .int (nI lo)), (2, .int (nI u)), (0, .ref x), (1, .int (nI n0))]) hx hb (fh_d d_Mo_setScripts 9 rfl) rfl hl (by decide) rfl (fun ls hl => ?_)
      refine lv_aload_n hx hb (fh_d d_Mo_setScripts 10 rfl) rfl (lv_at hl 2 rfl) ?_
      refine fh_get (own := "FormulaSetterModel") (ref := "FormulaSetterModel") (C := "FormulaSetterModel") (T := T_Mo) (N := 53) (v := .ref (x + 26)) hx hb hT i_Mo hown hK hP mkM_o rfl 32 (by decide) (hT _ w892) (fun _ h9 => h9) rfl (fh_d d_Mo_setScripts 11 rfl) ?_
      refine lv_iload_n hx hb (fh_d d_Mo_setScripts 12 rfl) rfl (lv_at hl 3 rfl) ?_
      refine lv_aload_n hx hb (fh_d d_Mo_setScripts 13 rfl) rfl (lv_at hl 2 rfl) ?_
      refine fh_get (own := "FormulaSetterModel") (ref := "FormulaSetterModel") (C := "FormulaSetterModel") (T := T_Mo) (N := 53) (v := .ref (x + 23)) hx hb hT i_Mo hown hK hP mkM_o rfl 29 (by decide) (hT _ w889) (fun _ h9 => h9) rfl (fh_d d_Mo_setScripts 14 rfl) ?_
      refine lv_iload_n hx hb (fh_d d_Mo_setScripts 15 rfl) rfl (lv_at hl 3 rfl) ?_
      refine fn_iald (f := A 22) (k := n0) hx hb hK hP 0 mkM_a22 rfl (rfl) (by omega) (by decide) (fh_d d_Mo_setScripts 16 rfl) ?_
      refine fn_iast (f := A 25) (k := n0) hx hb hK hP hS 0 mkM_a25 rfl (rfl) (by omega) (by decide) (fh_d d_Mo_setScripts 17 rfl) (fun H locs hP hS => ?_)
      replace hP := fh_P.eq (h' := mkM ct x g (up2 A 25 (upd (A 25) n0 ((A 22) n0))) th co at_ wr no nu op pi wi he de) hP mkM_u25
      refine lv_aload_n hx hb (fh_d d_Mo_setScripts 18 rfl) rfl (lv_at hl 2 rfl) ?_
      refine fh_get (own := "FormulaSetterModel") (ref := "FormulaSetterModel") (C := "FormulaSetterModel") (T := T_Mo) (N := 53) (v := .ref (x + 27)) hx hb hT i_Mo hown hK hP mkM_o rfl 33 (by decide) (hT _ w893) (fun _ h9 => h9) rfl (fh_d d_Mo_setScripts 19 rfl) ?_
      refine lv_iload_n hx hb (fh_d d_Mo_setScripts 20 rfl) rfl (lv_at hl 3 rfl) ?_
      refine lv_aload_n hx hb (fh_d d_Mo_setScripts 21 rfl) rfl (lv_at hl 2 rfl) ?_
      refine fh_get (own := "FormulaSetterModel") (ref := "FormulaSetterModel") (C := "FormulaSetterModel") (T := T_Mo) (N := 53) (v := .ref (x + 24)) hx hb hT i_Mo hown hK hP mkM_o rfl 30 (by decide) (hT _ w890) (fun _ h9 => h9) rfl (fh_d d_Mo_setScripts 22 rfl) ?_
      refine lv_iload_n hx hb (fh_d d_Mo_setScripts 23 rfl) rfl (lv_at hl 3 rfl) ?_
      refine fn_iald (f := A 23) (k := n0) hx hb hK hP 0 mkM_a23 rfl (rfl) (by omega) (by decide) (fh_d d_Mo_setScripts 24 rfl) ?_
      refine fn_iast (f := A 26) (k := n0) hx hb hK hP hS 0 mkM_a26 rfl (rfl) (by omega) (by decide) (fh_d d_Mo_setScripts 25 rfl) (fun H locs hP hS => ?_)
      replace hP := fh_P.eq (h' := mkM ct x g (up2 (up2 A 25 (upd (A 25) n0 ((A 22) n0))) 26 (upd (A 26) n0 ((A 23) n0))) th co at_ wr no nu op pi wi he de) hP mkM_u26
      refine lv_aload_n hx hb (fh_d d_Mo_setScripts 26 rfl) rfl (lv_at hl 2 rfl) ?_
      refine fh_get (own := "FormulaSetterModel") (ref := "FormulaSetterModel") (C := "FormulaSetterModel") (T := T_Mo) (N := 53) (v := .ref (x + 28)) hx hb hT i_Mo hown hK hP mkM_o rfl 34 (by decide) (hT _ w894) (fun _ h9 => h9) rfl (fh_d d_Mo_setScripts 27 rfl) ?_
      refine lv_iload_n hx hb (fh_d d_Mo_setScripts 28 rfl) rfl (lv_at hl 3 rfl) ?_
      refine lv_aload_n hx hb (fh_d d_Mo_setScripts 29 rfl) rfl (lv_at hl 2 rfl) ?_
      refine fh_get (own := "FormulaSetterModel") (ref := "FormulaSetterModel") (C := "FormulaSetterModel") (T := T_Mo) (N := 53) (v := .ref (x + 25)) hx hb hT i_Mo hown hK hP mkM_o rfl 31 (by decide) (hT _ w891) (fun _ h9 => h9) rfl (fh_d d_Mo_setScripts 30 rfl) ?_
      refine lv_iload_n hx hb (fh_d d_Mo_setScripts 31 rfl) rfl (lv_at hl 3 rfl) ?_
      refine fn_iald (f := A 24) (k := n0) hx hb hK hP 0 mkM_a24 rfl (rfl) (by omega) (by decide) (fh_d d_Mo_setScripts 32 rfl) ?_
      refine fn_iast (f := A 27) (k := n0) hx hb hK hP hS 0 mkM_a27 rfl (rfl) (by omega) (by decide) (fh_d d_Mo_setScripts 33 rfl) (fun H locs hP hS => ?_)
      replace hP := fh_P.eq (h' := mkM ct x g (up2 (up2 (up2 A 25 (upd (A 25) n0 ((A 22) n0))) 26 (upd (A 26) n0 ((A 23) n0))) 27 (upd (A 27) n0 ((A 24) n0))) th co at_ wr no nu op pi wi he de) hP mkM_u27
      refine lv_aload_n hx hb (fh_d d_Mo_setScripts 34 rfl) rfl (lv_at hl 2 rfl) ?_
      refine fh_get (own := "FormulaSetterModel") (ref := "FormulaSetterModel") (C := "FormulaSetterModel") (T := T_Mo) (N := 53) (v := .ref (x + 29)) hx hb hT i_Mo hown hK hP mkM_o rfl 35 (by decide) (hT _ w895) (fun _ h9 => h9) rfl (fh_d d_Mo_setScripts 35 rfl) ?_
      refine lv_iload_n hx hb (fh_d d_Mo_setScripts 36 rfl) rfl (lv_at hl 3 rfl) ?_
      refine lv_iconst (v := 0) hx hb (fh_d d_Mo_setScripts 37 rfl) (by decide) ?_
      refine fn_iast (f := A 28) (k := n0) hx hb hK hP hS 0 mkM_a28 rfl (rfl) (by omega) (by decide) (fh_d d_Mo_setScripts 38 rfl) (fun H locs hP hS => ?_)
      replace hP := fh_P.eq (h' := mkM ct x g (up2 (up2 (up2 (up2 A 25 (upd (A 25) n0 ((A 22) n0))) 26 (upd (A 26) n0 ((A 23) n0))) 27 (upd (A 27) n0 ((A 24) n0))) 28 (upd (A 28) n0 0)) th co at_ wr no nu op pi wi he de) hP mkM_u28
      refine lv_iload_n hx hb (fh_d d_Mo_setScripts 39 rfl) rfl (lv_at hl 1 rfl) ?_
      refine lv_if_ne (tgt := 65) hx hb (fh_d d_Mo_setScripts 40 rfl) rfl (fun c1 => absurd c1 (Classical.not_not.mpr (by rw [h0u]; rfl))) (fun c1 => ?_)
      refine lv_iload_n hx hb (fh_d d_Mo_setScripts 41 rfl) rfl (lv_at hl 0 rfl) ?_
      refine lv_if_eq (tgt := 74) hx hb (fh_d d_Mo_setScripts 42 rfl) rfl (fun c2 => ?_) (fun c2 => absurd c2 (Classical.not_not.mpr (by rw [h0l]; rfl)))
      exact fh_vret X hP hS (fh_d d_Mo_setScripts 48 rfl) ⟨rfl, by unfold rf_sc; rw [if_pos h0u, if_pos h0l]; (try rfl), rfl⟩
    · skip
      by_cases hk0 : A 1 n0 = 0
      · skip
        refine lv_aload_n hx hb (fh_d d_Mo_setScripts 0 rfl) rfl (lv_at hl 0 rfl) ?_
        refine fh_get (own := "FormulaSetterModel") (ref := "FormulaSetterModel") (C := "FormulaSetterModel") (T := T_Mo) (N := 53) (v := .ref (x + 13)) hx hb hT i_Mo hown hK hP mkM_o rfl 18 (by decide) (hT _ w878) (fun _ h9 => h9) rfl (fh_d d_Mo_setScripts 1 rfl) ?_
        refine lv_iload_n hx hb (fh_d d_Mo_setScripts 2 rfl) rfl (lv_at hl 1 rfl) ?_
        refine fn_iald (f := A 12) (k := n0) hx hb hK hP 0 mkM_a12 rfl (rfl) (by omega) (by decide) (fh_d d_Mo_setScripts 3 rfl) ?_
        rw [show ((A 12) n0) = nI u from h12]
        refine lv_istore_n (lv' := [(2, .int (nI u)), (0, .ref x), (1, .int (nI n0))]) hx hb (fh_d d_Mo_setScripts 4 rfl) rfl hl (by decide) rfl (fun ls hl => ?_)
        refine lv_aload_n hx hb (fh_d d_Mo_setScripts 5 rfl) rfl (lv_at hl 1 rfl) ?_
        refine fh_get (own := "FormulaSetterModel") (ref := "FormulaSetterModel") (C := "FormulaSetterModel") (T := T_Mo) (N := 53) (v := .ref (x + 14)) hx hb hT i_Mo hown hK hP mkM_o rfl 19 (by decide) (hT _ w879) (fun _ h9 => h9) rfl (fh_d d_Mo_setScripts 6 rfl) ?_
        refine lv_iload_n hx hb (fh_d d_Mo_setScripts 7 rfl) rfl (lv_at hl 2 rfl) ?_
        refine fn_iald (f := A 13) (k := n0) hx hb hK hP 0 mkM_a13 rfl (rfl) (by omega) (by decide) (fh_d d_Mo_setScripts 8 rfl) ?_
        rw [show ((A 13) n0) = nI lo from h13]
        refine lv_istore_n (lv' := [(3, .int (nI lo)), (2, .int (nI u)), (0, .ref x), (1, .int (nI n0))]) hx hb (fh_d d_Mo_setScripts 9 rfl) rfl hl (by decide) rfl (fun ls hl => ?_)
        refine lv_aload_n hx hb (fh_d d_Mo_setScripts 10 rfl) rfl (lv_at hl 2 rfl) ?_
        refine fh_get (own := "FormulaSetterModel") (ref := "FormulaSetterModel") (C := "FormulaSetterModel") (T := T_Mo) (N := 53) (v := .ref (x + 26)) hx hb hT i_Mo hown hK hP mkM_o rfl 32 (by decide) (hT _ w892) (fun _ h9 => h9) rfl (fh_d d_Mo_setScripts 11 rfl) ?_
        refine lv_iload_n hx hb (fh_d d_Mo_setScripts 12 rfl) rfl (lv_at hl 3 rfl) ?_
        refine lv_aload_n hx hb (fh_d d_Mo_setScripts 13 rfl) rfl (lv_at hl 2 rfl) ?_
        refine fh_get (own := "FormulaSetterModel") (ref := "FormulaSetterModel") (C := "FormulaSetterModel") (T := T_Mo) (N := 53) (v := .ref (x + 23)) hx hb hT i_Mo hown hK hP mkM_o rfl 29 (by decide) (hT _ w889) (fun _ h9 => h9) rfl (fh_d d_Mo_setScripts 14 rfl) ?_
        refine lv_iload_n hx hb (fh_d d_Mo_setScripts 15 rfl) rfl (lv_at hl 3 rfl) ?_
        refine fn_iald (f := A 22) (k := n0) hx hb hK hP 0 mkM_a22 rfl (rfl) (by omega) (by decide) (fh_d d_Mo_setScripts 16 rfl) ?_
        refine fn_iast (f := A 25) (k := n0) hx hb hK hP hS 0 mkM_a25 rfl (rfl) (by omega) (by decide) (fh_d d_Mo_setScripts 17 rfl) (fun H locs hP hS => ?_)
        replace hP := fh_P.eq (h' := mkM ct x g (up2 A 25 (upd (A 25) n0 ((A 22) n0))) th co at_ wr no nu op pi wi he de) hP mkM_u25
        refine lv_aload_n hx hb (fh_d d_Mo_setScripts 18 rfl) rfl (lv_at hl 2 rfl) ?_
        refine fh_get (own := "FormulaSetterModel") (ref := "FormulaSetterModel") (C := "FormulaSetterModel") (T := T_Mo) (N := 53) (v := .ref (x + 27)) hx hb hT i_Mo hown hK hP mkM_o rfl 33 (by decide) (hT _ w893) (fun _ h9 => h9) rfl (fh_d d_Mo_setScripts 19 rfl) ?_
        refine lv_iload_n hx hb (fh_d d_Mo_setScripts 20 rfl) rfl (lv_at hl 3 rfl) ?_
        refine lv_aload_n hx hb (fh_d d_Mo_setScripts 21 rfl) rfl (lv_at hl 2 rfl) ?_
        refine fh_get (own := "FormulaSetterModel") (ref := "FormulaSetterModel") (C := "FormulaSetterModel") (T := T_Mo) (N := 53) (v := .ref (x + 24)) hx hb hT i_Mo hown hK hP mkM_o rfl 30 (by decide) (hT _ w890) (fun _ h9 => h9) rfl (fh_d d_Mo_setScripts 22 rfl) ?_
        refine lv_iload_n hx hb (fh_d d_Mo_setScripts 23 rfl) rfl (lv_at hl 3 rfl) ?_
        refine fn_iald (f := A 23) (k := n0) hx hb hK hP 0 mkM_a23 rfl (rfl) (by omega) (by decide) (fh_d d_Mo_setScripts 24 rfl) ?_
        refine fn_iast (f := A 26) (k := n0) hx hb hK hP hS 0 mkM_a26 rfl (rfl) (by omega) (by decide) (fh_d d_Mo_setScripts 25 rfl) (fun H locs hP hS => ?_)
        replace hP := fh_P.eq (h' := mkM ct x g (up2 (up2 A 25 (upd (A 25) n0 ((A 22) n0))) 26 (upd (A 26) n0 ((A 23) n0))) th co at_ wr no nu op pi wi he de) hP mkM_u26
        refine lv_aload_n hx hb (fh_d d_Mo_setScripts 26 rfl) rfl (lv_at hl 2 rfl) ?_
        refine fh_get (own := "FormulaSetterModel") (ref := "FormulaSetterModel") (C := "FormulaSetterModel") (T := T_Mo) (N := 53) (v := .ref (x + 28)) hx hb hT i_Mo hown hK hP mkM_o rfl 34 (by decide) (hT _ w894) (fun _ h9 => h9) rfl (fh_d d_Mo_setScripts 27 rfl) ?_
        refine lv_iload_n hx hb (fh_d d_Mo_setScripts 28 rfl) rfl (lv_at hl 3 rfl) ?_
        refine lv_aload_n hx hb (fh_d d_Mo_setScripts 29 rfl) rfl (lv_at hl 2 rfl) ?_
        refine fh_get (own := "FormulaSetterModel") (ref := "FormulaSetterModel") (C := "FormulaSetterModel") (T := T_Mo) (N := 53) (v := .ref (x + 25)) hx hb hT i_Mo hown hK hP mkM_o rfl 31 (by decide) (hT _ w891) (fun _ h9 => h9) rfl (fh_d d_Mo_setScripts 30 rfl) ?_
        refine lv_iload_n hx hb (fh_d d_Mo_setScripts 31 rfl) rfl (lv_at hl 3 rfl) ?_
        refine fn_iald (f := A 24) (k := n0) hx hb hK hP 0 mkM_a24 rfl (rfl) (by omega) (by decide) (fh_d d_Mo_setScripts 32 rfl) ?_
        refine fn_iast (f := A 27) (k := n0) hx hb hK hP hS 0 mkM_a27 rfl (rfl) (by omega) (by decide) (fh_d d_Mo_setScripts 33 rfl) (fun H locs hP hS => ?_)
        replace hP := fh_P.eq (h' := mkM ct x g (up2 (up2 (up2 A 25 (upd (A 25) n0 ((A 22) n0))) 26 (upd (A 26) n0 ((A 23) n0))) 27 (upd (A 27) n0 ((A 24) n0))) th co at_ wr no nu op pi wi he de) hP mkM_u27
        refine lv_aload_n hx hb (fh_d d_Mo_setScripts 34 rfl) rfl (lv_at hl 2 rfl) ?_
        refine fh_get (own := "FormulaSetterModel") (ref := "FormulaSetterModel") (C := "FormulaSetterModel") (T := T_Mo) (N := 53) (v := .ref (x + 29)) hx hb hT i_Mo hown hK hP mkM_o rfl 35 (by decide) (hT _ w895) (fun _ h9 => h9) rfl (fh_d d_Mo_setScripts 35 rfl) ?_
        refine lv_iload_n hx hb (fh_d d_Mo_setScripts 36 rfl) rfl (lv_at hl 3 rfl) ?_
        refine lv_iconst (v := 0) hx hb (fh_d d_Mo_setScripts 37 rfl) (by decide) ?_
        refine fn_iast (f := A 28) (k := n0) hx hb hK hP hS 0 mkM_a28 rfl (rfl) (by omega) (by decide) (fh_d d_Mo_setScripts 38 rfl) (fun H locs hP hS => ?_)
        replace hP := fh_P.eq (h' := mkM ct x g (up2 (up2 (up2 (up2 A 25 (upd (A 25) n0 ((A 22) n0))) 26 (upd (A 26) n0 ((A 23) n0))) 27 (upd (A 27) n0 ((A 24) n0))) 28 (upd (A 28) n0 0)) th co at_ wr no nu op pi wi he de) hP mkM_u28
        refine lv_iload_n hx hb (fh_d d_Mo_setScripts 39 rfl) rfl (lv_at hl 1 rfl) ?_
        refine lv_if_ne (tgt := 65) hx hb (fh_d d_Mo_setScripts 40 rfl) rfl (fun c3 => absurd c3 (Classical.not_not.mpr (by rw [h0u]; rfl))) (fun c3 => ?_)
        refine lv_iload_n hx hb (fh_d d_Mo_setScripts 41 rfl) rfl (lv_at hl 0 rfl) ?_
        refine lv_if_eq (tgt := 74) hx hb (fh_d d_Mo_setScripts 42 rfl) rfl (fun c4 => absurd c4 (fun z => h0l (nI_z4 hlo z))) (fun c4 => ?_)
        refine lv_aload_n hx hb (fh_d d_Mo_setScripts 43 rfl) rfl (lv_at hl 2 rfl) ?_
        refine fh_get (own := "FormulaSetterModel") (ref := "FormulaSetterModel") (C := "FormulaSetterModel") (T := T_Mo) (N := 53) (v := .ref (x + 2)) hx hb hT i_Mo hown hK hP mkM_o rfl 7 (by decide) (hT _ w867) (fun _ h9 => h9) rfl (fh_d d_Mo_setScripts 44 rfl) ?_
        refine lv_iload_n hx hb (fh_d d_Mo_setScripts 45 rfl) rfl (lv_at hl 3 rfl) ?_
        refine fn_iald (f := A 1) (k := n0) hx hb hK hP 0 mkM_a1 rfl (rfl) (by omega) (by decide) (fh_d d_Mo_setScripts 46 rfl) ?_
        refine lv_if_ne (tgt := 75) hx hb (fh_d d_Mo_setScripts 47 rfl) rfl (fun c5 => absurd c5 (Classical.not_not.mpr (hk0))) (fun c5 => ?_)
        exact fh_vret X hP hS (fh_d d_Mo_setScripts 48 rfl) ⟨rfl, by unfold rf_sc; rw [if_pos h0u, if_neg h0l, if_pos hk0]; (try rfl), rfl⟩
      · skip
        refine lv_aload_n hx hb (fh_d d_Mo_setScripts 0 rfl) rfl (lv_at hl 0 rfl) ?_
        refine fh_get (own := "FormulaSetterModel") (ref := "FormulaSetterModel") (C := "FormulaSetterModel") (T := T_Mo) (N := 53) (v := .ref (x + 13)) hx hb hT i_Mo hown hK hP mkM_o rfl 18 (by decide) (hT _ w878) (fun _ h9 => h9) rfl (fh_d d_Mo_setScripts 1 rfl) ?_
        refine lv_iload_n hx hb (fh_d d_Mo_setScripts 2 rfl) rfl (lv_at hl 1 rfl) ?_
        refine fn_iald (f := A 12) (k := n0) hx hb hK hP 0 mkM_a12 rfl (rfl) (by omega) (by decide) (fh_d d_Mo_setScripts 3 rfl) ?_
        rw [show ((A 12) n0) = nI u from h12]
        refine lv_istore_n (lv' := [(2, .int (nI u)), (0, .ref x), (1, .int (nI n0))]) hx hb (fh_d d_Mo_setScripts 4 rfl) rfl hl (by decide) rfl (fun ls hl => ?_)
        refine lv_aload_n hx hb (fh_d d_Mo_setScripts 5 rfl) rfl (lv_at hl 1 rfl) ?_
        refine fh_get (own := "FormulaSetterModel") (ref := "FormulaSetterModel") (C := "FormulaSetterModel") (T := T_Mo) (N := 53) (v := .ref (x + 14)) hx hb hT i_Mo hown hK hP mkM_o rfl 19 (by decide) (hT _ w879) (fun _ h9 => h9) rfl (fh_d d_Mo_setScripts 6 rfl) ?_
        refine lv_iload_n hx hb (fh_d d_Mo_setScripts 7 rfl) rfl (lv_at hl 2 rfl) ?_
        refine fn_iald (f := A 13) (k := n0) hx hb hK hP 0 mkM_a13 rfl (rfl) (by omega) (by decide) (fh_d d_Mo_setScripts 8 rfl) ?_
        rw [show ((A 13) n0) = nI lo from h13]
        refine lv_istore_n (lv' := [(3, .int (nI lo)), (2, .int (nI u)), (0, .ref x), (1, .int (nI n0))]) hx hb (fh_d d_Mo_setScripts 9 rfl) rfl hl (by decide) rfl (fun ls hl => ?_)
        refine lv_aload_n hx hb (fh_d d_Mo_setScripts 10 rfl) rfl (lv_at hl 2 rfl) ?_
        refine fh_get (own := "FormulaSetterModel") (ref := "FormulaSetterModel") (C := "FormulaSetterModel") (T := T_Mo) (N := 53) (v := .ref (x + 26)) hx hb hT i_Mo hown hK hP mkM_o rfl 32 (by decide) (hT _ w892) (fun _ h9 => h9) rfl (fh_d d_Mo_setScripts 11 rfl) ?_
        refine lv_iload_n hx hb (fh_d d_Mo_setScripts 12 rfl) rfl (lv_at hl 3 rfl) ?_
        refine lv_aload_n hx hb (fh_d d_Mo_setScripts 13 rfl) rfl (lv_at hl 2 rfl) ?_
        refine fh_get (own := "FormulaSetterModel") (ref := "FormulaSetterModel") (C := "FormulaSetterModel") (T := T_Mo) (N := 53) (v := .ref (x + 23)) hx hb hT i_Mo hown hK hP mkM_o rfl 29 (by decide) (hT _ w889) (fun _ h9 => h9) rfl (fh_d d_Mo_setScripts 14 rfl) ?_
        refine lv_iload_n hx hb (fh_d d_Mo_setScripts 15 rfl) rfl (lv_at hl 3 rfl) ?_
        refine fn_iald (f := A 22) (k := n0) hx hb hK hP 0 mkM_a22 rfl (rfl) (by omega) (by decide) (fh_d d_Mo_setScripts 16 rfl) ?_
        refine fn_iast (f := A 25) (k := n0) hx hb hK hP hS 0 mkM_a25 rfl (rfl) (by omega) (by decide) (fh_d d_Mo_setScripts 17 rfl) (fun H locs hP hS => ?_)
        replace hP := fh_P.eq (h' := mkM ct x g (up2 A 25 (upd (A 25) n0 ((A 22) n0))) th co at_ wr no nu op pi wi he de) hP mkM_u25
        refine lv_aload_n hx hb (fh_d d_Mo_setScripts 18 rfl) rfl (lv_at hl 2 rfl) ?_
        refine fh_get (own := "FormulaSetterModel") (ref := "FormulaSetterModel") (C := "FormulaSetterModel") (T := T_Mo) (N := 53) (v := .ref (x + 27)) hx hb hT i_Mo hown hK hP mkM_o rfl 33 (by decide) (hT _ w893) (fun _ h9 => h9) rfl (fh_d d_Mo_setScripts 19 rfl) ?_
        refine lv_iload_n hx hb (fh_d d_Mo_setScripts 20 rfl) rfl (lv_at hl 3 rfl) ?_
        refine lv_aload_n hx hb (fh_d d_Mo_setScripts 21 rfl) rfl (lv_at hl 2 rfl) ?_
        refine fh_get (own := "FormulaSetterModel") (ref := "FormulaSetterModel") (C := "FormulaSetterModel") (T := T_Mo) (N := 53) (v := .ref (x + 24)) hx hb hT i_Mo hown hK hP mkM_o rfl 30 (by decide) (hT _ w890) (fun _ h9 => h9) rfl (fh_d d_Mo_setScripts 22 rfl) ?_
        refine lv_iload_n hx hb (fh_d d_Mo_setScripts 23 rfl) rfl (lv_at hl 3 rfl) ?_
        refine fn_iald (f := A 23) (k := n0) hx hb hK hP 0 mkM_a23 rfl (rfl) (by omega) (by decide) (fh_d d_Mo_setScripts 24 rfl) ?_
        refine fn_iast (f := A 26) (k := n0) hx hb hK hP hS 0 mkM_a26 rfl (rfl) (by omega) (by decide) (fh_d d_Mo_setScripts 25 rfl) (fun H locs hP hS => ?_)
        replace hP := fh_P.eq (h' := mkM ct x g (up2 (up2 A 25 (upd (A 25) n0 ((A 22) n0))) 26 (upd (A 26) n0 ((A 23) n0))) th co at_ wr no nu op pi wi he de) hP mkM_u26
        refine lv_aload_n hx hb (fh_d d_Mo_setScripts 26 rfl) rfl (lv_at hl 2 rfl) ?_
        refine fh_get (own := "FormulaSetterModel") (ref := "FormulaSetterModel") (C := "FormulaSetterModel") (T := T_Mo) (N := 53) (v := .ref (x + 28)) hx hb hT i_Mo hown hK hP mkM_o rfl 34 (by decide) (hT _ w894) (fun _ h9 => h9) rfl (fh_d d_Mo_setScripts 27 rfl) ?_
        refine lv_iload_n hx hb (fh_d d_Mo_setScripts 28 rfl) rfl (lv_at hl 3 rfl) ?_
        refine lv_aload_n hx hb (fh_d d_Mo_setScripts 29 rfl) rfl (lv_at hl 2 rfl) ?_
        refine fh_get (own := "FormulaSetterModel") (ref := "FormulaSetterModel") (C := "FormulaSetterModel") (T := T_Mo) (N := 53) (v := .ref (x + 25)) hx hb hT i_Mo hown hK hP mkM_o rfl 31 (by decide) (hT _ w891) (fun _ h9 => h9) rfl (fh_d d_Mo_setScripts 30 rfl) ?_
        refine lv_iload_n hx hb (fh_d d_Mo_setScripts 31 rfl) rfl (lv_at hl 3 rfl) ?_
        refine fn_iald (f := A 24) (k := n0) hx hb hK hP 0 mkM_a24 rfl (rfl) (by omega) (by decide) (fh_d d_Mo_setScripts 32 rfl) ?_
        refine fn_iast (f := A 27) (k := n0) hx hb hK hP hS 0 mkM_a27 rfl (rfl) (by omega) (by decide) (fh_d d_Mo_setScripts 33 rfl) (fun H locs hP hS => ?_)
        replace hP := fh_P.eq (h' := mkM ct x g (up2 (up2 (up2 A 25 (upd (A 25) n0 ((A 22) n0))) 26 (upd (A 26) n0 ((A 23) n0))) 27 (upd (A 27) n0 ((A 24) n0))) th co at_ wr no nu op pi wi he de) hP mkM_u27
        refine lv_aload_n hx hb (fh_d d_Mo_setScripts 34 rfl) rfl (lv_at hl 2 rfl) ?_
        refine fh_get (own := "FormulaSetterModel") (ref := "FormulaSetterModel") (C := "FormulaSetterModel") (T := T_Mo) (N := 53) (v := .ref (x + 29)) hx hb hT i_Mo hown hK hP mkM_o rfl 35 (by decide) (hT _ w895) (fun _ h9 => h9) rfl (fh_d d_Mo_setScripts 35 rfl) ?_
        refine lv_iload_n hx hb (fh_d d_Mo_setScripts 36 rfl) rfl (lv_at hl 3 rfl) ?_
        refine lv_iconst (v := 0) hx hb (fh_d d_Mo_setScripts 37 rfl) (by decide) ?_
        refine fn_iast (f := A 28) (k := n0) hx hb hK hP hS 0 mkM_a28 rfl (rfl) (by omega) (by decide) (fh_d d_Mo_setScripts 38 rfl) (fun H locs hP hS => ?_)
        replace hP := fh_P.eq (h' := mkM ct x g (up2 (up2 (up2 (up2 A 25 (upd (A 25) n0 ((A 22) n0))) 26 (upd (A 26) n0 ((A 23) n0))) 27 (upd (A 27) n0 ((A 24) n0))) 28 (upd (A 28) n0 0)) th co at_ wr no nu op pi wi he de) hP mkM_u28
        refine lv_iload_n hx hb (fh_d d_Mo_setScripts 39 rfl) rfl (lv_at hl 1 rfl) ?_
        refine lv_if_ne (tgt := 65) hx hb (fh_d d_Mo_setScripts 40 rfl) rfl (fun c6 => absurd c6 (Classical.not_not.mpr (by rw [h0u]; rfl))) (fun c6 => ?_)
        refine lv_iload_n hx hb (fh_d d_Mo_setScripts 41 rfl) rfl (lv_at hl 0 rfl) ?_
        refine lv_if_eq (tgt := 74) hx hb (fh_d d_Mo_setScripts 42 rfl) rfl (fun c7 => absurd c7 (fun z => h0l (nI_z4 hlo z))) (fun c7 => ?_)
        refine lv_aload_n hx hb (fh_d d_Mo_setScripts 43 rfl) rfl (lv_at hl 2 rfl) ?_
        refine fh_get (own := "FormulaSetterModel") (ref := "FormulaSetterModel") (C := "FormulaSetterModel") (T := T_Mo) (N := 53) (v := .ref (x + 2)) hx hb hT i_Mo hown hK hP mkM_o rfl 7 (by decide) (hT _ w867) (fun _ h9 => h9) rfl (fh_d d_Mo_setScripts 44 rfl) ?_
        refine lv_iload_n hx hb (fh_d d_Mo_setScripts 45 rfl) rfl (lv_at hl 3 rfl) ?_
        refine fn_iald (f := A 1) (k := n0) hx hb hK hP 0 mkM_a1 rfl (rfl) (by omega) (by decide) (fh_d d_Mo_setScripts 46 rfl) ?_
        refine lv_if_ne (tgt := 75) hx hb (fh_d d_Mo_setScripts 47 rfl) rfl (fun c8 => ?_) (fun c8 => absurd c8 (hk0))
        refine lv_aload_n hx hb (fh_d d_Mo_setScripts 49 rfl) rfl (lv_at hl 2 rfl) ?_
        refine fh_get (own := "FormulaSetterModel") (ref := "FormulaSetterModel") (C := "FormulaSetterModel") (T := T_Mo) (N := 53) (v := .ref (x + 21)) hx hb hT i_Mo hown hK hP mkM_o rfl 27 (by decide) (hT _ w887) (fun _ h9 => h9) rfl (fh_d d_Mo_setScripts 50 rfl) ?_
        refine lv_iload_n hx hb (fh_d d_Mo_setScripts 51 rfl) rfl (lv_at hl 3 rfl) ?_
        refine fn_iald (f := A 20) (k := n0) hx hb hK hP 0 mkM_a20 rfl (rfl) (by omega) (by decide) (fh_d d_Mo_setScripts 52 rfl) ?_
        rw [show ((A 20) n0) = nI s0 from h20]
        refine fh_callS (cc' := c_Mo_zOf) (nL' := 1) (rest := []) (av := [.int (nI s0)]) X hR (m_Mo_zO l D ct b RO hR (r - 1) (by omega) n s0 hs0 (mkM ct x g (up2 (up2 (up2 (up2 A 25 (upd (A 25) n0 ((A 22) n0))) 26 (upd (A 26) n0 ((A 23) n0))) 27 (upd (A 27) n0 ((A 24) n0))) 28 (upd (A 28) n0 0)) th co at_ wr no nu op pi wi he de)) w1139 w1137 w1138 w9 ⟨by decide, by decide, by show _ = some 1; decide +kernel⟩ (by omega) (by decide) hP hS hl.1 rfl (by exact Nat.le_of_ble_eq_true rfl) (fh_d d_Mo_setScripts 53 rfl) ⟨Nat.le_refl _, Nat.le_refl _⟩ (fun v9 h9 n9 H locs hq hP hS => ?_)
        obtain ⟨rfl, q9a, q9b⟩ := hq
        rw [q9a, q9b] at hP
        refine W.eq (g2 := F0 m 84 ls [.int (yS s0)]) rfl ?_
        refine lv_istore (lv' := [(4, .int (yS s0)), (3, .int (nI lo)), (2, .int (nI u)), (0, .ref x), (1, .int (nI n0))]) hx hb (fh_d d_Mo_setScripts 54 rfl) hl (by decide) rfl (fun ls hl => ?_)
        refine lv_aload_n hx hb (fh_d d_Mo_setScripts 55 rfl) rfl (lv_at hl 3 rfl) ?_
        refine fh_get (own := "FormulaSetterModel") (ref := "FormulaSetterModel") (C := "FormulaSetterModel") (T := T_Mo) (N := 53) (v := .ref (x + 21)) hx hb hT i_Mo hown hK hP mkM_o rfl 27 (by decide) (hT _ w887) (fun _ h9 => h9) rfl (fh_d d_Mo_setScripts 56 rfl) ?_
        refine lv_iload_n hx hb (fh_d d_Mo_setScripts 57 rfl) rfl (lv_at hl 4 rfl) ?_
        refine fn_iald (f := A 20) (k := n0) hx hb hK hP 0 mkM_a20 rfl (rfl) (by omega) (by decide) (fh_d d_Mo_setScripts 58 rfl) ?_
        rw [show ((A 20) n0) = nI s0 from h20]
        refine fh_callS (cc' := c_Mo_tOf) (nL' := 1) (rest := []) (av := [.int (nI s0)]) X hR (m_Mo_tO l D ct b RO hR (r - 1) (by omega) n s0 hs0 (mkM ct x g (up2 (up2 (up2 (up2 A 25 (upd (A 25) n0 ((A 22) n0))) 26 (upd (A 26) n0 ((A 23) n0))) 27 (upd (A 27) n0 ((A 24) n0))) 28 (upd (A 28) n0 0)) th co at_ wr no nu op pi wi he de)) w1174 w1172 w1173 w9 ⟨by decide, by decide, by show _ = some 1; decide +kernel⟩ (by omega) (by decide) hP hS hl.1 rfl (by exact Nat.le_of_ble_eq_true rfl) (fh_d d_Mo_setScripts 59 rfl) ⟨Nat.le_refl _, Nat.le_refl _⟩ (fun v9 h9 n9 H locs hq hP hS => ?_)
        obtain ⟨rfl, q10a, q10b⟩ := hq
        rw [q10a, q10b] at hP
        refine W.eq (g2 := F0 m 95 ls [.int (yT s0)]) rfl ?_
        refine lv_istore (lv' := [(5, .int (yT s0)), (4, .int (yS s0)), (3, .int (nI lo)), (2, .int (nI u)), (0, .ref x), (1, .int (nI n0))]) hx hb (fh_d d_Mo_setScripts 60 rfl) hl (by decide) rfl (fun ls hl => ?_)
        have J : ∀ (hlm : ¬ (A 1 n0 = 2 ∧ ¬ A 2 n0 = 73 ∧ s0 = 0)) (H : Heap) (locs : List Loc) (ls : Array Slot), fh_P D fh_cl b (mkM ct x g (up2 (up2 (up2 (up2 A 25 (upd (A 25) n0 ((A 22) n0))) 26 (upd (A 26) n0 ((A 23) n0))) 27 (upd (A 27) n0 ((A 24) n0))) 28 (upd (A 28) n0 0)) th co at_ wr no nu op pi wi he de) n H → va_S (fh_A b) s.heap H locs → lv_has ls 10 [(2, .int (nI u)), (3, .int (nI lo)), (4, .int (yS s0)), (5, .int (yT s0)), (0, .ref x), (1, .int (nI n0))] → W p l e (fh_rm r 0 0) s m args below meth c H locs 0 0 (MQ below (fh_Post D fh_cl b (fun v h' n' => v = none ∧ h' = mkM ct x g (rf_sc A n0 s0 u lo) th co at_ wr no nu op pi wi he de ∧ n' = n)) args s 0 0 (fh_A b)) (F0 m 332 ls []) := by
          intro hlm H locs ls hP hS hl
          refine lv_iconst (v := 0) hx hb (fh_d d_Mo_setScripts 215 rfl) (by decide) ?_
          refine lv_istore (lv' := [(6, .int 0), (2, .int (nI u)), (3, .int (nI lo)), (4, .int (yS s0)), (5, .int (yT s0)), (0, .ref x), (1, .int (nI n0))]) hx hb (fh_d d_Mo_setScripts 216 rfl) hl (by decide) rfl (fun ls hl => ?_)
          refine lv_aload_n hx hb (fh_d d_Mo_setScripts 217 rfl) rfl (lv_at hl 5 rfl) ?_
          refine fh_get (own := "FormulaSetterModel") (ref := "FormulaSetterModel") (C := "FormulaSetterModel") (T := T_Mo) (N := 53) (v := .ref (x + 23)) hx hb hT i_Mo hown hK hP mkM_o rfl 29 (by decide) (hT _ w889) (fun _ h9 => h9) rfl (fh_d d_Mo_setScripts 218 rfl) ?_
          refine lv_iload_n hx hb (fh_d d_Mo_setScripts 219 rfl) rfl (lv_at hl 6 rfl) ?_
          refine fn_iald (f := A 22) (k := n0) hx hb hK hP 0 mkM_a22 rfl (rfl) (by omega) (by decide) (fh_d d_Mo_setScripts 220 rfl) ?_
          refine lv_istore (lv' := [(7, .int ((A 22) n0)), (6, .int 0), (2, .int (nI u)), (3, .int (nI lo)), (4, .int (yS s0)), (5, .int (yT s0)), (0, .ref x), (1, .int (nI n0))]) hx hb (fh_d d_Mo_setScripts 221 rfl) hl (by decide) rfl (fun ls hl => ?_)
          refine lv_iload_n hx hb (fh_d d_Mo_setScripts 222 rfl) rfl (lv_at hl 2 rfl) ?_
          refine lv_if_le (tgt := 454) hx hb (fh_d d_Mo_setScripts 223 rfl) rfl (fun c11 => ?_) (fun c11 => absurd c11 (fun z => z (by rw [h0u]; decide)))
          refine lv_iload_n hx hb (fh_d d_Mo_setScripts 291 rfl) rfl (lv_at hl 3 rfl) ?_
          refine lv_if_le (tgt := 648) hx hb (fh_d d_Mo_setScripts 292 rfl) rfl (fun c12 => absurd c12 (nI_np ⟨Nat.pos_of_ne_zero h0l, hlo⟩)) (fun c12 => ?_)
          refine lv_iconst (v := 2) hx hb (fh_d d_Mo_setScripts 293 rfl) (by decide) ?_
          refine lv_iload hx hb (fh_d d_Mo_setScripts 294 rfl) (lv_at hl 4 rfl) ?_
          refine lv_imul hx hb (fh_d d_Mo_setScripts 295 rfl) ?_
          refine lv_aload_n hx hb (fh_d d_Mo_setScripts 296 rfl) rfl (lv_at hl 6 rfl) ?_
          refine fh_get (own := "FormulaSetterModel") (ref := "FormulaSetterModel") (C := "FormulaSetterModel") (T := T_Mo) (N := 53) (v := .ref (x + 25)) hx hb hT i_Mo hown hK hP mkM_o rfl 31 (by decide) (hT _ w891) (fun _ h9 => h9) rfl (fh_d d_Mo_setScripts 297 rfl) ?_
          refine lv_iload_n hx hb (fh_d d_Mo_setScripts 298 rfl) rfl (lv_at hl 7 rfl) ?_
          refine fn_iald (f := A 24) (k := n0) hx hb hK hP 0 mkM_a24 rfl (rfl) (by omega) (by decide) (fh_d d_Mo_setScripts 299 rfl) ?_
          refine lv_iload hx hb (fh_d d_Mo_setScripts 300 rfl) (lv_at hl 4 rfl) ?_
          refine lv_iconst (v := 2) hx hb (fh_d d_Mo_setScripts 301 rfl) (by decide) ?_
          refine lv_idiv hx hb (fh_d d_Mo_setScripts 302 rfl) (by decide) ?_
          refine lv_iadd hx hb (fh_d d_Mo_setScripts 303 rfl) ?_
          refine fh_callS (cc' := c_Mo_most) (nL' := 2) (rest := []) (av := [.int (2 * (yS s0)), .int (((A 24) n0) + ((yS s0) / 2))]) X hR (m_Mo_most l D ct b RO (r - 1) n (2 * (yS s0)) (((A 24) n0) + ((yS s0) / 2)) (mkM ct x g (up2 (up2 (up2 (up2 A 25 (upd (A 25) n0 ((A 22) n0))) 26 (upd (A 26) n0 ((A 23) n0))) 27 (upd (A 27) n0 ((A 24) n0))) 28 (upd (A 28) n0 0)) th co at_ wr no nu op pi wi he de)) w1151 w1149 w1150 w9 ⟨by decide, by decide, by show _ = some 2; decide +kernel⟩ (by omega) (by decide) hP hS hl.1 rfl (by exact Nat.le_of_ble_eq_true rfl) (fh_d d_Mo_setScripts 304 rfl) ⟨Nat.le_refl _, Nat.le_refl _⟩ (fun v9 h9 n9 H locs hq hP hS => ?_)
          obtain ⟨rfl, q13a, q13b⟩ := hq
          rw [q13a, q13b] at hP
          refine W.eq (g2 := F0 m 476 ls [.int (ms (2 * (yS s0)) (((A 24) n0) + ((yS s0) / 2)))]) rfl ?_
          refine lv_aload_n hx hb (fh_d d_Mo_setScripts 305 rfl) rfl (lv_at hl 6 rfl) ?_
          refine fh_get (own := "FormulaSetterModel") (ref := "FormulaSetterModel") (C := "FormulaSetterModel") (T := T_Mo) (N := 53) (v := .ref (x + 27)) hx hb hT i_Mo hown hK hP mkM_o rfl 33 (by decide) (hT _ w893) (fun _ h9 => h9) rfl (fh_d d_Mo_setScripts 306 rfl) ?_
          refine lv_iload_n hx hb (fh_d d_Mo_setScripts 307 rfl) rfl (lv_at hl 3 rfl) ?_
          refine fn_iald (f := upd (A 26) n0 ((A 23) n0)) (k := lo) hx hb hK hP 0 mkM_a26 rfl (rfl) (by omega) (by decide) (fh_d d_Mo_setScripts 308 rfl) ?_
          rw [show ((upd (A 26) n0 ((A 23) n0)) lo) = (A 26) lo from by simp only [upd_n (hln h0l)]]
          refine lv_iconst (v := 4) hx hb (fh_d d_Mo_setScripts 309 rfl) (by decide) ?_
          refine lv_iload hx hb (fh_d d_Mo_setScripts 310 rfl) (lv_at hl 4 rfl) ?_
          refine lv_imul hx hb (fh_d d_Mo_setScripts 311 rfl) ?_
          refine lv_isub hx hb (fh_d d_Mo_setScripts 312 rfl) ?_
          refine fh_callS (cc' := c_Mo_most) (nL' := 2) (rest := []) (av := [.int (ms (2 * (yS s0)) (((A 24) n0) + ((yS s0) / 2))), .int (((A 26) lo) - (4 * (yS s0)))]) X hR (m_Mo_most l D ct b RO (r - 1) n (ms (2 * (yS s0)) (((A 24) n0) + ((yS s0) / 2))) (((A 26) lo) - (4 * (yS s0))) (mkM ct x g (up2 (up2 (up2 (up2 A 25 (upd (A 25) n0 ((A 22) n0))) 26 (upd (A 26) n0 ((A 23) n0))) 27 (upd (A 27) n0 ((A 24) n0))) 28 (upd (A 28) n0 0)) th co at_ wr no nu op pi wi he de)) w1151 w1149 w1150 w9 ⟨by decide, by decide, by show _ = some 2; decide +kernel⟩ (by omega) (by decide) hP hS hl.1 rfl (by exact Nat.le_of_ble_eq_true rfl) (fh_d d_Mo_setScripts 313 rfl) ⟨Nat.le_refl _, Nat.le_refl _⟩ (fun v9 h9 n9 H locs hq hP hS => ?_)
          obtain ⟨rfl, q14a, q14b⟩ := hq
          rw [q14a, q14b] at hP
          refine W.eq (g2 := F0 m 490 ls [.int (ms (ms (2 * (yS s0)) (((A 24) n0) + ((yS s0) / 2))) (((A 26) lo) - (4 * (yS s0))))]) rfl ?_
          refine lv_istore (lv' := [(8, .int (ms (ms (2 * (yS s0)) (((A 24) n0) + ((yS s0) / 2))) (((A 26) lo) - (4 * (yS s0))))), (7, .int ((A 22) n0)), (6, .int 0), (2, .int (nI u)), (3, .int (nI lo)), (4, .int (yS s0)), (5, .int (yT s0)), (0, .ref x), (1, .int (nI n0))]) hx hb (fh_d d_Mo_setScripts 314 rfl) hl (by decide) rfl (fun ls hl => ?_)
          refine lv_iload_n hx hb (fh_d d_Mo_setScripts 315 rfl) rfl (lv_at hl 3 rfl) ?_
          refine lv_if_le (tgt := 518) hx hb (fh_d d_Mo_setScripts 316 rfl) rfl (fun c15 => ?_) (fun c15 => absurd c15 (fun z => z (by rw [h0u]; decide)))
          refine lv_iconst (v := 4) hx hb (fh_d d_Mo_setScripts 331 rfl) (by decide) ?_
          refine lv_iload hx hb (fh_d d_Mo_setScripts 332 rfl) (lv_at hl 6 rfl) ?_
          refine lv_imul hx hb (fh_d d_Mo_setScripts 333 rfl) ?_
          refine lv_istore (lv' := [(9, .int (4 * (yT s0))), (8, .int (ms (ms (2 * (yS s0)) (((A 24) n0) + ((yS s0) / 2))) (((A 26) lo) - (4 * (yS s0))))), (7, .int ((A 22) n0)), (6, .int 0), (2, .int (nI u)), (3, .int (nI lo)), (4, .int (yS s0)), (5, .int (yT s0)), (0, .ref x), (1, .int (nI n0))]) hx hb (fh_d d_Mo_setScripts 334 rfl) hl (by decide) rfl (fun ls hl => ?_)
          refine lv_iload hx hb (fh_d d_Mo_setScripts 335 rfl) (lv_at hl 0 rfl) ?_
          refine lv_iconst (v := 4) hx hb (fh_d d_Mo_setScripts 336 rfl) (by decide) ?_
          refine lv_iload hx hb (fh_d d_Mo_setScripts 337 rfl) (lv_at hl 7 rfl) ?_
          refine lv_imul hx hb (fh_d d_Mo_setScripts 338 rfl) ?_
          refine lv_icmp_ge (tgt := 546) hx hb (fh_d d_Mo_setScripts 339 rfl) rfl (fun c16 => ?_) (fun c16 => absurd c16 (Classical.not_not.mpr (Int32.le_refl _)))
          refine lv_iload hx hb (fh_d d_Mo_setScripts 348 rfl) (lv_at hl 1 rfl) ?_
          by_cases hk2 : A 1 n0 = 2
          · skip
            by_cases hc3 : A 2 n0 = 73
            · skip
              refine lv_istore (lv' := [(8, .int (ms (ms (2 * (yS s0)) (((A 24) n0) + ((yS s0) / 2))) (((A 26) lo) - (4 * (yS s0))))), (9, .int (4 * (yT s0))), (7, .int ((A 22) n0)), (6, .int 0), (2, .int (nI u)), (3, .int (nI lo)), (4, .int (yS s0)), (5, .int (yT s0)), (0, .ref x), (1, .int (nI n0))]) hx hb (fh_d d_Mo_setScripts 349 rfl) hl (by decide) rfl (fun ls hl => ?_)
              refine lv_aload_n hx hb (fh_d d_Mo_setScripts 350 rfl) rfl (lv_at hl 8 rfl) ?_
              refine fh_get (own := "FormulaSetterModel") (ref := "FormulaSetterModel") (C := "FormulaSetterModel") (T := T_Mo) (N := 53) (v := .ref (x + 30)) hx hb hT i_Mo hown hK hP mkM_o rfl 36 (by decide) (hT _ w896) (fun _ h9 => h9) rfl (fh_d d_Mo_setScripts 351 rfl) ?_
              refine lv_iload_n hx hb (fh_d d_Mo_setScripts 352 rfl) rfl (lv_at hl 5 rfl) ?_
              refine lv_aload_n hx hb (fh_d d_Mo_setScripts 353 rfl) rfl (lv_at hl 8 rfl) ?_
              refine fh_get (own := "FormulaSetterModel") (ref := "FormulaSetterModel") (C := "FormulaSetterModel") (T := T_Mo) (N := 53) (v := .ref (x + 2)) hx hb hT i_Mo hown hK hP mkM_o rfl 7 (by decide) (hT _ w867) (fun _ h9 => h9) rfl (fh_d d_Mo_setScripts 354 rfl) ?_
              refine lv_iload_n hx hb (fh_d d_Mo_setScripts 355 rfl) rfl (lv_at hl 9 rfl) ?_
              refine fn_iald (f := A 1) (k := n0) hx hb hK hP 0 mkM_a1 rfl (rfl) (by omega) (by decide) (fh_d d_Mo_setScripts 356 rfl) ?_
              refine lv_iconst (v := 2) hx hb (fh_d d_Mo_setScripts 357 rfl) (by decide) ?_
              refine lv_icmp_ne (tgt := 588) hx hb (fh_d d_Mo_setScripts 358 rfl) rfl (fun c17 => absurd c17 (Classical.not_not.mpr (hk2))) (fun c17 => ?_)
              refine lv_aload_n hx hb (fh_d d_Mo_setScripts 359 rfl) rfl (lv_at hl 8 rfl) ?_
              refine fh_get (own := "FormulaSetterModel") (ref := "FormulaSetterModel") (C := "FormulaSetterModel") (T := T_Mo) (N := 53) (v := .ref (x + 3)) hx hb hT i_Mo hown hK hP mkM_o rfl 8 (by decide) (hT _ w868) (fun _ h9 => h9) rfl (fh_d d_Mo_setScripts 360 rfl) ?_
              refine lv_iload_n hx hb (fh_d d_Mo_setScripts 361 rfl) rfl (lv_at hl 9 rfl) ?_
              refine fn_iald (f := A 2) (k := n0) hx hb hK hP 0 mkM_a2 rfl (rfl) (by omega) (by decide) (fh_d d_Mo_setScripts 362 rfl) ?_
              refine lv_bipush (v := 73) hx hb (fh_d d_Mo_setScripts 363 rfl) (by decide) ?_
              refine lv_icmp_ne (tgt := 588) hx hb (fh_d d_Mo_setScripts 364 rfl) rfl (fun c18 => absurd c18 (Classical.not_not.mpr (hc3))) (fun c18 => ?_)
              refine lv_aload_n hx hb (fh_d d_Mo_setScripts 365 rfl) rfl (lv_at hl 8 rfl) ?_
              refine fh_get (own := "FormulaSetterModel") (ref := "FormulaSetterModel") (C := "FormulaSetterModel") (T := T_Mo) (N := 53) (v := .ref (x + 23)) hx hb hT i_Mo hown hK hP mkM_o rfl 29 (by decide) (hT _ w889) (fun _ h9 => h9) rfl (fh_d d_Mo_setScripts 366 rfl) ?_
              refine lv_iload_n hx hb (fh_d d_Mo_setScripts 367 rfl) rfl (lv_at hl 9 rfl) ?_
              refine fn_iald (f := A 22) (k := n0) hx hb hK hP 0 mkM_a22 rfl (rfl) (by omega) (by decide) (fh_d d_Mo_setScripts 368 rfl) ?_
              refine lv_iload hx hb (fh_d d_Mo_setScripts 369 rfl) (lv_at hl 6 rfl) ?_
              refine lv_isub hx hb (fh_d d_Mo_setScripts 370 rfl) ?_
              refine lv_goto (tgt := 594) hx hb (fh_d d_Mo_setScripts 371 rfl) rfl ?_
              refine fn_iast (f := A 29) (k := lo) hx hb hK hP hS 0 mkM_a29 rfl (rfl) (by omega) (by decide) (fh_d d_Mo_setScripts 376 rfl) (fun H locs hP hS => ?_)
              replace hP := fh_P.eq (h' := mkM ct x g (up2 (up2 (up2 (up2 (up2 A 25 (upd (A 25) n0 ((A 22) n0))) 26 (upd (A 26) n0 ((A 23) n0))) 27 (upd (A 27) n0 ((A 24) n0))) 28 (upd (A 28) n0 0)) 29 (upd (A 29) lo (((A 22) n0) - (yS s0)))) th co at_ wr no nu op pi wi he de) hP mkM_u29
              refine lv_aload_n hx hb (fh_d d_Mo_setScripts 377 rfl) rfl (lv_at hl 8 rfl) ?_
              refine fh_get (own := "FormulaSetterModel") (ref := "FormulaSetterModel") (C := "FormulaSetterModel") (T := T_Mo) (N := 53) (v := .ref (x + 31)) hx hb hT i_Mo hown hK hP mkM_o rfl 37 (by decide) (hT _ w897) (fun _ h9 => h9) rfl (fh_d d_Mo_setScripts 378 rfl) ?_
              refine lv_iload_n hx hb (fh_d d_Mo_setScripts 379 rfl) rfl (lv_at hl 5 rfl) ?_
              refine lv_iload hx hb (fh_d d_Mo_setScripts 380 rfl) (lv_at hl 0 rfl) ?_
              refine lv_ineg hx hb (fh_d d_Mo_setScripts 381 rfl) ?_
              refine fn_iast (f := A 30) (k := lo) hx hb hK hP hS 0 mkM_a30 rfl (rfl) (by omega) (by decide) (fh_d d_Mo_setScripts 382 rfl) (fun H locs hP hS => ?_)
              replace hP := fh_P.eq (h' := mkM ct x g (up2 (up2 (up2 (up2 (up2 (up2 A 25 (upd (A 25) n0 ((A 22) n0))) 26 (upd (A 26) n0 ((A 23) n0))) 27 (upd (A 27) n0 ((A 24) n0))) 28 (upd (A 28) n0 0)) 29 (upd (A 29) lo (((A 22) n0) - (yS s0)))) 30 (upd (A 30) lo (-(ms (ms (2 * (yS s0)) (((A 24) n0) + ((yS s0) / 2))) (((A 26) lo) - (4 * (yS s0))))))) th co at_ wr no nu op pi wi he de) hP mkM_u30
              refine lv_iload hx hb (fh_d d_Mo_setScripts 383 rfl) (lv_at hl 2 rfl) ?_
              refine lv_aload_n hx hb (fh_d d_Mo_setScripts 384 rfl) rfl (lv_at hl 8 rfl) ?_
              refine fh_get (own := "FormulaSetterModel") (ref := "FormulaSetterModel") (C := "FormulaSetterModel") (T := T_Mo) (N := 53) (v := .ref (x + 30)) hx hb hT i_Mo hown hK hP mkM_o rfl 36 (by decide) (hT _ w896) (fun _ h9 => h9) rfl (fh_d d_Mo_setScripts 385 rfl) ?_
              refine lv_iload_n hx hb (fh_d d_Mo_setScripts 386 rfl) rfl (lv_at hl 5 rfl) ?_
              refine fn_iald (f := upd (A 29) lo (((A 22) n0) - (yS s0))) (k := lo) hx hb hK hP 0 mkM_a29 rfl (rfl) (by omega) (by decide) (fh_d d_Mo_setScripts 387 rfl) ?_
              rw [show ((upd (A 29) lo (((A 22) n0) - (yS s0))) lo) = (((A 22) n0) - (yS s0)) from upd_s]
              refine lv_aload_n hx hb (fh_d d_Mo_setScripts 388 rfl) rfl (lv_at hl 8 rfl) ?_
              refine fh_get (own := "FormulaSetterModel") (ref := "FormulaSetterModel") (C := "FormulaSetterModel") (T := T_Mo) (N := 53) (v := .ref (x + 26)) hx hb hT i_Mo hown hK hP mkM_o rfl 32 (by decide) (hT _ w892) (fun _ h9 => h9) rfl (fh_d d_Mo_setScripts 389 rfl) ?_
              refine lv_iload_n hx hb (fh_d d_Mo_setScripts 390 rfl) rfl (lv_at hl 5 rfl) ?_
              refine fn_iald (f := upd (A 25) n0 ((A 22) n0)) (k := lo) hx hb hK hP 0 mkM_a25 rfl (rfl) (by omega) (by decide) (fh_d d_Mo_setScripts 391 rfl) ?_
              rw [show ((upd (A 25) n0 ((A 22) n0)) lo) = (A 25) lo from by simp only [upd_n (hln h0l)]]
              refine lv_iadd hx hb (fh_d d_Mo_setScripts 392 rfl) ?_
              refine fh_callS (cc' := c_Mo_most) (nL' := 2) (rest := []) (av := [.int ((A 22) n0), .int ((((A 22) n0) - (yS s0)) + ((A 25) lo))]) X hR (m_Mo_most l D ct b RO (r - 1) n ((A 22) n0) ((((A 22) n0) - (yS s0)) + ((A 25) lo)) (mkM ct x g (up2 (up2 (up2 (up2 (up2 (up2 A 25 (upd (A 25) n0 ((A 22) n0))) 26 (upd (A 26) n0 ((A 23) n0))) 27 (upd (A 27) n0 ((A 24) n0))) 28 (upd (A 28) n0 0)) 29 (upd (A 29) lo (((A 22) n0) - (yS s0)))) 30 (upd (A 30) lo (-(ms (ms (2 * (yS s0)) (((A 24) n0) + ((yS s0) / 2))) (((A 26) lo) - (4 * (yS s0))))))) th co at_ wr no nu op pi wi he de)) w1151 w1149 w1150 w9 ⟨by decide, by decide, by show _ = some 2; decide +kernel⟩ (by omega) (by decide) hP hS hl.1 rfl (by exact Nat.le_of_ble_eq_true rfl) (fh_d d_Mo_setScripts 393 rfl) ⟨Nat.le_refl _, Nat.le_refl _⟩ (fun v9 h9 n9 H locs hq hP hS => ?_)
              obtain ⟨rfl, q19a, q19b⟩ := hq
              rw [q19a, q19b] at hP
              refine W.eq (g2 := F0 m 622 ls [.int (ms ((A 22) n0) ((((A 22) n0) - (yS s0)) + ((A 25) lo)))]) rfl ?_
              refine lv_istore (lv' := [(7, .int (ms ((A 22) n0) ((((A 22) n0) - (yS s0)) + ((A 25) lo)))), (8, .int (ms (ms (2 * (yS s0)) (((A 24) n0) + ((yS s0) / 2))) (((A 26) lo) - (4 * (yS s0))))), (9, .int (4 * (yT s0))), (6, .int 0), (2, .int (nI u)), (3, .int (nI lo)), (4, .int (yS s0)), (5, .int (yT s0)), (0, .ref x), (1, .int (nI n0))]) hx hb (fh_d d_Mo_setScripts 394 rfl) hl (by decide) rfl (fun ls hl => ?_)
              refine lv_aload_n hx hb (fh_d d_Mo_setScripts 395 rfl) rfl (lv_at hl 8 rfl) ?_
              refine fh_get (own := "FormulaSetterModel") (ref := "FormulaSetterModel") (C := "FormulaSetterModel") (T := T_Mo) (N := 53) (v := .ref (x + 28)) hx hb hT i_Mo hown hK hP mkM_o rfl 34 (by decide) (hT _ w894) (fun _ h9 => h9) rfl (fh_d d_Mo_setScripts 396 rfl) ?_
              refine lv_iload_n hx hb (fh_d d_Mo_setScripts 397 rfl) rfl (lv_at hl 9 rfl) ?_
              refine lv_aload_n hx hb (fh_d d_Mo_setScripts 398 rfl) rfl (lv_at hl 8 rfl) ?_
              refine fh_get (own := "FormulaSetterModel") (ref := "FormulaSetterModel") (C := "FormulaSetterModel") (T := T_Mo) (N := 53) (v := .ref (x + 25)) hx hb hT i_Mo hown hK hP mkM_o rfl 31 (by decide) (hT _ w891) (fun _ h9 => h9) rfl (fh_d d_Mo_setScripts 399 rfl) ?_
              refine lv_iload_n hx hb (fh_d d_Mo_setScripts 400 rfl) rfl (lv_at hl 9 rfl) ?_
              refine fn_iald (f := A 24) (k := n0) hx hb hK hP 0 mkM_a24 rfl (rfl) (by omega) (by decide) (fh_d d_Mo_setScripts 401 rfl) ?_
              refine lv_iload hx hb (fh_d d_Mo_setScripts 402 rfl) (lv_at hl 1 rfl) ?_
              refine lv_aload_n hx hb (fh_d d_Mo_setScripts 403 rfl) rfl (lv_at hl 8 rfl) ?_
              refine fh_get (own := "FormulaSetterModel") (ref := "FormulaSetterModel") (C := "FormulaSetterModel") (T := T_Mo) (N := 53) (v := .ref (x + 28)) hx hb hT i_Mo hown hK hP mkM_o rfl 34 (by decide) (hT _ w894) (fun _ h9 => h9) rfl (fh_d d_Mo_setScripts 404 rfl) ?_
              refine lv_iload_n hx hb (fh_d d_Mo_setScripts 405 rfl) rfl (lv_at hl 5 rfl) ?_
              refine fn_iald (f := upd (A 27) n0 ((A 24) n0)) (k := lo) hx hb hK hP 0 mkM_a27 rfl (rfl) (by omega) (by decide) (fh_d d_Mo_setScripts 406 rfl) ?_
              rw [show ((upd (A 27) n0 ((A 24) n0)) lo) = (A 27) lo from by simp only [upd_n (hln h0l)]]
              refine lv_iadd hx hb (fh_d d_Mo_setScripts 407 rfl) ?_
              refine fh_callS (cc' := c_Mo_most) (nL' := 2) (rest := [.int (nI n0), .ref (x + 28)]) (av := [.int ((A 24) n0), .int ((ms (ms (2 * (yS s0)) (((A 24) n0) + ((yS s0) / 2))) (((A 26) lo) - (4 * (yS s0)))) + ((A 27) lo))]) X hR (m_Mo_most l D ct b RO (r - 1) n ((A 24) n0) ((ms (ms (2 * (yS s0)) (((A 24) n0) + ((yS s0) / 2))) (((A 26) lo) - (4 * (yS s0)))) + ((A 27) lo)) (mkM ct x g (up2 (up2 (up2 (up2 (up2 (up2 A 25 (upd (A 25) n0 ((A 22) n0))) 26 (upd (A 26) n0 ((A 23) n0))) 27 (upd (A 27) n0 ((A 24) n0))) 28 (upd (A 28) n0 0)) 29 (upd (A 29) lo (((A 22) n0) - (yS s0)))) 30 (upd (A 30) lo (-(ms (ms (2 * (yS s0)) (((A 24) n0) + ((yS s0) / 2))) (((A 26) lo) - (4 * (yS s0))))))) th co at_ wr no nu op pi wi he de)) w1151 w1149 w1150 w9 ⟨by decide, by decide, by show _ = some 2; decide +kernel⟩ (by omega) (by decide) hP hS hl.1 rfl (by exact Nat.le_of_ble_eq_true rfl) (fh_d d_Mo_setScripts 408 rfl) ⟨Nat.le_refl _, Nat.le_refl _⟩ (fun v9 h9 n9 H locs hq hP hS => ?_)
              obtain ⟨rfl, q20a, q20b⟩ := hq
              rw [q20a, q20b] at hP
              refine W.eq (g2 := F0 m 647 ls [.int (ms ((A 24) n0) ((ms (ms (2 * (yS s0)) (((A 24) n0) + ((yS s0) / 2))) (((A 26) lo) - (4 * (yS s0)))) + ((A 27) lo))), .int (nI n0), .ref (x + 28)]) rfl ?_
              refine fn_iast (f := upd (A 27) n0 ((A 24) n0)) (k := n0) hx hb hK hP hS 0 mkM_a27 rfl (rfl) (by omega) (by decide) (fh_d d_Mo_setScripts 409 rfl) (fun H locs hP hS => ?_)
              replace hP := fh_P.eq (h' := mkM ct x g (up2 (up2 (up2 (up2 (up2 (up2 (up2 A 25 (upd (A 25) n0 ((A 22) n0))) 26 (upd (A 26) n0 ((A 23) n0))) 27 (upd (A 27) n0 ((A 24) n0))) 28 (upd (A 28) n0 0)) 29 (upd (A 29) lo (((A 22) n0) - (yS s0)))) 30 (upd (A 30) lo (-(ms (ms (2 * (yS s0)) (((A 24) n0) + ((yS s0) / 2))) (((A 26) lo) - (4 * (yS s0))))))) 27 (upd (upd (A 27) n0 ((A 24) n0)) n0 (ms ((A 24) n0) ((ms (ms (2 * (yS s0)) (((A 24) n0) + ((yS s0) / 2))) (((A 26) lo) - (4 * (yS s0)))) + ((A 27) lo))))) th co at_ wr no nu op pi wi he de) hP mkM_u27
              refine lv_aload_n hx hb (fh_d d_Mo_setScripts 410 rfl) rfl (lv_at hl 8 rfl) ?_
              refine fh_get (own := "FormulaSetterModel") (ref := "FormulaSetterModel") (C := "FormulaSetterModel") (T := T_Mo) (N := 53) (v := .ref (x + 26)) hx hb hT i_Mo hown hK hP mkM_o rfl 32 (by decide) (hT _ w892) (fun _ h9 => h9) rfl (fh_d d_Mo_setScripts 411 rfl) ?_
              refine lv_iload_n hx hb (fh_d d_Mo_setScripts 412 rfl) rfl (lv_at hl 9 rfl) ?_
              refine lv_iload hx hb (fh_d d_Mo_setScripts 413 rfl) (lv_at hl 0 rfl) ?_
              refine lv_iload hx hb (fh_d d_Mo_setScripts 414 rfl) (lv_at hl 6 rfl) ?_
              refine lv_iconst (v := 2) hx hb (fh_d d_Mo_setScripts 415 rfl) (by decide) ?_
              refine lv_idiv hx hb (fh_d d_Mo_setScripts 416 rfl) (by decide) ?_
              refine lv_iadd hx hb (fh_d d_Mo_setScripts 417 rfl) ?_
              refine fn_iast (f := upd (A 25) n0 ((A 22) n0)) (k := n0) hx hb hK hP hS 0 mkM_a25 rfl (rfl) (by omega) (by decide) (fh_d d_Mo_setScripts 418 rfl) (fun H locs hP hS => ?_)
              replace hP := fh_P.eq (h' := mkM ct x g (up2 (up2 (up2 (up2 (up2 (up2 (up2 (up2 A 25 (upd (A 25) n0 ((A 22) n0))) 26 (upd (A 26) n0 ((A 23) n0))) 27 (upd (A 27) n0 ((A 24) n0))) 28 (upd (A 28) n0 0)) 29 (upd (A 29) lo (((A 22) n0) - (yS s0)))) 30 (upd (A 30) lo (-(ms (ms (2 * (yS s0)) (((A 24) n0) + ((yS s0) / 2))) (((A 26) lo) - (4 * (yS s0))))))) 27 (upd (upd (A 27) n0 ((A 24) n0)) n0 (ms ((A 24) n0) ((ms (ms (2 * (yS s0)) (((A 24) n0) + ((yS s0) / 2))) (((A 26) lo) - (4 * (yS s0)))) + ((A 27) lo))))) 25 (upd (upd (A 25) n0 ((A 22) n0)) n0 ((ms ((A 22) n0) ((((A 22) n0) - (yS s0)) + ((A 25) lo))) + ((yS s0) / 2)))) th co at_ wr no nu op pi wi he de) hP mkM_u25
              exact fh_vret X hP hS (fh_d d_Mo_setScripts 419 rfl) ⟨rfl, by unfold rf_sc; rw [if_pos h0u, if_neg h0l, if_neg hk0, if_neg hlm, if_pos hk2, if_pos hc3]; (try rfl), rfl⟩
            · skip
              refine lv_istore (lv' := [(8, .int (ms (ms (2 * (yS s0)) (((A 24) n0) + ((yS s0) / 2))) (((A 26) lo) - (4 * (yS s0))))), (9, .int (4 * (yT s0))), (7, .int ((A 22) n0)), (6, .int 0), (2, .int (nI u)), (3, .int (nI lo)), (4, .int (yS s0)), (5, .int (yT s0)), (0, .ref x), (1, .int (nI n0))]) hx hb (fh_d d_Mo_setScripts 349 rfl) hl (by decide) rfl (fun ls hl => ?_)
              refine lv_aload_n hx hb (fh_d d_Mo_setScripts 350 rfl) rfl (lv_at hl 8 rfl) ?_
              refine fh_get (own := "FormulaSetterModel") (ref := "FormulaSetterModel") (C := "FormulaSetterModel") (T := T_Mo) (N := 53) (v := .ref (x + 30)) hx hb hT i_Mo hown hK hP mkM_o rfl 36 (by decide) (hT _ w896) (fun _ h9 => h9) rfl (fh_d d_Mo_setScripts 351 rfl) ?_
              refine lv_iload_n hx hb (fh_d d_Mo_setScripts 352 rfl) rfl (lv_at hl 5 rfl) ?_
              refine lv_aload_n hx hb (fh_d d_Mo_setScripts 353 rfl) rfl (lv_at hl 8 rfl) ?_
              refine fh_get (own := "FormulaSetterModel") (ref := "FormulaSetterModel") (C := "FormulaSetterModel") (T := T_Mo) (N := 53) (v := .ref (x + 2)) hx hb hT i_Mo hown hK hP mkM_o rfl 7 (by decide) (hT _ w867) (fun _ h9 => h9) rfl (fh_d d_Mo_setScripts 354 rfl) ?_
              refine lv_iload_n hx hb (fh_d d_Mo_setScripts 355 rfl) rfl (lv_at hl 9 rfl) ?_
              refine fn_iald (f := A 1) (k := n0) hx hb hK hP 0 mkM_a1 rfl (rfl) (by omega) (by decide) (fh_d d_Mo_setScripts 356 rfl) ?_
              refine lv_iconst (v := 2) hx hb (fh_d d_Mo_setScripts 357 rfl) (by decide) ?_
              refine lv_icmp_ne (tgt := 588) hx hb (fh_d d_Mo_setScripts 358 rfl) rfl (fun c21 => absurd c21 (Classical.not_not.mpr (hk2))) (fun c21 => ?_)
              refine lv_aload_n hx hb (fh_d d_Mo_setScripts 359 rfl) rfl (lv_at hl 8 rfl) ?_
              refine fh_get (own := "FormulaSetterModel") (ref := "FormulaSetterModel") (C := "FormulaSetterModel") (T := T_Mo) (N := 53) (v := .ref (x + 3)) hx hb hT i_Mo hown hK hP mkM_o rfl 8 (by decide) (hT _ w868) (fun _ h9 => h9) rfl (fh_d d_Mo_setScripts 360 rfl) ?_
              refine lv_iload_n hx hb (fh_d d_Mo_setScripts 361 rfl) rfl (lv_at hl 9 rfl) ?_
              refine fn_iald (f := A 2) (k := n0) hx hb hK hP 0 mkM_a2 rfl (rfl) (by omega) (by decide) (fh_d d_Mo_setScripts 362 rfl) ?_
              refine lv_bipush (v := 73) hx hb (fh_d d_Mo_setScripts 363 rfl) (by decide) ?_
              refine lv_icmp_ne (tgt := 588) hx hb (fh_d d_Mo_setScripts 364 rfl) rfl (fun c22 => ?_) (fun c22 => absurd c22 (hc3))
              refine lv_aload_n hx hb (fh_d d_Mo_setScripts 372 rfl) rfl (lv_at hl 8 rfl) ?_
              refine fh_get (own := "FormulaSetterModel") (ref := "FormulaSetterModel") (C := "FormulaSetterModel") (T := T_Mo) (N := 53) (v := .ref (x + 23)) hx hb hT i_Mo hown hK hP mkM_o rfl 29 (by decide) (hT _ w889) (fun _ h9 => h9) rfl (fh_d d_Mo_setScripts 373 rfl) ?_
              refine lv_iload_n hx hb (fh_d d_Mo_setScripts 374 rfl) rfl (lv_at hl 9 rfl) ?_
              refine fn_iald (f := A 22) (k := n0) hx hb hK hP 0 mkM_a22 rfl (rfl) (by omega) (by decide) (fh_d d_Mo_setScripts 375 rfl) ?_
              refine fn_iast (f := A 29) (k := lo) hx hb hK hP hS 0 mkM_a29 rfl (rfl) (by omega) (by decide) (fh_d d_Mo_setScripts 376 rfl) (fun H locs hP hS => ?_)
              replace hP := fh_P.eq (h' := mkM ct x g (up2 (up2 (up2 (up2 (up2 A 25 (upd (A 25) n0 ((A 22) n0))) 26 (upd (A 26) n0 ((A 23) n0))) 27 (upd (A 27) n0 ((A 24) n0))) 28 (upd (A 28) n0 0)) 29 (upd (A 29) lo ((A 22) n0))) th co at_ wr no nu op pi wi he de) hP mkM_u29
              refine lv_aload_n hx hb (fh_d d_Mo_setScripts 377 rfl) rfl (lv_at hl 8 rfl) ?_
              refine fh_get (own := "FormulaSetterModel") (ref := "FormulaSetterModel") (C := "FormulaSetterModel") (T := T_Mo) (N := 53) (v := .ref (x + 31)) hx hb hT i_Mo hown hK hP mkM_o rfl 37 (by decide) (hT _ w897) (fun _ h9 => h9) rfl (fh_d d_Mo_setScripts 378 rfl) ?_
              refine lv_iload_n hx hb (fh_d d_Mo_setScripts 379 rfl) rfl (lv_at hl 5 rfl) ?_
              refine lv_iload hx hb (fh_d d_Mo_setScripts 380 rfl) (lv_at hl 0 rfl) ?_
              refine lv_ineg hx hb (fh_d d_Mo_setScripts 381 rfl) ?_
              refine fn_iast (f := A 30) (k := lo) hx hb hK hP hS 0 mkM_a30 rfl (rfl) (by omega) (by decide) (fh_d d_Mo_setScripts 382 rfl) (fun H locs hP hS => ?_)
              replace hP := fh_P.eq (h' := mkM ct x g (up2 (up2 (up2 (up2 (up2 (up2 A 25 (upd (A 25) n0 ((A 22) n0))) 26 (upd (A 26) n0 ((A 23) n0))) 27 (upd (A 27) n0 ((A 24) n0))) 28 (upd (A 28) n0 0)) 29 (upd (A 29) lo ((A 22) n0))) 30 (upd (A 30) lo (-(ms (ms (2 * (yS s0)) (((A 24) n0) + ((yS s0) / 2))) (((A 26) lo) - (4 * (yS s0))))))) th co at_ wr no nu op pi wi he de) hP mkM_u30
              refine lv_iload hx hb (fh_d d_Mo_setScripts 383 rfl) (lv_at hl 2 rfl) ?_
              refine lv_aload_n hx hb (fh_d d_Mo_setScripts 384 rfl) rfl (lv_at hl 8 rfl) ?_
              refine fh_get (own := "FormulaSetterModel") (ref := "FormulaSetterModel") (C := "FormulaSetterModel") (T := T_Mo) (N := 53) (v := .ref (x + 30)) hx hb hT i_Mo hown hK hP mkM_o rfl 36 (by decide) (hT _ w896) (fun _ h9 => h9) rfl (fh_d d_Mo_setScripts 385 rfl) ?_
              refine lv_iload_n hx hb (fh_d d_Mo_setScripts 386 rfl) rfl (lv_at hl 5 rfl) ?_
              refine fn_iald (f := upd (A 29) lo ((A 22) n0)) (k := lo) hx hb hK hP 0 mkM_a29 rfl (rfl) (by omega) (by decide) (fh_d d_Mo_setScripts 387 rfl) ?_
              rw [show ((upd (A 29) lo ((A 22) n0)) lo) = ((A 22) n0) from upd_s]
              refine lv_aload_n hx hb (fh_d d_Mo_setScripts 388 rfl) rfl (lv_at hl 8 rfl) ?_
              refine fh_get (own := "FormulaSetterModel") (ref := "FormulaSetterModel") (C := "FormulaSetterModel") (T := T_Mo) (N := 53) (v := .ref (x + 26)) hx hb hT i_Mo hown hK hP mkM_o rfl 32 (by decide) (hT _ w892) (fun _ h9 => h9) rfl (fh_d d_Mo_setScripts 389 rfl) ?_
              refine lv_iload_n hx hb (fh_d d_Mo_setScripts 390 rfl) rfl (lv_at hl 5 rfl) ?_
              refine fn_iald (f := upd (A 25) n0 ((A 22) n0)) (k := lo) hx hb hK hP 0 mkM_a25 rfl (rfl) (by omega) (by decide) (fh_d d_Mo_setScripts 391 rfl) ?_
              rw [show ((upd (A 25) n0 ((A 22) n0)) lo) = (A 25) lo from by simp only [upd_n (hln h0l)]]
              refine lv_iadd hx hb (fh_d d_Mo_setScripts 392 rfl) ?_
              refine fh_callS (cc' := c_Mo_most) (nL' := 2) (rest := []) (av := [.int ((A 22) n0), .int (((A 22) n0) + ((A 25) lo))]) X hR (m_Mo_most l D ct b RO (r - 1) n ((A 22) n0) (((A 22) n0) + ((A 25) lo)) (mkM ct x g (up2 (up2 (up2 (up2 (up2 (up2 A 25 (upd (A 25) n0 ((A 22) n0))) 26 (upd (A 26) n0 ((A 23) n0))) 27 (upd (A 27) n0 ((A 24) n0))) 28 (upd (A 28) n0 0)) 29 (upd (A 29) lo ((A 22) n0))) 30 (upd (A 30) lo (-(ms (ms (2 * (yS s0)) (((A 24) n0) + ((yS s0) / 2))) (((A 26) lo) - (4 * (yS s0))))))) th co at_ wr no nu op pi wi he de)) w1151 w1149 w1150 w9 ⟨by decide, by decide, by show _ = some 2; decide +kernel⟩ (by omega) (by decide) hP hS hl.1 rfl (by exact Nat.le_of_ble_eq_true rfl) (fh_d d_Mo_setScripts 393 rfl) ⟨Nat.le_refl _, Nat.le_refl _⟩ (fun v9 h9 n9 H locs hq hP hS => ?_)
              obtain ⟨rfl, q23a, q23b⟩ := hq
              rw [q23a, q23b] at hP
              refine W.eq (g2 := F0 m 622 ls [.int (ms ((A 22) n0) (((A 22) n0) + ((A 25) lo)))]) rfl ?_
              refine lv_istore (lv' := [(7, .int (ms ((A 22) n0) (((A 22) n0) + ((A 25) lo)))), (8, .int (ms (ms (2 * (yS s0)) (((A 24) n0) + ((yS s0) / 2))) (((A 26) lo) - (4 * (yS s0))))), (9, .int (4 * (yT s0))), (6, .int 0), (2, .int (nI u)), (3, .int (nI lo)), (4, .int (yS s0)), (5, .int (yT s0)), (0, .ref x), (1, .int (nI n0))]) hx hb (fh_d d_Mo_setScripts 394 rfl) hl (by decide) rfl (fun ls hl => ?_)
              refine lv_aload_n hx hb (fh_d d_Mo_setScripts 395 rfl) rfl (lv_at hl 8 rfl) ?_
              refine fh_get (own := "FormulaSetterModel") (ref := "FormulaSetterModel") (C := "FormulaSetterModel") (T := T_Mo) (N := 53) (v := .ref (x + 28)) hx hb hT i_Mo hown hK hP mkM_o rfl 34 (by decide) (hT _ w894) (fun _ h9 => h9) rfl (fh_d d_Mo_setScripts 396 rfl) ?_
              refine lv_iload_n hx hb (fh_d d_Mo_setScripts 397 rfl) rfl (lv_at hl 9 rfl) ?_
              refine lv_aload_n hx hb (fh_d d_Mo_setScripts 398 rfl) rfl (lv_at hl 8 rfl) ?_
              refine fh_get (own := "FormulaSetterModel") (ref := "FormulaSetterModel") (C := "FormulaSetterModel") (T := T_Mo) (N := 53) (v := .ref (x + 25)) hx hb hT i_Mo hown hK hP mkM_o rfl 31 (by decide) (hT _ w891) (fun _ h9 => h9) rfl (fh_d d_Mo_setScripts 399 rfl) ?_
              refine lv_iload_n hx hb (fh_d d_Mo_setScripts 400 rfl) rfl (lv_at hl 9 rfl) ?_
              refine fn_iald (f := A 24) (k := n0) hx hb hK hP 0 mkM_a24 rfl (rfl) (by omega) (by decide) (fh_d d_Mo_setScripts 401 rfl) ?_
              refine lv_iload hx hb (fh_d d_Mo_setScripts 402 rfl) (lv_at hl 1 rfl) ?_
              refine lv_aload_n hx hb (fh_d d_Mo_setScripts 403 rfl) rfl (lv_at hl 8 rfl) ?_
              refine fh_get (own := "FormulaSetterModel") (ref := "FormulaSetterModel") (C := "FormulaSetterModel") (T := T_Mo) (N := 53) (v := .ref (x + 28)) hx hb hT i_Mo hown hK hP mkM_o rfl 34 (by decide) (hT _ w894) (fun _ h9 => h9) rfl (fh_d d_Mo_setScripts 404 rfl) ?_
              refine lv_iload_n hx hb (fh_d d_Mo_setScripts 405 rfl) rfl (lv_at hl 5 rfl) ?_
              refine fn_iald (f := upd (A 27) n0 ((A 24) n0)) (k := lo) hx hb hK hP 0 mkM_a27 rfl (rfl) (by omega) (by decide) (fh_d d_Mo_setScripts 406 rfl) ?_
              rw [show ((upd (A 27) n0 ((A 24) n0)) lo) = (A 27) lo from by simp only [upd_n (hln h0l)]]
              refine lv_iadd hx hb (fh_d d_Mo_setScripts 407 rfl) ?_
              refine fh_callS (cc' := c_Mo_most) (nL' := 2) (rest := [.int (nI n0), .ref (x + 28)]) (av := [.int ((A 24) n0), .int ((ms (ms (2 * (yS s0)) (((A 24) n0) + ((yS s0) / 2))) (((A 26) lo) - (4 * (yS s0)))) + ((A 27) lo))]) X hR (m_Mo_most l D ct b RO (r - 1) n ((A 24) n0) ((ms (ms (2 * (yS s0)) (((A 24) n0) + ((yS s0) / 2))) (((A 26) lo) - (4 * (yS s0)))) + ((A 27) lo)) (mkM ct x g (up2 (up2 (up2 (up2 (up2 (up2 A 25 (upd (A 25) n0 ((A 22) n0))) 26 (upd (A 26) n0 ((A 23) n0))) 27 (upd (A 27) n0 ((A 24) n0))) 28 (upd (A 28) n0 0)) 29 (upd (A 29) lo ((A 22) n0))) 30 (upd (A 30) lo (-(ms (ms (2 * (yS s0)) (((A 24) n0) + ((yS s0) / 2))) (((A 26) lo) - (4 * (yS s0))))))) th co at_ wr no nu op pi wi he de)) w1151 w1149 w1150 w9 ⟨by decide, by decide, by show _ = some 2; decide +kernel⟩ (by omega) (by decide) hP hS hl.1 rfl (by exact Nat.le_of_ble_eq_true rfl) (fh_d d_Mo_setScripts 408 rfl) ⟨Nat.le_refl _, Nat.le_refl _⟩ (fun v9 h9 n9 H locs hq hP hS => ?_)
              obtain ⟨rfl, q24a, q24b⟩ := hq
              rw [q24a, q24b] at hP
              refine W.eq (g2 := F0 m 647 ls [.int (ms ((A 24) n0) ((ms (ms (2 * (yS s0)) (((A 24) n0) + ((yS s0) / 2))) (((A 26) lo) - (4 * (yS s0)))) + ((A 27) lo))), .int (nI n0), .ref (x + 28)]) rfl ?_
              refine fn_iast (f := upd (A 27) n0 ((A 24) n0)) (k := n0) hx hb hK hP hS 0 mkM_a27 rfl (rfl) (by omega) (by decide) (fh_d d_Mo_setScripts 409 rfl) (fun H locs hP hS => ?_)
              replace hP := fh_P.eq (h' := mkM ct x g (up2 (up2 (up2 (up2 (up2 (up2 (up2 A 25 (upd (A 25) n0 ((A 22) n0))) 26 (upd (A 26) n0 ((A 23) n0))) 27 (upd (A 27) n0 ((A 24) n0))) 28 (upd (A 28) n0 0)) 29 (upd (A 29) lo ((A 22) n0))) 30 (upd (A 30) lo (-(ms (ms (2 * (yS s0)) (((A 24) n0) + ((yS s0) / 2))) (((A 26) lo) - (4 * (yS s0))))))) 27 (upd (upd (A 27) n0 ((A 24) n0)) n0 (ms ((A 24) n0) ((ms (ms (2 * (yS s0)) (((A 24) n0) + ((yS s0) / 2))) (((A 26) lo) - (4 * (yS s0)))) + ((A 27) lo))))) th co at_ wr no nu op pi wi he de) hP mkM_u27
              refine lv_aload_n hx hb (fh_d d_Mo_setScripts 410 rfl) rfl (lv_at hl 8 rfl) ?_
              refine fh_get (own := "FormulaSetterModel") (ref := "FormulaSetterModel") (C := "FormulaSetterModel") (T := T_Mo) (N := 53) (v := .ref (x + 26)) hx hb hT i_Mo hown hK hP mkM_o rfl 32 (by decide) (hT _ w892) (fun _ h9 => h9) rfl (fh_d d_Mo_setScripts 411 rfl) ?_
              refine lv_iload_n hx hb (fh_d d_Mo_setScripts 412 rfl) rfl (lv_at hl 9 rfl) ?_
              refine lv_iload hx hb (fh_d d_Mo_setScripts 413 rfl) (lv_at hl 0 rfl) ?_
              refine lv_iload hx hb (fh_d d_Mo_setScripts 414 rfl) (lv_at hl 6 rfl) ?_
              refine lv_iconst (v := 2) hx hb (fh_d d_Mo_setScripts 415 rfl) (by decide) ?_
              refine lv_idiv hx hb (fh_d d_Mo_setScripts 416 rfl) (by decide) ?_
              refine lv_iadd hx hb (fh_d d_Mo_setScripts 417 rfl) ?_
              refine fn_iast (f := upd (A 25) n0 ((A 22) n0)) (k := n0) hx hb hK hP hS 0 mkM_a25 rfl (rfl) (by omega) (by decide) (fh_d d_Mo_setScripts 418 rfl) (fun H locs hP hS => ?_)
              replace hP := fh_P.eq (h' := mkM ct x g (up2 (up2 (up2 (up2 (up2 (up2 (up2 (up2 A 25 (upd (A 25) n0 ((A 22) n0))) 26 (upd (A 26) n0 ((A 23) n0))) 27 (upd (A 27) n0 ((A 24) n0))) 28 (upd (A 28) n0 0)) 29 (upd (A 29) lo ((A 22) n0))) 30 (upd (A 30) lo (-(ms (ms (2 * (yS s0)) (((A 24) n0) + ((yS s0) / 2))) (((A 26) lo) - (4 * (yS s0))))))) 27 (upd (upd (A 27) n0 ((A 24) n0)) n0 (ms ((A 24) n0) ((ms (ms (2 * (yS s0)) (((A 24) n0) + ((yS s0) / 2))) (((A 26) lo) - (4 * (yS s0)))) + ((A 27) lo))))) 25 (upd (upd (A 25) n0 ((A 22) n0)) n0 ((ms ((A 22) n0) (((A 22) n0) + ((A 25) lo))) + ((yS s0) / 2)))) th co at_ wr no nu op pi wi he de) hP mkM_u25
              exact fh_vret X hP hS (fh_d d_Mo_setScripts 419 rfl) ⟨rfl, by unfold rf_sc; rw [if_pos h0u, if_neg h0l, if_neg hk0, if_neg hlm, if_pos hk2, if_neg hc3]; (try rfl), rfl⟩
          · skip
            refine lv_istore (lv' := [(8, .int (ms (ms (2 * (yS s0)) (((A 24) n0) + ((yS s0) / 2))) (((A 26) lo) - (4 * (yS s0))))), (9, .int (4 * (yT s0))), (7, .int ((A 22) n0)), (6, .int 0), (2, .int (nI u)), (3, .int (nI lo)), (4, .int (yS s0)), (5, .int (yT s0)), (0, .ref x), (1, .int (nI n0))]) hx hb (fh_d d_Mo_setScripts 349 rfl) hl (by decide) rfl (fun ls hl => ?_)
            refine lv_aload_n hx hb (fh_d d_Mo_setScripts 350 rfl) rfl (lv_at hl 8 rfl) ?_
            refine fh_get (own := "FormulaSetterModel") (ref := "FormulaSetterModel") (C := "FormulaSetterModel") (T := T_Mo) (N := 53) (v := .ref (x + 30)) hx hb hT i_Mo hown hK hP mkM_o rfl 36 (by decide) (hT _ w896) (fun _ h9 => h9) rfl (fh_d d_Mo_setScripts 351 rfl) ?_
            refine lv_iload_n hx hb (fh_d d_Mo_setScripts 352 rfl) rfl (lv_at hl 5 rfl) ?_
            refine lv_aload_n hx hb (fh_d d_Mo_setScripts 353 rfl) rfl (lv_at hl 8 rfl) ?_
            refine fh_get (own := "FormulaSetterModel") (ref := "FormulaSetterModel") (C := "FormulaSetterModel") (T := T_Mo) (N := 53) (v := .ref (x + 2)) hx hb hT i_Mo hown hK hP mkM_o rfl 7 (by decide) (hT _ w867) (fun _ h9 => h9) rfl (fh_d d_Mo_setScripts 354 rfl) ?_
            refine lv_iload_n hx hb (fh_d d_Mo_setScripts 355 rfl) rfl (lv_at hl 9 rfl) ?_
            refine fn_iald (f := A 1) (k := n0) hx hb hK hP 0 mkM_a1 rfl (rfl) (by omega) (by decide) (fh_d d_Mo_setScripts 356 rfl) ?_
            refine lv_iconst (v := 2) hx hb (fh_d d_Mo_setScripts 357 rfl) (by decide) ?_
            refine lv_icmp_ne (tgt := 588) hx hb (fh_d d_Mo_setScripts 358 rfl) rfl (fun c25 => ?_) (fun c25 => absurd c25 (hk2))
            refine lv_aload_n hx hb (fh_d d_Mo_setScripts 372 rfl) rfl (lv_at hl 8 rfl) ?_
            refine fh_get (own := "FormulaSetterModel") (ref := "FormulaSetterModel") (C := "FormulaSetterModel") (T := T_Mo) (N := 53) (v := .ref (x + 23)) hx hb hT i_Mo hown hK hP mkM_o rfl 29 (by decide) (hT _ w889) (fun _ h9 => h9) rfl (fh_d d_Mo_setScripts 373 rfl) ?_
            refine lv_iload_n hx hb (fh_d d_Mo_setScripts 374 rfl) rfl (lv_at hl 9 rfl) ?_
            refine fn_iald (f := A 22) (k := n0) hx hb hK hP 0 mkM_a22 rfl (rfl) (by omega) (by decide) (fh_d d_Mo_setScripts 375 rfl) ?_
            refine fn_iast (f := A 29) (k := lo) hx hb hK hP hS 0 mkM_a29 rfl (rfl) (by omega) (by decide) (fh_d d_Mo_setScripts 376 rfl) (fun H locs hP hS => ?_)
            replace hP := fh_P.eq (h' := mkM ct x g (up2 (up2 (up2 (up2 (up2 A 25 (upd (A 25) n0 ((A 22) n0))) 26 (upd (A 26) n0 ((A 23) n0))) 27 (upd (A 27) n0 ((A 24) n0))) 28 (upd (A 28) n0 0)) 29 (upd (A 29) lo ((A 22) n0))) th co at_ wr no nu op pi wi he de) hP mkM_u29
            refine lv_aload_n hx hb (fh_d d_Mo_setScripts 377 rfl) rfl (lv_at hl 8 rfl) ?_
            refine fh_get (own := "FormulaSetterModel") (ref := "FormulaSetterModel") (C := "FormulaSetterModel") (T := T_Mo) (N := 53) (v := .ref (x + 31)) hx hb hT i_Mo hown hK hP mkM_o rfl 37 (by decide) (hT _ w897) (fun _ h9 => h9) rfl (fh_d d_Mo_setScripts 378 rfl) ?_
            refine lv_iload_n hx hb (fh_d d_Mo_setScripts 379 rfl) rfl (lv_at hl 5 rfl) ?_
            refine lv_iload hx hb (fh_d d_Mo_setScripts 380 rfl) (lv_at hl 0 rfl) ?_
            refine lv_ineg hx hb (fh_d d_Mo_setScripts 381 rfl) ?_
            refine fn_iast (f := A 30) (k := lo) hx hb hK hP hS 0 mkM_a30 rfl (rfl) (by omega) (by decide) (fh_d d_Mo_setScripts 382 rfl) (fun H locs hP hS => ?_)
            replace hP := fh_P.eq (h' := mkM ct x g (up2 (up2 (up2 (up2 (up2 (up2 A 25 (upd (A 25) n0 ((A 22) n0))) 26 (upd (A 26) n0 ((A 23) n0))) 27 (upd (A 27) n0 ((A 24) n0))) 28 (upd (A 28) n0 0)) 29 (upd (A 29) lo ((A 22) n0))) 30 (upd (A 30) lo (-(ms (ms (2 * (yS s0)) (((A 24) n0) + ((yS s0) / 2))) (((A 26) lo) - (4 * (yS s0))))))) th co at_ wr no nu op pi wi he de) hP mkM_u30
            refine lv_iload hx hb (fh_d d_Mo_setScripts 383 rfl) (lv_at hl 2 rfl) ?_
            refine lv_aload_n hx hb (fh_d d_Mo_setScripts 384 rfl) rfl (lv_at hl 8 rfl) ?_
            refine fh_get (own := "FormulaSetterModel") (ref := "FormulaSetterModel") (C := "FormulaSetterModel") (T := T_Mo) (N := 53) (v := .ref (x + 30)) hx hb hT i_Mo hown hK hP mkM_o rfl 36 (by decide) (hT _ w896) (fun _ h9 => h9) rfl (fh_d d_Mo_setScripts 385 rfl) ?_
            refine lv_iload_n hx hb (fh_d d_Mo_setScripts 386 rfl) rfl (lv_at hl 5 rfl) ?_
            refine fn_iald (f := upd (A 29) lo ((A 22) n0)) (k := lo) hx hb hK hP 0 mkM_a29 rfl (rfl) (by omega) (by decide) (fh_d d_Mo_setScripts 387 rfl) ?_
            rw [show ((upd (A 29) lo ((A 22) n0)) lo) = ((A 22) n0) from upd_s]
            refine lv_aload_n hx hb (fh_d d_Mo_setScripts 388 rfl) rfl (lv_at hl 8 rfl) ?_
            refine fh_get (own := "FormulaSetterModel") (ref := "FormulaSetterModel") (C := "FormulaSetterModel") (T := T_Mo) (N := 53) (v := .ref (x + 26)) hx hb hT i_Mo hown hK hP mkM_o rfl 32 (by decide) (hT _ w892) (fun _ h9 => h9) rfl (fh_d d_Mo_setScripts 389 rfl) ?_
            refine lv_iload_n hx hb (fh_d d_Mo_setScripts 390 rfl) rfl (lv_at hl 5 rfl) ?_
            refine fn_iald (f := upd (A 25) n0 ((A 22) n0)) (k := lo) hx hb hK hP 0 mkM_a25 rfl (rfl) (by omega) (by decide) (fh_d d_Mo_setScripts 391 rfl) ?_
            rw [show ((upd (A 25) n0 ((A 22) n0)) lo) = (A 25) lo from by simp only [upd_n (hln h0l)]]
            refine lv_iadd hx hb (fh_d d_Mo_setScripts 392 rfl) ?_
            refine fh_callS (cc' := c_Mo_most) (nL' := 2) (rest := []) (av := [.int ((A 22) n0), .int (((A 22) n0) + ((A 25) lo))]) X hR (m_Mo_most l D ct b RO (r - 1) n ((A 22) n0) (((A 22) n0) + ((A 25) lo)) (mkM ct x g (up2 (up2 (up2 (up2 (up2 (up2 A 25 (upd (A 25) n0 ((A 22) n0))) 26 (upd (A 26) n0 ((A 23) n0))) 27 (upd (A 27) n0 ((A 24) n0))) 28 (upd (A 28) n0 0)) 29 (upd (A 29) lo ((A 22) n0))) 30 (upd (A 30) lo (-(ms (ms (2 * (yS s0)) (((A 24) n0) + ((yS s0) / 2))) (((A 26) lo) - (4 * (yS s0))))))) th co at_ wr no nu op pi wi he de)) w1151 w1149 w1150 w9 ⟨by decide, by decide, by show _ = some 2; decide +kernel⟩ (by omega) (by decide) hP hS hl.1 rfl (by exact Nat.le_of_ble_eq_true rfl) (fh_d d_Mo_setScripts 393 rfl) ⟨Nat.le_refl _, Nat.le_refl _⟩ (fun v9 h9 n9 H locs hq hP hS => ?_)
            obtain ⟨rfl, q26a, q26b⟩ := hq
            rw [q26a, q26b] at hP
            refine W.eq (g2 := F0 m 622 ls [.int (ms ((A 22) n0) (((A 22) n0) + ((A 25) lo)))]) rfl ?_
            refine lv_istore (lv' := [(7, .int (ms ((A 22) n0) (((A 22) n0) + ((A 25) lo)))), (8, .int (ms (ms (2 * (yS s0)) (((A 24) n0) + ((yS s0) / 2))) (((A 26) lo) - (4 * (yS s0))))), (9, .int (4 * (yT s0))), (6, .int 0), (2, .int (nI u)), (3, .int (nI lo)), (4, .int (yS s0)), (5, .int (yT s0)), (0, .ref x), (1, .int (nI n0))]) hx hb (fh_d d_Mo_setScripts 394 rfl) hl (by decide) rfl (fun ls hl => ?_)
            refine lv_aload_n hx hb (fh_d d_Mo_setScripts 395 rfl) rfl (lv_at hl 8 rfl) ?_
            refine fh_get (own := "FormulaSetterModel") (ref := "FormulaSetterModel") (C := "FormulaSetterModel") (T := T_Mo) (N := 53) (v := .ref (x + 28)) hx hb hT i_Mo hown hK hP mkM_o rfl 34 (by decide) (hT _ w894) (fun _ h9 => h9) rfl (fh_d d_Mo_setScripts 396 rfl) ?_
            refine lv_iload_n hx hb (fh_d d_Mo_setScripts 397 rfl) rfl (lv_at hl 9 rfl) ?_
            refine lv_aload_n hx hb (fh_d d_Mo_setScripts 398 rfl) rfl (lv_at hl 8 rfl) ?_
            refine fh_get (own := "FormulaSetterModel") (ref := "FormulaSetterModel") (C := "FormulaSetterModel") (T := T_Mo) (N := 53) (v := .ref (x + 25)) hx hb hT i_Mo hown hK hP mkM_o rfl 31 (by decide) (hT _ w891) (fun _ h9 => h9) rfl (fh_d d_Mo_setScripts 399 rfl) ?_
            refine lv_iload_n hx hb (fh_d d_Mo_setScripts 400 rfl) rfl (lv_at hl 9 rfl) ?_
            refine fn_iald (f := A 24) (k := n0) hx hb hK hP 0 mkM_a24 rfl (rfl) (by omega) (by decide) (fh_d d_Mo_setScripts 401 rfl) ?_
            refine lv_iload hx hb (fh_d d_Mo_setScripts 402 rfl) (lv_at hl 1 rfl) ?_
            refine lv_aload_n hx hb (fh_d d_Mo_setScripts 403 rfl) rfl (lv_at hl 8 rfl) ?_
            refine fh_get (own := "FormulaSetterModel") (ref := "FormulaSetterModel") (C := "FormulaSetterModel") (T := T_Mo) (N := 53) (v := .ref (x + 28)) hx hb hT i_Mo hown hK hP mkM_o rfl 34 (by decide) (hT _ w894) (fun _ h9 => h9) rfl (fh_d d_Mo_setScripts 404 rfl) ?_
            refine lv_iload_n hx hb (fh_d d_Mo_setScripts 405 rfl) rfl (lv_at hl 5 rfl) ?_
            refine fn_iald (f := upd (A 27) n0 ((A 24) n0)) (k := lo) hx hb hK hP 0 mkM_a27 rfl (rfl) (by omega) (by decide) (fh_d d_Mo_setScripts 406 rfl) ?_
            rw [show ((upd (A 27) n0 ((A 24) n0)) lo) = (A 27) lo from by simp only [upd_n (hln h0l)]]
            refine lv_iadd hx hb (fh_d d_Mo_setScripts 407 rfl) ?_
            refine fh_callS (cc' := c_Mo_most) (nL' := 2) (rest := [.int (nI n0), .ref (x + 28)]) (av := [.int ((A 24) n0), .int ((ms (ms (2 * (yS s0)) (((A 24) n0) + ((yS s0) / 2))) (((A 26) lo) - (4 * (yS s0)))) + ((A 27) lo))]) X hR (m_Mo_most l D ct b RO (r - 1) n ((A 24) n0) ((ms (ms (2 * (yS s0)) (((A 24) n0) + ((yS s0) / 2))) (((A 26) lo) - (4 * (yS s0)))) + ((A 27) lo)) (mkM ct x g (up2 (up2 (up2 (up2 (up2 (up2 A 25 (upd (A 25) n0 ((A 22) n0))) 26 (upd (A 26) n0 ((A 23) n0))) 27 (upd (A 27) n0 ((A 24) n0))) 28 (upd (A 28) n0 0)) 29 (upd (A 29) lo ((A 22) n0))) 30 (upd (A 30) lo (-(ms (ms (2 * (yS s0)) (((A 24) n0) + ((yS s0) / 2))) (((A 26) lo) - (4 * (yS s0))))))) th co at_ wr no nu op pi wi he de)) w1151 w1149 w1150 w9 ⟨by decide, by decide, by show _ = some 2; decide +kernel⟩ (by omega) (by decide) hP hS hl.1 rfl (by exact Nat.le_of_ble_eq_true rfl) (fh_d d_Mo_setScripts 408 rfl) ⟨Nat.le_refl _, Nat.le_refl _⟩ (fun v9 h9 n9 H locs hq hP hS => ?_)
            obtain ⟨rfl, q27a, q27b⟩ := hq
            rw [q27a, q27b] at hP
            refine W.eq (g2 := F0 m 647 ls [.int (ms ((A 24) n0) ((ms (ms (2 * (yS s0)) (((A 24) n0) + ((yS s0) / 2))) (((A 26) lo) - (4 * (yS s0)))) + ((A 27) lo))), .int (nI n0), .ref (x + 28)]) rfl ?_
            refine fn_iast (f := upd (A 27) n0 ((A 24) n0)) (k := n0) hx hb hK hP hS 0 mkM_a27 rfl (rfl) (by omega) (by decide) (fh_d d_Mo_setScripts 409 rfl) (fun H locs hP hS => ?_)
            replace hP := fh_P.eq (h' := mkM ct x g (up2 (up2 (up2 (up2 (up2 (up2 (up2 A 25 (upd (A 25) n0 ((A 22) n0))) 26 (upd (A 26) n0 ((A 23) n0))) 27 (upd (A 27) n0 ((A 24) n0))) 28 (upd (A 28) n0 0)) 29 (upd (A 29) lo ((A 22) n0))) 30 (upd (A 30) lo (-(ms (ms (2 * (yS s0)) (((A 24) n0) + ((yS s0) / 2))) (((A 26) lo) - (4 * (yS s0))))))) 27 (upd (upd (A 27) n0 ((A 24) n0)) n0 (ms ((A 24) n0) ((ms (ms (2 * (yS s0)) (((A 24) n0) + ((yS s0) / 2))) (((A 26) lo) - (4 * (yS s0)))) + ((A 27) lo))))) th co at_ wr no nu op pi wi he de) hP mkM_u27
            refine lv_aload_n hx hb (fh_d d_Mo_setScripts 410 rfl) rfl (lv_at hl 8 rfl) ?_
            refine fh_get (own := "FormulaSetterModel") (ref := "FormulaSetterModel") (C := "FormulaSetterModel") (T := T_Mo) (N := 53) (v := .ref (x + 26)) hx hb hT i_Mo hown hK hP mkM_o rfl 32 (by decide) (hT _ w892) (fun _ h9 => h9) rfl (fh_d d_Mo_setScripts 411 rfl) ?_
            refine lv_iload_n hx hb (fh_d d_Mo_setScripts 412 rfl) rfl (lv_at hl 9 rfl) ?_
            refine lv_iload hx hb (fh_d d_Mo_setScripts 413 rfl) (lv_at hl 0 rfl) ?_
            refine lv_iload hx hb (fh_d d_Mo_setScripts 414 rfl) (lv_at hl 6 rfl) ?_
            refine lv_iconst (v := 2) hx hb (fh_d d_Mo_setScripts 415 rfl) (by decide) ?_
            refine lv_idiv hx hb (fh_d d_Mo_setScripts 416 rfl) (by decide) ?_
            refine lv_iadd hx hb (fh_d d_Mo_setScripts 417 rfl) ?_
            refine fn_iast (f := upd (A 25) n0 ((A 22) n0)) (k := n0) hx hb hK hP hS 0 mkM_a25 rfl (rfl) (by omega) (by decide) (fh_d d_Mo_setScripts 418 rfl) (fun H locs hP hS => ?_)
            replace hP := fh_P.eq (h' := mkM ct x g (up2 (up2 (up2 (up2 (up2 (up2 (up2 (up2 A 25 (upd (A 25) n0 ((A 22) n0))) 26 (upd (A 26) n0 ((A 23) n0))) 27 (upd (A 27) n0 ((A 24) n0))) 28 (upd (A 28) n0 0)) 29 (upd (A 29) lo ((A 22) n0))) 30 (upd (A 30) lo (-(ms (ms (2 * (yS s0)) (((A 24) n0) + ((yS s0) / 2))) (((A 26) lo) - (4 * (yS s0))))))) 27 (upd (upd (A 27) n0 ((A 24) n0)) n0 (ms ((A 24) n0) ((ms (ms (2 * (yS s0)) (((A 24) n0) + ((yS s0) / 2))) (((A 26) lo) - (4 * (yS s0)))) + ((A 27) lo))))) 25 (upd (upd (A 25) n0 ((A 22) n0)) n0 ((ms ((A 22) n0) (((A 22) n0) + ((A 25) lo))) + ((yS s0) / 2)))) th co at_ wr no nu op pi wi he de) hP mkM_u25
            exact fh_vret X hP hS (fh_d d_Mo_setScripts 419 rfl) ⟨rfl, by unfold rf_sc; rw [if_pos h0u, if_neg h0l, if_neg hk0, if_neg hlm, if_neg hk2]; (try rfl), rfl⟩
        by_cases hlm : A 1 n0 = 2 ∧ ¬ A 2 n0 = 73 ∧ s0 = 0
        · skip
          refine lv_aload_n hx hb (fh_d d_Mo_setScripts 61 rfl) rfl (lv_at hl 4 rfl) ?_
          refine fh_get (own := "FormulaSetterModel") (ref := "FormulaSetterModel") (C := "FormulaSetterModel") (T := T_Mo) (N := 53) (v := .ref (x + 2)) hx hb hT i_Mo hown hK hP mkM_o rfl 7 (by decide) (hT _ w867) (fun _ h9 => h9) rfl (fh_d d_Mo_setScripts 62 rfl) ?_
          refine lv_iload_n hx hb (fh_d d_Mo_setScripts 63 rfl) rfl (lv_at hl 5 rfl) ?_
          refine fn_iald (f := A 1) (k := n0) hx hb hK hP 0 mkM_a1 rfl (rfl) (by omega) (by decide) (fh_d d_Mo_setScripts 64 rfl) ?_
          refine lv_iconst (v := 2) hx hb (fh_d d_Mo_setScripts 65 rfl) (by decide) ?_
          refine lv_icmp_ne (tgt := 332) hx hb (fh_d d_Mo_setScripts 66 rfl) rfl (fun c28 => absurd c28 (Classical.not_not.mpr (hlm.1))) (fun c28 => ?_)
          refine lv_aload_n hx hb (fh_d d_Mo_setScripts 67 rfl) rfl (lv_at hl 4 rfl) ?_
          refine fh_get (own := "FormulaSetterModel") (ref := "FormulaSetterModel") (C := "FormulaSetterModel") (T := T_Mo) (N := 53) (v := .ref (x + 3)) hx hb hT i_Mo hown hK hP mkM_o rfl 8 (by decide) (hT _ w868) (fun _ h9 => h9) rfl (fh_d d_Mo_setScripts 68 rfl) ?_
          refine lv_iload_n hx hb (fh_d d_Mo_setScripts 69 rfl) rfl (lv_at hl 5 rfl) ?_
          refine fn_iald (f := A 2) (k := n0) hx hb hK hP 0 mkM_a2 rfl (rfl) (by omega) (by decide) (fh_d d_Mo_setScripts 70 rfl) ?_
          refine lv_bipush (v := 73) hx hb (fh_d d_Mo_setScripts 71 rfl) (by decide) ?_
          refine lv_icmp_eq (tgt := 332) hx hb (fh_d d_Mo_setScripts 72 rfl) rfl (fun c29 => absurd c29 (hlm.2.1)) (fun c29 => ?_)
          refine lv_aload_n hx hb (fh_d d_Mo_setScripts 73 rfl) rfl (lv_at hl 4 rfl) ?_
          refine fh_get (own := "FormulaSetterModel") (ref := "FormulaSetterModel") (C := "FormulaSetterModel") (T := T_Mo) (N := 53) (v := .ref (x + 21)) hx hb hT i_Mo hown hK hP mkM_o rfl 27 (by decide) (hT _ w887) (fun _ h9 => h9) rfl (fh_d d_Mo_setScripts 74 rfl) ?_
          refine lv_iload_n hx hb (fh_d d_Mo_setScripts 75 rfl) rfl (lv_at hl 5 rfl) ?_
          refine fn_iald (f := A 20) (k := n0) hx hb hK hP 0 mkM_a20 rfl (rfl) (by omega) (by decide) (fh_d d_Mo_setScripts 76 rfl) ?_
          rw [show ((A 20) n0) = nI s0 from h20]
          refine lv_if_ne (tgt := 332) hx hb (fh_d d_Mo_setScripts 77 rfl) rfl (fun c30 => absurd c30 (fun z => z (by rw [hlm.2.2]; rfl))) (fun c30 => ?_)
          refine lv_aload_n hx hb (fh_d d_Mo_setScripts 78 rfl) rfl (lv_at hl 4 rfl) ?_
          refine fh_get (own := "FormulaSetterModel") (ref := "FormulaSetterModel") (C := "FormulaSetterModel") (T := T_Mo) (N := 53) (v := .ref (x + 26)) hx hb hT i_Mo hown hK hP mkM_o rfl 32 (by decide) (hT _ w892) (fun _ h9 => h9) rfl (fh_d d_Mo_setScripts 79 rfl) ?_
          refine lv_iload_n hx hb (fh_d d_Mo_setScripts 80 rfl) rfl (lv_at hl 5 rfl) ?_
          refine lv_aload_n hx hb (fh_d d_Mo_setScripts 81 rfl) rfl (lv_at hl 4 rfl) ?_
          refine fh_get (own := "FormulaSetterModel") (ref := "FormulaSetterModel") (C := "FormulaSetterModel") (T := T_Mo) (N := 53) (v := .ref (x + 23)) hx hb hT i_Mo hown hK hP mkM_o rfl 29 (by decide) (hT _ w889) (fun _ h9 => h9) rfl (fh_d d_Mo_setScripts 82 rfl) ?_
          refine lv_iload_n hx hb (fh_d d_Mo_setScripts 83 rfl) rfl (lv_at hl 5 rfl) ?_
          refine fn_iald (f := A 22) (k := n0) hx hb hK hP 0 mkM_a22 rfl (rfl) (by omega) (by decide) (fh_d d_Mo_setScripts 84 rfl) ?_
          refine lv_iload_n hx hb (fh_d d_Mo_setScripts 85 rfl) rfl (lv_at hl 3 rfl) ?_
          refine lv_if_le (tgt := 151) hx hb (fh_d d_Mo_setScripts 86 rfl) rfl (fun c31 => ?_) (fun c31 => absurd c31 (fun z => z (by rw [h0u]; decide)))
          refine lv_iconst (v := 0) hx hb (fh_d d_Mo_setScripts 92 rfl) (by decide) ?_
          refine lv_iload_n hx hb (fh_d d_Mo_setScripts 93 rfl) rfl (lv_at hl 2 rfl) ?_
          refine lv_if_le (tgt := 165) hx hb (fh_d d_Mo_setScripts 94 rfl) rfl (fun c32 => absurd c32 (nI_np ⟨Nat.pos_of_ne_zero h0l, hlo⟩)) (fun c32 => ?_)
          refine lv_aload_n hx hb (fh_d d_Mo_setScripts 95 rfl) rfl (lv_at hl 4 rfl) ?_
          refine fh_get (own := "FormulaSetterModel") (ref := "FormulaSetterModel") (C := "FormulaSetterModel") (T := T_Mo) (N := 53) (v := .ref (x + 26)) hx hb hT i_Mo hown hK hP mkM_o rfl 32 (by decide) (hT _ w892) (fun _ h9 => h9) rfl (fh_d d_Mo_setScripts 96 rfl) ?_
          refine lv_iload_n hx hb (fh_d d_Mo_setScripts 97 rfl) rfl (lv_at hl 2 rfl) ?_
          refine fn_iald (f := upd (A 25) n0 ((A 22) n0)) (k := lo) hx hb hK hP 0 mkM_a25 rfl (rfl) (by omega) (by decide) (fh_d d_Mo_setScripts 98 rfl) ?_
          rw [show ((upd (A 25) n0 ((A 22) n0)) lo) = (A 25) lo from by simp only [upd_n (hln h0l)]]
          refine lv_goto (tgt := 166) hx hb (fh_d d_Mo_setScripts 99 rfl) rfl ?_
          refine fh_callS (cc' := c_Mo_most) (nL' := 2) (rest := [.int ((A 22) n0), .int (nI n0), .ref (x + 26)]) (av := [.int 0, .int ((A 25) lo)]) X hR (m_Mo_most l D ct b RO (r - 1) n 0 ((A 25) lo) (mkM ct x g (up2 (up2 (up2 (up2 A 25 (upd (A 25) n0 ((A 22) n0))) 26 (upd (A 26) n0 ((A 23) n0))) 27 (upd (A 27) n0 ((A 24) n0))) 28 (upd (A 28) n0 0)) th co at_ wr no nu op pi wi he de)) w1151 w1149 w1150 w9 ⟨by decide, by decide, by show _ = some 2; decide +kernel⟩ (by omega) (by decide) hP hS hl.1 rfl (by exact Nat.le_of_ble_eq_true rfl) (fh_d d_Mo_setScripts 101 rfl) ⟨Nat.le_refl _, Nat.le_refl _⟩ (fun v9 h9 n9 H locs hq hP hS => ?_)
          obtain ⟨rfl, q33a, q33b⟩ := hq
          rw [q33a, q33b] at hP
          refine W.eq (g2 := F0 m 169 ls [.int (ms 0 ((A 25) lo)), .int ((A 22) n0), .int (nI n0), .ref (x + 26)]) rfl ?_
          refine fh_callS (cc' := c_Mo_most) (nL' := 2) (rest := [.int (nI n0), .ref (x + 26)]) (av := [.int ((A 22) n0), .int (ms 0 ((A 25) lo))]) X hR (m_Mo_most l D ct b RO (r - 1) n ((A 22) n0) (ms 0 ((A 25) lo)) (mkM ct x g (up2 (up2 (up2 (up2 A 25 (upd (A 25) n0 ((A 22) n0))) 26 (upd (A 26) n0 ((A 23) n0))) 27 (upd (A 27) n0 ((A 24) n0))) 28 (upd (A 28) n0 0)) th co at_ wr no nu op pi wi he de)) w1151 w1149 w1150 w9 ⟨by decide, by decide, by show _ = some 2; decide +kernel⟩ (by omega) (by decide) hP hS hl.1 rfl (by exact Nat.le_of_ble_eq_true rfl) (fh_d d_Mo_setScripts 102 rfl) ⟨Nat.le_refl _, Nat.le_refl _⟩ (fun v9 h9 n9 H locs hq hP hS => ?_)
          obtain ⟨rfl, q34a, q34b⟩ := hq
          rw [q34a, q34b] at hP
          refine W.eq (g2 := F0 m 172 ls [.int (ms ((A 22) n0) (ms 0 ((A 25) lo))), .int (nI n0), .ref (x + 26)]) rfl ?_
          refine fn_iast (f := upd (A 25) n0 ((A 22) n0)) (k := n0) hx hb hK hP hS 0 mkM_a25 rfl (rfl) (by omega) (by decide) (fh_d d_Mo_setScripts 103 rfl) (fun H locs hP hS => ?_)
          replace hP := fh_P.eq (h' := mkM ct x g (up2 (up2 (up2 (up2 (up2 A 25 (upd (A 25) n0 ((A 22) n0))) 26 (upd (A 26) n0 ((A 23) n0))) 27 (upd (A 27) n0 ((A 24) n0))) 28 (upd (A 28) n0 0)) 25 (upd (upd (A 25) n0 ((A 22) n0)) n0 (ms ((A 22) n0) (ms 0 ((A 25) lo))))) th co at_ wr no nu op pi wi he de) hP mkM_u25
          refine lv_aload_n hx hb (fh_d d_Mo_setScripts 104 rfl) rfl (lv_at hl 4 rfl) ?_
          refine fh_get (own := "FormulaSetterModel") (ref := "FormulaSetterModel") (C := "FormulaSetterModel") (T := T_Mo) (N := 53) (v := .ref (x + 29)) hx hb hT i_Mo hown hK hP mkM_o rfl 35 (by decide) (hT _ w895) (fun _ h9 => h9) rfl (fh_d d_Mo_setScripts 105 rfl) ?_
          refine lv_iload_n hx hb (fh_d d_Mo_setScripts 106 rfl) rfl (lv_at hl 5 rfl) ?_
          refine lv_aload_n hx hb (fh_d d_Mo_setScripts 107 rfl) rfl (lv_at hl 4 rfl) ?_
          refine fh_get (own := "FormulaSetterModel") (ref := "FormulaSetterModel") (C := "FormulaSetterModel") (T := T_Mo) (N := 53) (v := .ref (x + 26)) hx hb hT i_Mo hown hK hP mkM_o rfl 32 (by decide) (hT _ w892) (fun _ h9 => h9) rfl (fh_d d_Mo_setScripts 108 rfl) ?_
          refine lv_iload_n hx hb (fh_d d_Mo_setScripts 109 rfl) rfl (lv_at hl 5 rfl) ?_
          refine fn_iald (f := upd (upd (A 25) n0 ((A 22) n0)) n0 (ms ((A 22) n0) (ms 0 ((A 25) lo)))) (k := n0) hx hb hK hP 0 mkM_a25 rfl (rfl) (by omega) (by decide) (fh_d d_Mo_setScripts 110 rfl) ?_
          rw [show ((upd (upd (A 25) n0 ((A 22) n0)) n0 (ms ((A 22) n0) (ms 0 ((A 25) lo)))) n0) = (ms ((A 22) n0) (ms 0 ((A 25) lo))) from upd_s]
          refine lv_aload_n hx hb (fh_d d_Mo_setScripts 111 rfl) rfl (lv_at hl 4 rfl) ?_
          refine fh_get (own := "FormulaSetterModel") (ref := "FormulaSetterModel") (C := "FormulaSetterModel") (T := T_Mo) (N := 53) (v := .ref (x + 23)) hx hb hT i_Mo hown hK hP mkM_o rfl 29 (by decide) (hT _ w889) (fun _ h9 => h9) rfl (fh_d d_Mo_setScripts 112 rfl) ?_
          refine lv_iload_n hx hb (fh_d d_Mo_setScripts 113 rfl) rfl (lv_at hl 5 rfl) ?_
          refine fn_iald (f := A 22) (k := n0) hx hb hK hP 0 mkM_a22 rfl (rfl) (by omega) (by decide) (fh_d d_Mo_setScripts 114 rfl) ?_
          refine lv_isub hx hb (fh_d d_Mo_setScripts 115 rfl) ?_
          refine lv_iconst (v := 2) hx hb (fh_d d_Mo_setScripts 116 rfl) (by decide) ?_
          refine lv_idiv hx hb (fh_d d_Mo_setScripts 117 rfl) (by decide) ?_
          refine fn_iast (f := upd (A 28) n0 0) (k := n0) hx hb hK hP hS 0 mkM_a28 rfl (rfl) (by omega) (by decide) (fh_d d_Mo_setScripts 118 rfl) (fun H locs hP hS => ?_)
          replace hP := fh_P.eq (h' := mkM ct x g (up2 (up2 (up2 (up2 (up2 (up2 A 25 (upd (A 25) n0 ((A 22) n0))) 26 (upd (A 26) n0 ((A 23) n0))) 27 (upd (A 27) n0 ((A 24) n0))) 28 (upd (A 28) n0 0)) 25 (upd (upd (A 25) n0 ((A 22) n0)) n0 (ms ((A 22) n0) (ms 0 ((A 25) lo))))) 28 (upd (upd (A 28) n0 0) n0 (((ms ((A 22) n0) (ms 0 ((A 25) lo))) - ((A 22) n0)) / 2))) th co at_ wr no nu op pi wi he de) hP mkM_u28
          refine lv_iload_n hx hb (fh_d d_Mo_setScripts 119 rfl) rfl (lv_at hl 3 rfl) ?_
          refine lv_if_le (tgt := 262) hx hb (fh_d d_Mo_setScripts 120 rfl) rfl (fun c35 => ?_) (fun c35 => absurd c35 (fun z => z (by rw [h0u]; decide)))
          refine lv_iload_n hx hb (fh_d d_Mo_setScripts 166 rfl) rfl (lv_at hl 2 rfl) ?_
          refine lv_if_le (tgt := 331) hx hb (fh_d d_Mo_setScripts 167 rfl) rfl (fun c36 => absurd c36 (nI_np ⟨Nat.pos_of_ne_zero h0l, hlo⟩)) (fun c36 => ?_)
          refine lv_aload_n hx hb (fh_d d_Mo_setScripts 168 rfl) rfl (lv_at hl 4 rfl) ?_
          refine fh_get (own := "FormulaSetterModel") (ref := "FormulaSetterModel") (C := "FormulaSetterModel") (T := T_Mo) (N := 53) (v := .ref (x + 30)) hx hb hT i_Mo hown hK hP mkM_o rfl 36 (by decide) (hT _ w896) (fun _ h9 => h9) rfl (fh_d d_Mo_setScripts 169 rfl) ?_
          refine lv_iload_n hx hb (fh_d d_Mo_setScripts 170 rfl) rfl (lv_at hl 2 rfl) ?_
          refine lv_aload_n hx hb (fh_d d_Mo_setScripts 171 rfl) rfl (lv_at hl 4 rfl) ?_
          refine fh_get (own := "FormulaSetterModel") (ref := "FormulaSetterModel") (C := "FormulaSetterModel") (T := T_Mo) (N := 53) (v := .ref (x + 26)) hx hb hT i_Mo hown hK hP mkM_o rfl 32 (by decide) (hT _ w892) (fun _ h9 => h9) rfl (fh_d d_Mo_setScripts 172 rfl) ?_
          refine lv_iload_n hx hb (fh_d d_Mo_setScripts 173 rfl) rfl (lv_at hl 5 rfl) ?_
          refine fn_iald (f := upd (upd (A 25) n0 ((A 22) n0)) n0 (ms ((A 22) n0) (ms 0 ((A 25) lo)))) (k := n0) hx hb hK hP 0 mkM_a25 rfl (rfl) (by omega) (by decide) (fh_d d_Mo_setScripts 174 rfl) ?_
          rw [show ((upd (upd (A 25) n0 ((A 22) n0)) n0 (ms ((A 22) n0) (ms 0 ((A 25) lo)))) n0) = (ms ((A 22) n0) (ms 0 ((A 25) lo))) from upd_s]
          refine lv_aload_n hx hb (fh_d d_Mo_setScripts 175 rfl) rfl (lv_at hl 4 rfl) ?_
          refine fh_get (own := "FormulaSetterModel") (ref := "FormulaSetterModel") (C := "FormulaSetterModel") (T := T_Mo) (N := 53) (v := .ref (x + 26)) hx hb hT i_Mo hown hK hP mkM_o rfl 32 (by decide) (hT _ w892) (fun _ h9 => h9) rfl (fh_d d_Mo_setScripts 176 rfl) ?_
          refine lv_iload_n hx hb (fh_d d_Mo_setScripts 177 rfl) rfl (lv_at hl 2 rfl) ?_
          refine fn_iald (f := upd (upd (A 25) n0 ((A 22) n0)) n0 (ms ((A 22) n0) (ms 0 ((A 25) lo)))) (k := lo) hx hb hK hP 0 mkM_a25 rfl (rfl) (by omega) (by decide) (fh_d d_Mo_setScripts 178 rfl) ?_
          rw [show ((upd (upd (A 25) n0 ((A 22) n0)) n0 (ms ((A 22) n0) (ms 0 ((A 25) lo)))) lo) = (A 25) lo from by simp only [upd_n (hln h0l)]]
          refine lv_isub hx hb (fh_d d_Mo_setScripts 179 rfl) ?_
          refine lv_iconst (v := 2) hx hb (fh_d d_Mo_setScripts 180 rfl) (by decide) ?_
          refine lv_idiv hx hb (fh_d d_Mo_setScripts 181 rfl) (by decide) ?_
          refine fn_iast (f := A 29) (k := lo) hx hb hK hP hS 0 mkM_a29 rfl (rfl) (by omega) (by decide) (fh_d d_Mo_setScripts 182 rfl) (fun H locs hP hS => ?_)
          replace hP := fh_P.eq (h' := mkM ct x g (up2 (up2 (up2 (up2 (up2 (up2 (up2 A 25 (upd (A 25) n0 ((A 22) n0))) 26 (upd (A 26) n0 ((A 23) n0))) 27 (upd (A 27) n0 ((A 24) n0))) 28 (upd (A 28) n0 0)) 25 (upd (upd (A 25) n0 ((A 22) n0)) n0 (ms ((A 22) n0) (ms 0 ((A 25) lo))))) 28 (upd (upd (A 28) n0 0) n0 (((ms ((A 22) n0) (ms 0 ((A 25) lo))) - ((A 22) n0)) / 2))) 29 (upd (A 29) lo (((ms ((A 22) n0) (ms 0 ((A 25) lo))) - ((A 25) lo)) / 2))) th co at_ wr no nu op pi wi he de) hP mkM_u29
          refine lv_aload_n hx hb (fh_d d_Mo_setScripts 183 rfl) rfl (lv_at hl 4 rfl) ?_
          refine fh_get (own := "FormulaSetterModel") (ref := "FormulaSetterModel") (C := "FormulaSetterModel") (T := T_Mo) (N := 53) (v := .ref (x + 31)) hx hb hT i_Mo hown hK hP mkM_o rfl 37 (by decide) (hT _ w897) (fun _ h9 => h9) rfl (fh_d d_Mo_setScripts 184 rfl) ?_
          refine lv_iload_n hx hb (fh_d d_Mo_setScripts 185 rfl) rfl (lv_at hl 2 rfl) ?_
          refine lv_aload_n hx hb (fh_d d_Mo_setScripts 186 rfl) rfl (lv_at hl 4 rfl) ?_
          refine fh_get (own := "FormulaSetterModel") (ref := "FormulaSetterModel") (C := "FormulaSetterModel") (T := T_Mo) (N := 53) (v := .ref (x + 25)) hx hb hT i_Mo hown hK hP mkM_o rfl 31 (by decide) (hT _ w891) (fun _ h9 => h9) rfl (fh_d d_Mo_setScripts 187 rfl) ?_
          refine lv_iload_n hx hb (fh_d d_Mo_setScripts 188 rfl) rfl (lv_at hl 5 rfl) ?_
          refine fn_iald (f := A 24) (k := n0) hx hb hK hP 0 mkM_a24 rfl (rfl) (by omega) (by decide) (fh_d d_Mo_setScripts 189 rfl) ?_
          refine lv_iconst (v := 2) hx hb (fh_d d_Mo_setScripts 190 rfl) (by decide) ?_
          refine lv_iload hx hb (fh_d d_Mo_setScripts 191 rfl) (lv_at hl 0 rfl) ?_
          refine lv_imul hx hb (fh_d d_Mo_setScripts 192 rfl) ?_
          refine lv_iadd hx hb (fh_d d_Mo_setScripts 193 rfl) ?_
          refine lv_aload_n hx hb (fh_d d_Mo_setScripts 194 rfl) rfl (lv_at hl 4 rfl) ?_
          refine fh_get (own := "FormulaSetterModel") (ref := "FormulaSetterModel") (C := "FormulaSetterModel") (T := T_Mo) (N := 53) (v := .ref (x + 27)) hx hb hT i_Mo hown hK hP mkM_o rfl 33 (by decide) (hT _ w893) (fun _ h9 => h9) rfl (fh_d d_Mo_setScripts 195 rfl) ?_
          refine lv_iload_n hx hb (fh_d d_Mo_setScripts 196 rfl) rfl (lv_at hl 2 rfl) ?_
          refine fn_iald (f := upd (A 26) n0 ((A 23) n0)) (k := lo) hx hb hK hP 0 mkM_a26 rfl (rfl) (by omega) (by decide) (fh_d d_Mo_setScripts 197 rfl) ?_
          rw [show ((upd (A 26) n0 ((A 23) n0)) lo) = (A 26) lo from by simp only [upd_n (hln h0l)]]
          refine lv_iadd hx hb (fh_d d_Mo_setScripts 198 rfl) ?_
          refine lv_ineg hx hb (fh_d d_Mo_setScripts 199 rfl) ?_
          refine fn_iast (f := A 30) (k := lo) hx hb hK hP hS 0 mkM_a30 rfl (rfl) (by omega) (by decide) (fh_d d_Mo_setScripts 200 rfl) (fun H locs hP hS => ?_)
          replace hP := fh_P.eq (h' := mkM ct x g (up2 (up2 (up2 (up2 (up2 (up2 (up2 (up2 A 25 (upd (A 25) n0 ((A 22) n0))) 26 (upd (A 26) n0 ((A 23) n0))) 27 (upd (A 27) n0 ((A 24) n0))) 28 (upd (A 28) n0 0)) 25 (upd (upd (A 25) n0 ((A 22) n0)) n0 (ms ((A 22) n0) (ms 0 ((A 25) lo))))) 28 (upd (upd (A 28) n0 0) n0 (((ms ((A 22) n0) (ms 0 ((A 25) lo))) - ((A 22) n0)) / 2))) 29 (upd (A 29) lo (((ms ((A 22) n0) (ms 0 ((A 25) lo))) - ((A 25) lo)) / 2))) 30 (upd (A 30) lo (-((((A 24) n0) + (2 * (yT s0))) + ((A 26) lo))))) th co at_ wr no nu op pi wi he de) hP mkM_u30
          refine lv_aload_n hx hb (fh_d d_Mo_setScripts 201 rfl) rfl (lv_at hl 4 rfl) ?_
          refine fh_get (own := "FormulaSetterModel") (ref := "FormulaSetterModel") (C := "FormulaSetterModel") (T := T_Mo) (N := 53) (v := .ref (x + 28)) hx hb hT i_Mo hown hK hP mkM_o rfl 34 (by decide) (hT _ w894) (fun _ h9 => h9) rfl (fh_d d_Mo_setScripts 202 rfl) ?_
          refine lv_iload_n hx hb (fh_d d_Mo_setScripts 203 rfl) rfl (lv_at hl 5 rfl) ?_
          refine lv_aload_n hx hb (fh_d d_Mo_setScripts 204 rfl) rfl (lv_at hl 4 rfl) ?_
          refine fh_get (own := "FormulaSetterModel") (ref := "FormulaSetterModel") (C := "FormulaSetterModel") (T := T_Mo) (N := 53) (v := .ref (x + 28)) hx hb hT i_Mo hown hK hP mkM_o rfl 34 (by decide) (hT _ w894) (fun _ h9 => h9) rfl (fh_d d_Mo_setScripts 205 rfl) ?_
          refine lv_iload_n hx hb (fh_d d_Mo_setScripts 206 rfl) rfl (lv_at hl 2 rfl) ?_
          refine fn_iald (f := upd (A 27) n0 ((A 24) n0)) (k := lo) hx hb hK hP 0 mkM_a27 rfl (rfl) (by omega) (by decide) (fh_d d_Mo_setScripts 207 rfl) ?_
          rw [show ((upd (A 27) n0 ((A 24) n0)) lo) = (A 27) lo from by simp only [upd_n (hln h0l)]]
          refine lv_aload_n hx hb (fh_d d_Mo_setScripts 208 rfl) rfl (lv_at hl 4 rfl) ?_
          refine fh_get (own := "FormulaSetterModel") (ref := "FormulaSetterModel") (C := "FormulaSetterModel") (T := T_Mo) (N := 53) (v := .ref (x + 31)) hx hb hT i_Mo hown hK hP mkM_o rfl 37 (by decide) (hT _ w897) (fun _ h9 => h9) rfl (fh_d d_Mo_setScripts 209 rfl) ?_
          refine lv_iload_n hx hb (fh_d d_Mo_setScripts 210 rfl) rfl (lv_at hl 2 rfl) ?_
          refine fn_iald (f := upd (A 30) lo (-((((A 24) n0) + (2 * (yT s0))) + ((A 26) lo)))) (k := lo) hx hb hK hP 0 mkM_a30 rfl (rfl) (by omega) (by decide) (fh_d d_Mo_setScripts 211 rfl) ?_
          rw [show ((upd (A 30) lo (-((((A 24) n0) + (2 * (yT s0))) + ((A 26) lo)))) lo) = (-((((A 24) n0) + (2 * (yT s0))) + ((A 26) lo))) from upd_s]
          refine lv_isub hx hb (fh_d d_Mo_setScripts 212 rfl) ?_
          refine fn_iast (f := upd (A 27) n0 ((A 24) n0)) (k := n0) hx hb hK hP hS 0 mkM_a27 rfl (rfl) (by omega) (by decide) (fh_d d_Mo_setScripts 213 rfl) (fun H locs hP hS => ?_)
          replace hP := fh_P.eq (h' := mkM ct x g (up2 (up2 (up2 (up2 (up2 (up2 (up2 (up2 (up2 A 25 (upd (A 25) n0 ((A 22) n0))) 26 (upd (A 26) n0 ((A 23) n0))) 27 (upd (A 27) n0 ((A 24) n0))) 28 (upd (A 28) n0 0)) 25 (upd (upd (A 25) n0 ((A 22) n0)) n0 (ms ((A 22) n0) (ms 0 ((A 25) lo))))) 28 (upd (upd (A 28) n0 0) n0 (((ms ((A 22) n0) (ms 0 ((A 25) lo))) - ((A 22) n0)) / 2))) 29 (upd (A 29) lo (((ms ((A 22) n0) (ms 0 ((A 25) lo))) - ((A 25) lo)) / 2))) 30 (upd (A 30) lo (-((((A 24) n0) + (2 * (yT s0))) + ((A 26) lo))))) 27 (upd (upd (A 27) n0 ((A 24) n0)) n0 (((A 27) lo) - (-((((A 24) n0) + (2 * (yT s0))) + ((A 26) lo)))))) th co at_ wr no nu op pi wi he de) hP mkM_u27
          exact fh_vret X hP hS (fh_d d_Mo_setScripts 214 rfl) ⟨rfl, by unfold rf_sc; rw [if_pos h0u, if_neg h0l, if_neg hk0, if_pos hlm]; (try rfl), rfl⟩
        · skip
          refine lv_aload_n hx hb (fh_d d_Mo_setScripts 61 rfl) rfl (lv_at hl 4 rfl) ?_
          refine fh_get (own := "FormulaSetterModel") (ref := "FormulaSetterModel") (C := "FormulaSetterModel") (T := T_Mo) (N := 53) (v := .ref (x + 2)) hx hb hT i_Mo hown hK hP mkM_o rfl 7 (by decide) (hT _ w867) (fun _ h9 => h9) rfl (fh_d d_Mo_setScripts 62 rfl) ?_
          refine lv_iload_n hx hb (fh_d d_Mo_setScripts 63 rfl) rfl (lv_at hl 5 rfl) ?_
          refine fn_iald (f := A 1) (k := n0) hx hb hK hP 0 mkM_a1 rfl (rfl) (by omega) (by decide) (fh_d d_Mo_setScripts 64 rfl) ?_
          refine lv_iconst (v := 2) hx hb (fh_d d_Mo_setScripts 65 rfl) (by decide) ?_
          refine lv_icmp_ne (tgt := 332) hx hb (fh_d d_Mo_setScripts 66 rfl) rfl (fun c37 => ?_) (fun c37 => ?_)
          · exact J hlm H _ _ hP hS (lv_sub hl [3, 2, 1, 0, 4, 5] rfl)
          · refine lv_aload_n hx hb (fh_d d_Mo_setScripts 67 rfl) rfl (lv_at hl 4 rfl) ?_
            refine fh_get (own := "FormulaSetterModel") (ref := "FormulaSetterModel") (C := "FormulaSetterModel") (T := T_Mo) (N := 53) (v := .ref (x + 3)) hx hb hT i_Mo hown hK hP mkM_o rfl 8 (by decide) (hT _ w868) (fun _ h9 => h9) rfl (fh_d d_Mo_setScripts 68 rfl) ?_
            refine lv_iload_n hx hb (fh_d d_Mo_setScripts 69 rfl) rfl (lv_at hl 5 rfl) ?_
            refine fn_iald (f := A 2) (k := n0) hx hb hK hP 0 mkM_a2 rfl (rfl) (by omega) (by decide) (fh_d d_Mo_setScripts 70 rfl) ?_
            refine lv_bipush (v := 73) hx hb (fh_d d_Mo_setScripts 71 rfl) (by decide) ?_
            refine lv_icmp_eq (tgt := 332) hx hb (fh_d d_Mo_setScripts 72 rfl) rfl (fun c38 => ?_) (fun c38 => ?_)
            · exact J hlm H _ _ hP hS (lv_sub hl [3, 2, 1, 0, 4, 5] rfl)
            · refine lv_aload_n hx hb (fh_d d_Mo_setScripts 73 rfl) rfl (lv_at hl 4 rfl) ?_
              refine fh_get (own := "FormulaSetterModel") (ref := "FormulaSetterModel") (C := "FormulaSetterModel") (T := T_Mo) (N := 53) (v := .ref (x + 21)) hx hb hT i_Mo hown hK hP mkM_o rfl 27 (by decide) (hT _ w887) (fun _ h9 => h9) rfl (fh_d d_Mo_setScripts 74 rfl) ?_
              refine lv_iload_n hx hb (fh_d d_Mo_setScripts 75 rfl) rfl (lv_at hl 5 rfl) ?_
              refine fn_iald (f := A 20) (k := n0) hx hb hK hP 0 mkM_a20 rfl (rfl) (by omega) (by decide) (fh_d d_Mo_setScripts 76 rfl) ?_
              rw [show ((A 20) n0) = nI s0 from h20]
              refine lv_if_ne (tgt := 332) hx hb (fh_d d_Mo_setScripts 77 rfl) rfl (fun c39 => ?_) (fun c39 => absurd c39 (fun z => hlm ⟨by assumption, by assumption, nI_z hs0 z⟩))
              exact J hlm H _ _ hP hS (lv_sub hl [3, 2, 1, 0, 4, 5] rfl)
  · skip
    by_cases h0l : lo = 0
    · skip
      by_cases hk0 : A 1 n0 = 0
      · skip
        refine lv_aload_n hx hb (fh_d d_Mo_setScripts 0 rfl) rfl (lv_at hl 0 rfl) ?_
        refine fh_get (own := "FormulaSetterModel") (ref := "FormulaSetterModel") (C := "FormulaSetterModel") (T := T_Mo) (N := 53) (v := .ref (x + 13)) hx hb hT i_Mo hown hK hP mkM_o rfl 18 (by decide) (hT _ w878) (fun _ h9 => h9) rfl (fh_d d_Mo_setScripts 1 rfl) ?_
        refine lv_iload_n hx hb (fh_d d_Mo_setScripts 2 rfl) rfl (lv_at hl 1 rfl) ?_
        refine fn_iald (f := A 12) (k := n0) hx hb hK hP 0 mkM_a12 rfl (rfl) (by omega) (by decide) (fh_d d_Mo_setScripts 3 rfl) ?_
        rw [show ((A 12) n0) = nI u from h12]
        refine lv_istore_n (lv' := [(2, .int (nI u)), (0, .ref x), (1, .int (nI n0))]) hx hb (fh_d d_Mo_setScripts 4 rfl) rfl hl (by decide) rfl (fun ls hl => ?_)
        refine lv_aload_n hx hb (fh_d d_Mo_setScripts 5 rfl) rfl (lv_at hl 1 rfl) ?_
        refine fh_get (own := "FormulaSetterModel") (ref := "FormulaSetterModel") (C := "FormulaSetterModel") (T := T_Mo) (N := 53) (v := .ref (x + 14)) hx hb hT i_Mo hown hK hP mkM_o rfl 19 (by decide) (hT _ w879) (fun _ h9 => h9) rfl (fh_d d_Mo_setScripts 6 rfl) ?_
        refine lv_iload_n hx hb (fh_d d_Mo_setScripts 7 rfl) rfl (lv_at hl 2 rfl) ?_
        refine fn_iald (f := A 13) (k := n0) hx hb hK hP 0 mkM_a13 rfl (rfl) (by omega) (by decide) (fh_d d_Mo_setScripts 8 rfl) ?_
        rw [show ((A 13) n0) = nI lo from h13]
        refine lv_istore_n (lv' := [(3, .int (nI lo)), (2, .int (nI u)), (0, .ref x), (1, .int (nI n0))]) hx hb (fh_d d_Mo_setScripts 9 rfl) rfl hl (by decide) rfl (fun ls hl => ?_)
        refine lv_aload_n hx hb (fh_d d_Mo_setScripts 10 rfl) rfl (lv_at hl 2 rfl) ?_
        refine fh_get (own := "FormulaSetterModel") (ref := "FormulaSetterModel") (C := "FormulaSetterModel") (T := T_Mo) (N := 53) (v := .ref (x + 26)) hx hb hT i_Mo hown hK hP mkM_o rfl 32 (by decide) (hT _ w892) (fun _ h9 => h9) rfl (fh_d d_Mo_setScripts 11 rfl) ?_
        refine lv_iload_n hx hb (fh_d d_Mo_setScripts 12 rfl) rfl (lv_at hl 3 rfl) ?_
        refine lv_aload_n hx hb (fh_d d_Mo_setScripts 13 rfl) rfl (lv_at hl 2 rfl) ?_
        refine fh_get (own := "FormulaSetterModel") (ref := "FormulaSetterModel") (C := "FormulaSetterModel") (T := T_Mo) (N := 53) (v := .ref (x + 23)) hx hb hT i_Mo hown hK hP mkM_o rfl 29 (by decide) (hT _ w889) (fun _ h9 => h9) rfl (fh_d d_Mo_setScripts 14 rfl) ?_
        refine lv_iload_n hx hb (fh_d d_Mo_setScripts 15 rfl) rfl (lv_at hl 3 rfl) ?_
        refine fn_iald (f := A 22) (k := n0) hx hb hK hP 0 mkM_a22 rfl (rfl) (by omega) (by decide) (fh_d d_Mo_setScripts 16 rfl) ?_
        refine fn_iast (f := A 25) (k := n0) hx hb hK hP hS 0 mkM_a25 rfl (rfl) (by omega) (by decide) (fh_d d_Mo_setScripts 17 rfl) (fun H locs hP hS => ?_)
        replace hP := fh_P.eq (h' := mkM ct x g (up2 A 25 (upd (A 25) n0 ((A 22) n0))) th co at_ wr no nu op pi wi he de) hP mkM_u25
        refine lv_aload_n hx hb (fh_d d_Mo_setScripts 18 rfl) rfl (lv_at hl 2 rfl) ?_
        refine fh_get (own := "FormulaSetterModel") (ref := "FormulaSetterModel") (C := "FormulaSetterModel") (T := T_Mo) (N := 53) (v := .ref (x + 27)) hx hb hT i_Mo hown hK hP mkM_o rfl 33 (by decide) (hT _ w893) (fun _ h9 => h9) rfl (fh_d d_Mo_setScripts 19 rfl) ?_
        refine lv_iload_n hx hb (fh_d d_Mo_setScripts 20 rfl) rfl (lv_at hl 3 rfl) ?_
        refine lv_aload_n hx hb (fh_d d_Mo_setScripts 21 rfl) rfl (lv_at hl 2 rfl) ?_
        refine fh_get (own := "FormulaSetterModel") (ref := "FormulaSetterModel") (C := "FormulaSetterModel") (T := T_Mo) (N := 53) (v := .ref (x + 24)) hx hb hT i_Mo hown hK hP mkM_o rfl 30 (by decide) (hT _ w890) (fun _ h9 => h9) rfl (fh_d d_Mo_setScripts 22 rfl) ?_
        refine lv_iload_n hx hb (fh_d d_Mo_setScripts 23 rfl) rfl (lv_at hl 3 rfl) ?_
        refine fn_iald (f := A 23) (k := n0) hx hb hK hP 0 mkM_a23 rfl (rfl) (by omega) (by decide) (fh_d d_Mo_setScripts 24 rfl) ?_
        refine fn_iast (f := A 26) (k := n0) hx hb hK hP hS 0 mkM_a26 rfl (rfl) (by omega) (by decide) (fh_d d_Mo_setScripts 25 rfl) (fun H locs hP hS => ?_)
        replace hP := fh_P.eq (h' := mkM ct x g (up2 (up2 A 25 (upd (A 25) n0 ((A 22) n0))) 26 (upd (A 26) n0 ((A 23) n0))) th co at_ wr no nu op pi wi he de) hP mkM_u26
        refine lv_aload_n hx hb (fh_d d_Mo_setScripts 26 rfl) rfl (lv_at hl 2 rfl) ?_
        refine fh_get (own := "FormulaSetterModel") (ref := "FormulaSetterModel") (C := "FormulaSetterModel") (T := T_Mo) (N := 53) (v := .ref (x + 28)) hx hb hT i_Mo hown hK hP mkM_o rfl 34 (by decide) (hT _ w894) (fun _ h9 => h9) rfl (fh_d d_Mo_setScripts 27 rfl) ?_
        refine lv_iload_n hx hb (fh_d d_Mo_setScripts 28 rfl) rfl (lv_at hl 3 rfl) ?_
        refine lv_aload_n hx hb (fh_d d_Mo_setScripts 29 rfl) rfl (lv_at hl 2 rfl) ?_
        refine fh_get (own := "FormulaSetterModel") (ref := "FormulaSetterModel") (C := "FormulaSetterModel") (T := T_Mo) (N := 53) (v := .ref (x + 25)) hx hb hT i_Mo hown hK hP mkM_o rfl 31 (by decide) (hT _ w891) (fun _ h9 => h9) rfl (fh_d d_Mo_setScripts 30 rfl) ?_
        refine lv_iload_n hx hb (fh_d d_Mo_setScripts 31 rfl) rfl (lv_at hl 3 rfl) ?_
        refine fn_iald (f := A 24) (k := n0) hx hb hK hP 0 mkM_a24 rfl (rfl) (by omega) (by decide) (fh_d d_Mo_setScripts 32 rfl) ?_
        refine fn_iast (f := A 27) (k := n0) hx hb hK hP hS 0 mkM_a27 rfl (rfl) (by omega) (by decide) (fh_d d_Mo_setScripts 33 rfl) (fun H locs hP hS => ?_)
        replace hP := fh_P.eq (h' := mkM ct x g (up2 (up2 (up2 A 25 (upd (A 25) n0 ((A 22) n0))) 26 (upd (A 26) n0 ((A 23) n0))) 27 (upd (A 27) n0 ((A 24) n0))) th co at_ wr no nu op pi wi he de) hP mkM_u27
        refine lv_aload_n hx hb (fh_d d_Mo_setScripts 34 rfl) rfl (lv_at hl 2 rfl) ?_
        refine fh_get (own := "FormulaSetterModel") (ref := "FormulaSetterModel") (C := "FormulaSetterModel") (T := T_Mo) (N := 53) (v := .ref (x + 29)) hx hb hT i_Mo hown hK hP mkM_o rfl 35 (by decide) (hT _ w895) (fun _ h9 => h9) rfl (fh_d d_Mo_setScripts 35 rfl) ?_
        refine lv_iload_n hx hb (fh_d d_Mo_setScripts 36 rfl) rfl (lv_at hl 3 rfl) ?_
        refine lv_iconst (v := 0) hx hb (fh_d d_Mo_setScripts 37 rfl) (by decide) ?_
        refine fn_iast (f := A 28) (k := n0) hx hb hK hP hS 0 mkM_a28 rfl (rfl) (by omega) (by decide) (fh_d d_Mo_setScripts 38 rfl) (fun H locs hP hS => ?_)
        replace hP := fh_P.eq (h' := mkM ct x g (up2 (up2 (up2 (up2 A 25 (upd (A 25) n0 ((A 22) n0))) 26 (upd (A 26) n0 ((A 23) n0))) 27 (upd (A 27) n0 ((A 24) n0))) 28 (upd (A 28) n0 0)) th co at_ wr no nu op pi wi he de) hP mkM_u28
        refine lv_iload_n hx hb (fh_d d_Mo_setScripts 39 rfl) rfl (lv_at hl 1 rfl) ?_
        refine lv_if_ne (tgt := 65) hx hb (fh_d d_Mo_setScripts 40 rfl) rfl (fun c40 => ?_) (fun c40 => absurd c40 (fun z => h0u (nI_z4 hu z)))
        refine lv_aload_n hx hb (fh_d d_Mo_setScripts 43 rfl) rfl (lv_at hl 2 rfl) ?_
        refine fh_get (own := "FormulaSetterModel") (ref := "FormulaSetterModel") (C := "FormulaSetterModel") (T := T_Mo) (N := 53) (v := .ref (x + 2)) hx hb hT i_Mo hown hK hP mkM_o rfl 7 (by decide) (hT _ w867) (fun _ h9 => h9) rfl (fh_d d_Mo_setScripts 44 rfl) ?_
        refine lv_iload_n hx hb (fh_d d_Mo_setScripts 45 rfl) rfl (lv_at hl 3 rfl) ?_
        refine fn_iald (f := A 1) (k := n0) hx hb hK hP 0 mkM_a1 rfl (rfl) (by omega) (by decide) (fh_d d_Mo_setScripts 46 rfl) ?_
        refine lv_if_ne (tgt := 75) hx hb (fh_d d_Mo_setScripts 47 rfl) rfl (fun c41 => absurd c41 (Classical.not_not.mpr (hk0))) (fun c41 => ?_)
        exact fh_vret X hP hS (fh_d d_Mo_setScripts 48 rfl) ⟨rfl, by unfold rf_sc; rw [if_neg h0u, if_pos h0l, if_pos hk0]; (try rfl), rfl⟩
      · skip
        refine lv_aload_n hx hb (fh_d d_Mo_setScripts 0 rfl) rfl (lv_at hl 0 rfl) ?_
        refine fh_get (own := "FormulaSetterModel") (ref := "FormulaSetterModel") (C := "FormulaSetterModel") (T := T_Mo) (N := 53) (v := .ref (x + 13)) hx hb hT i_Mo hown hK hP mkM_o rfl 18 (by decide) (hT _ w878) (fun _ h9 => h9) rfl (fh_d d_Mo_setScripts 1 rfl) ?_
        refine lv_iload_n hx hb (fh_d d_Mo_setScripts 2 rfl) rfl (lv_at hl 1 rfl) ?_
        refine fn_iald (f := A 12) (k := n0) hx hb hK hP 0 mkM_a12 rfl (rfl) (by omega) (by decide) (fh_d d_Mo_setScripts 3 rfl) ?_
        rw [show ((A 12) n0) = nI u from h12]
        refine lv_istore_n (lv' := [(2, .int (nI u)), (0, .ref x), (1, .int (nI n0))]) hx hb (fh_d d_Mo_setScripts 4 rfl) rfl hl (by decide) rfl (fun ls hl => ?_)
        refine lv_aload_n hx hb (fh_d d_Mo_setScripts 5 rfl) rfl (lv_at hl 1 rfl) ?_
        refine fh_get (own := "FormulaSetterModel") (ref := "FormulaSetterModel") (C := "FormulaSetterModel") (T := T_Mo) (N := 53) (v := .ref (x + 14)) hx hb hT i_Mo hown hK hP mkM_o rfl 19 (by decide) (hT _ w879) (fun _ h9 => h9) rfl (fh_d d_Mo_setScripts 6 rfl) ?_
        refine lv_iload_n hx hb (fh_d d_Mo_setScripts 7 rfl) rfl (lv_at hl 2 rfl) ?_
        refine fn_iald (f := A 13) (k := n0) hx hb hK hP 0 mkM_a13 rfl (rfl) (by omega) (by decide) (fh_d d_Mo_setScripts 8 rfl) ?_
        rw [show ((A 13) n0) = nI lo from h13]
        refine lv_istore_n (lv' := [(3, .int (nI lo)), (2, .int (nI u)), (0, .ref x), (1, .int (nI n0))]) hx hb (fh_d d_Mo_setScripts 9 rfl) rfl hl (by decide) rfl (fun ls hl => ?_)
        refine lv_aload_n hx hb (fh_d d_Mo_setScripts 10 rfl) rfl (lv_at hl 2 rfl) ?_
        refine fh_get (own := "FormulaSetterModel") (ref := "FormulaSetterModel") (C := "FormulaSetterModel") (T := T_Mo) (N := 53) (v := .ref (x + 26)) hx hb hT i_Mo hown hK hP mkM_o rfl 32 (by decide) (hT _ w892) (fun _ h9 => h9) rfl (fh_d d_Mo_setScripts 11 rfl) ?_
        refine lv_iload_n hx hb (fh_d d_Mo_setScripts 12 rfl) rfl (lv_at hl 3 rfl) ?_
        refine lv_aload_n hx hb (fh_d d_Mo_setScripts 13 rfl) rfl (lv_at hl 2 rfl) ?_
        refine fh_get (own := "FormulaSetterModel") (ref := "FormulaSetterModel") (C := "FormulaSetterModel") (T := T_Mo) (N := 53) (v := .ref (x + 23)) hx hb hT i_Mo hown hK hP mkM_o rfl 29 (by decide) (hT _ w889) (fun _ h9 => h9) rfl (fh_d d_Mo_setScripts 14 rfl) ?_
        refine lv_iload_n hx hb (fh_d d_Mo_setScripts 15 rfl) rfl (lv_at hl 3 rfl) ?_
        refine fn_iald (f := A 22) (k := n0) hx hb hK hP 0 mkM_a22 rfl (rfl) (by omega) (by decide) (fh_d d_Mo_setScripts 16 rfl) ?_
        refine fn_iast (f := A 25) (k := n0) hx hb hK hP hS 0 mkM_a25 rfl (rfl) (by omega) (by decide) (fh_d d_Mo_setScripts 17 rfl) (fun H locs hP hS => ?_)
        replace hP := fh_P.eq (h' := mkM ct x g (up2 A 25 (upd (A 25) n0 ((A 22) n0))) th co at_ wr no nu op pi wi he de) hP mkM_u25
        refine lv_aload_n hx hb (fh_d d_Mo_setScripts 18 rfl) rfl (lv_at hl 2 rfl) ?_
        refine fh_get (own := "FormulaSetterModel") (ref := "FormulaSetterModel") (C := "FormulaSetterModel") (T := T_Mo) (N := 53) (v := .ref (x + 27)) hx hb hT i_Mo hown hK hP mkM_o rfl 33 (by decide) (hT _ w893) (fun _ h9 => h9) rfl (fh_d d_Mo_setScripts 19 rfl) ?_
        refine lv_iload_n hx hb (fh_d d_Mo_setScripts 20 rfl) rfl (lv_at hl 3 rfl) ?_
        refine lv_aload_n hx hb (fh_d d_Mo_setScripts 21 rfl) rfl (lv_at hl 2 rfl) ?_
        refine fh_get (own := "FormulaSetterModel") (ref := "FormulaSetterModel") (C := "FormulaSetterModel") (T := T_Mo) (N := 53) (v := .ref (x + 24)) hx hb hT i_Mo hown hK hP mkM_o rfl 30 (by decide) (hT _ w890) (fun _ h9 => h9) rfl (fh_d d_Mo_setScripts 22 rfl) ?_
        refine lv_iload_n hx hb (fh_d d_Mo_setScripts 23 rfl) rfl (lv_at hl 3 rfl) ?_
        refine fn_iald (f := A 23) (k := n0) hx hb hK hP 0 mkM_a23 rfl (rfl) (by omega) (by decide) (fh_d d_Mo_setScripts 24 rfl) ?_
        refine fn_iast (f := A 26) (k := n0) hx hb hK hP hS 0 mkM_a26 rfl (rfl) (by omega) (by decide) (fh_d d_Mo_setScripts 25 rfl) (fun H locs hP hS => ?_)
        replace hP := fh_P.eq (h' := mkM ct x g (up2 (up2 A 25 (upd (A 25) n0 ((A 22) n0))) 26 (upd (A 26) n0 ((A 23) n0))) th co at_ wr no nu op pi wi he de) hP mkM_u26
        refine lv_aload_n hx hb (fh_d d_Mo_setScripts 26 rfl) rfl (lv_at hl 2 rfl) ?_
        refine fh_get (own := "FormulaSetterModel") (ref := "FormulaSetterModel") (C := "FormulaSetterModel") (T := T_Mo) (N := 53) (v := .ref (x + 28)) hx hb hT i_Mo hown hK hP mkM_o rfl 34 (by decide) (hT _ w894) (fun _ h9 => h9) rfl (fh_d d_Mo_setScripts 27 rfl) ?_
        refine lv_iload_n hx hb (fh_d d_Mo_setScripts 28 rfl) rfl (lv_at hl 3 rfl) ?_
        refine lv_aload_n hx hb (fh_d d_Mo_setScripts 29 rfl) rfl (lv_at hl 2 rfl) ?_
        refine fh_get (own := "FormulaSetterModel") (ref := "FormulaSetterModel") (C := "FormulaSetterModel") (T := T_Mo) (N := 53) (v := .ref (x + 25)) hx hb hT i_Mo hown hK hP mkM_o rfl 31 (by decide) (hT _ w891) (fun _ h9 => h9) rfl (fh_d d_Mo_setScripts 30 rfl) ?_
        refine lv_iload_n hx hb (fh_d d_Mo_setScripts 31 rfl) rfl (lv_at hl 3 rfl) ?_
        refine fn_iald (f := A 24) (k := n0) hx hb hK hP 0 mkM_a24 rfl (rfl) (by omega) (by decide) (fh_d d_Mo_setScripts 32 rfl) ?_
        refine fn_iast (f := A 27) (k := n0) hx hb hK hP hS 0 mkM_a27 rfl (rfl) (by omega) (by decide) (fh_d d_Mo_setScripts 33 rfl) (fun H locs hP hS => ?_)
        replace hP := fh_P.eq (h' := mkM ct x g (up2 (up2 (up2 A 25 (upd (A 25) n0 ((A 22) n0))) 26 (upd (A 26) n0 ((A 23) n0))) 27 (upd (A 27) n0 ((A 24) n0))) th co at_ wr no nu op pi wi he de) hP mkM_u27
        refine lv_aload_n hx hb (fh_d d_Mo_setScripts 34 rfl) rfl (lv_at hl 2 rfl) ?_
        refine fh_get (own := "FormulaSetterModel") (ref := "FormulaSetterModel") (C := "FormulaSetterModel") (T := T_Mo) (N := 53) (v := .ref (x + 29)) hx hb hT i_Mo hown hK hP mkM_o rfl 35 (by decide) (hT _ w895) (fun _ h9 => h9) rfl (fh_d d_Mo_setScripts 35 rfl) ?_
        refine lv_iload_n hx hb (fh_d d_Mo_setScripts 36 rfl) rfl (lv_at hl 3 rfl) ?_
        refine lv_iconst (v := 0) hx hb (fh_d d_Mo_setScripts 37 rfl) (by decide) ?_
        refine fn_iast (f := A 28) (k := n0) hx hb hK hP hS 0 mkM_a28 rfl (rfl) (by omega) (by decide) (fh_d d_Mo_setScripts 38 rfl) (fun H locs hP hS => ?_)
        replace hP := fh_P.eq (h' := mkM ct x g (up2 (up2 (up2 (up2 A 25 (upd (A 25) n0 ((A 22) n0))) 26 (upd (A 26) n0 ((A 23) n0))) 27 (upd (A 27) n0 ((A 24) n0))) 28 (upd (A 28) n0 0)) th co at_ wr no nu op pi wi he de) hP mkM_u28
        refine lv_iload_n hx hb (fh_d d_Mo_setScripts 39 rfl) rfl (lv_at hl 1 rfl) ?_
        refine lv_if_ne (tgt := 65) hx hb (fh_d d_Mo_setScripts 40 rfl) rfl (fun c42 => ?_) (fun c42 => absurd c42 (fun z => h0u (nI_z4 hu z)))
        refine lv_aload_n hx hb (fh_d d_Mo_setScripts 43 rfl) rfl (lv_at hl 2 rfl) ?_
        refine fh_get (own := "FormulaSetterModel") (ref := "FormulaSetterModel") (C := "FormulaSetterModel") (T := T_Mo) (N := 53) (v := .ref (x + 2)) hx hb hT i_Mo hown hK hP mkM_o rfl 7 (by decide) (hT _ w867) (fun _ h9 => h9) rfl (fh_d d_Mo_setScripts 44 rfl) ?_
        refine lv_iload_n hx hb (fh_d d_Mo_setScripts 45 rfl) rfl (lv_at hl 3 rfl) ?_
        refine fn_iald (f := A 1) (k := n0) hx hb hK hP 0 mkM_a1 rfl (rfl) (by omega) (by decide) (fh_d d_Mo_setScripts 46 rfl) ?_
        refine lv_if_ne (tgt := 75) hx hb (fh_d d_Mo_setScripts 47 rfl) rfl (fun c43 => ?_) (fun c43 => absurd c43 (hk0))
        refine lv_aload_n hx hb (fh_d d_Mo_setScripts 49 rfl) rfl (lv_at hl 2 rfl) ?_
        refine fh_get (own := "FormulaSetterModel") (ref := "FormulaSetterModel") (C := "FormulaSetterModel") (T := T_Mo) (N := 53) (v := .ref (x + 21)) hx hb hT i_Mo hown hK hP mkM_o rfl 27 (by decide) (hT _ w887) (fun _ h9 => h9) rfl (fh_d d_Mo_setScripts 50 rfl) ?_
        refine lv_iload_n hx hb (fh_d d_Mo_setScripts 51 rfl) rfl (lv_at hl 3 rfl) ?_
        refine fn_iald (f := A 20) (k := n0) hx hb hK hP 0 mkM_a20 rfl (rfl) (by omega) (by decide) (fh_d d_Mo_setScripts 52 rfl) ?_
        rw [show ((A 20) n0) = nI s0 from h20]
        refine fh_callS (cc' := c_Mo_zOf) (nL' := 1) (rest := []) (av := [.int (nI s0)]) X hR (m_Mo_zO l D ct b RO hR (r - 1) (by omega) n s0 hs0 (mkM ct x g (up2 (up2 (up2 (up2 A 25 (upd (A 25) n0 ((A 22) n0))) 26 (upd (A 26) n0 ((A 23) n0))) 27 (upd (A 27) n0 ((A 24) n0))) 28 (upd (A 28) n0 0)) th co at_ wr no nu op pi wi he de)) w1139 w1137 w1138 w9 ⟨by decide, by decide, by show _ = some 1; decide +kernel⟩ (by omega) (by decide) hP hS hl.1 rfl (by exact Nat.le_of_ble_eq_true rfl) (fh_d d_Mo_setScripts 53 rfl) ⟨Nat.le_refl _, Nat.le_refl _⟩ (fun v9 h9 n9 H locs hq hP hS => ?_)
        obtain ⟨rfl, q44a, q44b⟩ := hq
        rw [q44a, q44b] at hP
        refine W.eq (g2 := F0 m 84 ls [.int (yS s0)]) rfl ?_
        refine lv_istore (lv' := [(4, .int (yS s0)), (3, .int (nI lo)), (2, .int (nI u)), (0, .ref x), (1, .int (nI n0))]) hx hb (fh_d d_Mo_setScripts 54 rfl) hl (by decide) rfl (fun ls hl => ?_)
        refine lv_aload_n hx hb (fh_d d_Mo_setScripts 55 rfl) rfl (lv_at hl 3 rfl) ?_
        refine fh_get (own := "FormulaSetterModel") (ref := "FormulaSetterModel") (C := "FormulaSetterModel") (T := T_Mo) (N := 53) (v := .ref (x + 21)) hx hb hT i_Mo hown hK hP mkM_o rfl 27 (by decide) (hT _ w887) (fun _ h9 => h9) rfl (fh_d d_Mo_setScripts 56 rfl) ?_
        refine lv_iload_n hx hb (fh_d d_Mo_setScripts 57 rfl) rfl (lv_at hl 4 rfl) ?_
        refine fn_iald (f := A 20) (k := n0) hx hb hK hP 0 mkM_a20 rfl (rfl) (by omega) (by decide) (fh_d d_Mo_setScripts 58 rfl) ?_
        rw [show ((A 20) n0) = nI s0 from h20]
        refine fh_callS (cc' := c_Mo_tOf) (nL' := 1) (rest := []) (av := [.int (nI s0)]) X hR (m_Mo_tO l D ct b RO hR (r - 1) (by omega) n s0 hs0 (mkM ct x g (up2 (up2 (up2 (up2 A 25 (upd (A 25) n0 ((A 22) n0))) 26 (upd (A 26) n0 ((A 23) n0))) 27 (upd (A 27) n0 ((A 24) n0))) 28 (upd (A 28) n0 0)) th co at_ wr no nu op pi wi he de)) w1174 w1172 w1173 w9 ⟨by decide, by decide, by show _ = some 1; decide +kernel⟩ (by omega) (by decide) hP hS hl.1 rfl (by exact Nat.le_of_ble_eq_true rfl) (fh_d d_Mo_setScripts 59 rfl) ⟨Nat.le_refl _, Nat.le_refl _⟩ (fun v9 h9 n9 H locs hq hP hS => ?_)
        obtain ⟨rfl, q45a, q45b⟩ := hq
        rw [q45a, q45b] at hP
        refine W.eq (g2 := F0 m 95 ls [.int (yT s0)]) rfl ?_
        refine lv_istore (lv' := [(5, .int (yT s0)), (4, .int (yS s0)), (3, .int (nI lo)), (2, .int (nI u)), (0, .ref x), (1, .int (nI n0))]) hx hb (fh_d d_Mo_setScripts 60 rfl) hl (by decide) rfl (fun ls hl => ?_)
        have J : ∀ (hlm : ¬ (A 1 n0 = 2 ∧ ¬ A 2 n0 = 73 ∧ s0 = 0)) (H : Heap) (locs : List Loc) (ls : Array Slot), fh_P D fh_cl b (mkM ct x g (up2 (up2 (up2 (up2 A 25 (upd (A 25) n0 ((A 22) n0))) 26 (upd (A 26) n0 ((A 23) n0))) 27 (upd (A 27) n0 ((A 24) n0))) 28 (upd (A 28) n0 0)) th co at_ wr no nu op pi wi he de) n H → va_S (fh_A b) s.heap H locs → lv_has ls 10 [(2, .int (nI u)), (3, .int (nI lo)), (4, .int (yS s0)), (5, .int (yT s0)), (0, .ref x), (1, .int (nI n0))] → W p l e (fh_rm r 0 0) s m args below meth c H locs 0 0 (MQ below (fh_Post D fh_cl b (fun v h' n' => v = none ∧ h' = mkM ct x g (rf_sc A n0 s0 u lo) th co at_ wr no nu op pi wi he de ∧ n' = n)) args s 0 0 (fh_A b)) (F0 m 332 ls []) := by
          intro hlm H locs ls hP hS hl
          by_cases hcr : A 21 n0 = 0
          · skip
            refine lv_iconst (v := 0) hx hb (fh_d d_Mo_setScripts 215 rfl) (by decide) ?_
            refine lv_istore (lv' := [(6, .int 0), (2, .int (nI u)), (3, .int (nI lo)), (4, .int (yS s0)), (5, .int (yT s0)), (0, .ref x), (1, .int (nI n0))]) hx hb (fh_d d_Mo_setScripts 216 rfl) hl (by decide) rfl (fun ls hl => ?_)
            refine lv_aload_n hx hb (fh_d d_Mo_setScripts 217 rfl) rfl (lv_at hl 5 rfl) ?_
            refine fh_get (own := "FormulaSetterModel") (ref := "FormulaSetterModel") (C := "FormulaSetterModel") (T := T_Mo) (N := 53) (v := .ref (x + 23)) hx hb hT i_Mo hown hK hP mkM_o rfl 29 (by decide) (hT _ w889) (fun _ h9 => h9) rfl (fh_d d_Mo_setScripts 218 rfl) ?_
            refine lv_iload_n hx hb (fh_d d_Mo_setScripts 219 rfl) rfl (lv_at hl 6 rfl) ?_
            refine fn_iald (f := A 22) (k := n0) hx hb hK hP 0 mkM_a22 rfl (rfl) (by omega) (by decide) (fh_d d_Mo_setScripts 220 rfl) ?_
            refine lv_istore (lv' := [(7, .int ((A 22) n0)), (6, .int 0), (2, .int (nI u)), (3, .int (nI lo)), (4, .int (yS s0)), (5, .int (yT s0)), (0, .ref x), (1, .int (nI n0))]) hx hb (fh_d d_Mo_setScripts 221 rfl) hl (by decide) rfl (fun ls hl => ?_)
            refine lv_iload_n hx hb (fh_d d_Mo_setScripts 222 rfl) rfl (lv_at hl 2 rfl) ?_
            refine lv_if_le (tgt := 454) hx hb (fh_d d_Mo_setScripts 223 rfl) rfl (fun c46 => absurd c46 (nI_np ⟨Nat.pos_of_ne_zero h0u, hu⟩)) (fun c46 => ?_)
            refine lv_aload_n hx hb (fh_d d_Mo_setScripts 224 rfl) rfl (lv_at hl 6 rfl) ?_
            refine fh_get (own := "FormulaSetterModel") (ref := "FormulaSetterModel") (C := "FormulaSetterModel") (T := T_Mo) (N := 53) (v := .ref (x + 22)) hx hb hT i_Mo hown hK hP mkM_o rfl 28 (by decide) (hT _ w888) (fun _ h9 => h9) rfl (fh_d d_Mo_setScripts 225 rfl) ?_
            refine lv_iload_n hx hb (fh_d d_Mo_setScripts 226 rfl) rfl (lv_at hl 7 rfl) ?_
            refine fn_zald (f := A 21) (k := n0) hx hb hK hP 3 mkM_a21 rfl (rfl) (by omega) (by decide) (fh_d d_Mo_setScripts 227 rfl) ?_
            refine lv_if_eq (tgt := 363) hx hb (fh_d d_Mo_setScripts 228 rfl) rfl (fun c47 => ?_) (fun c47 => absurd c47 (Classical.not_not.mpr (hcr)))
            refine lv_iconst (v := 4) hx hb (fh_d d_Mo_setScripts 233 rfl) (by decide) ?_
            refine lv_iload hx hb (fh_d d_Mo_setScripts 234 rfl) (lv_at hl 4 rfl) ?_
            refine lv_imul hx hb (fh_d d_Mo_setScripts 235 rfl) ?_
            refine lv_aload_n hx hb (fh_d d_Mo_setScripts 236 rfl) rfl (lv_at hl 6 rfl) ?_
            refine fh_get (own := "FormulaSetterModel") (ref := "FormulaSetterModel") (C := "FormulaSetterModel") (T := T_Mo) (N := 53) (v := .ref (x + 24)) hx hb hT i_Mo hown hK hP mkM_o rfl 30 (by decide) (hT _ w890) (fun _ h9 => h9) rfl (fh_d d_Mo_setScripts 237 rfl) ?_
            refine lv_iload_n hx hb (fh_d d_Mo_setScripts 238 rfl) rfl (lv_at hl 7 rfl) ?_
            refine fn_iald (f := A 23) (k := n0) hx hb hK hP 0 mkM_a23 rfl (rfl) (by omega) (by decide) (fh_d d_Mo_setScripts 239 rfl) ?_
            refine lv_iconst (v := 2) hx hb (fh_d d_Mo_setScripts 240 rfl) (by decide) ?_
            refine lv_iload hx hb (fh_d d_Mo_setScripts 241 rfl) (lv_at hl 4 rfl) ?_
            refine lv_imul hx hb (fh_d d_Mo_setScripts 242 rfl) ?_
            refine lv_isub hx hb (fh_d d_Mo_setScripts 243 rfl) ?_
            refine fh_callS (cc' := c_Mo_most) (nL' := 2) (rest := []) (av := [.int (4 * (yS s0)), .int (((A 23) n0) - (2 * (yS s0)))]) X hR (m_Mo_most l D ct b RO (r - 1) n (4 * (yS s0)) (((A 23) n0) - (2 * (yS s0))) (mkM ct x g (up2 (up2 (up2 (up2 A 25 (upd (A 25) n0 ((A 22) n0))) 26 (upd (A 26) n0 ((A 23) n0))) 27 (upd (A 27) n0 ((A 24) n0))) 28 (upd (A 28) n0 0)) th co at_ wr no nu op pi wi he de)) w1151 w1149 w1150 w9 ⟨by decide, by decide, by show _ = some 2; decide +kernel⟩ (by omega) (by decide) hP hS hl.1 rfl (by exact Nat.le_of_ble_eq_true rfl) (fh_d d_Mo_setScripts 244 rfl) ⟨Nat.le_refl _, Nat.le_refl _⟩ (fun v9 h9 n9 H locs hq hP hS => ?_)
            obtain ⟨rfl, q48a, q48b⟩ := hq
            rw [q48a, q48b] at hP
            refine W.eq (g2 := F0 m 381 ls [.int (ms (4 * (yS s0)) (((A 23) n0) - (2 * (yS s0))))]) rfl ?_
            refine lv_aload_n hx hb (fh_d d_Mo_setScripts 245 rfl) rfl (lv_at hl 6 rfl) ?_
            refine fh_get (own := "FormulaSetterModel") (ref := "FormulaSetterModel") (C := "FormulaSetterModel") (T := T_Mo) (N := 53) (v := .ref (x + 28)) hx hb hT i_Mo hown hK hP mkM_o rfl 34 (by decide) (hT _ w894) (fun _ h9 => h9) rfl (fh_d d_Mo_setScripts 246 rfl) ?_
            refine lv_iload_n hx hb (fh_d d_Mo_setScripts 247 rfl) rfl (lv_at hl 2 rfl) ?_
            refine fn_iald (f := upd (A 27) n0 ((A 24) n0)) (k := u) hx hb hK hP 0 mkM_a27 rfl (rfl) (by omega) (by decide) (fh_d d_Mo_setScripts 248 rfl) ?_
            rw [show ((upd (A 27) n0 ((A 24) n0)) u) = (A 27) u from by simp only [upd_n (hun h0u)]]
            refine lv_iload hx hb (fh_d d_Mo_setScripts 249 rfl) (lv_at hl 4 rfl) ?_
            refine lv_iadd hx hb (fh_d d_Mo_setScripts 250 rfl) ?_
            refine fh_callS (cc' := c_Mo_most) (nL' := 2) (rest := []) (av := [.int (ms (4 * (yS s0)) (((A 23) n0) - (2 * (yS s0)))), .int (((A 27) u) + (yS s0))]) X hR (m_Mo_most l D ct b RO (r - 1) n (ms (4 * (yS s0)) (((A 23) n0) - (2 * (yS s0)))) (((A 27) u) + (yS s0)) (mkM ct x g (up2 (up2 (up2 (up2 A 25 (upd (A 25) n0 ((A 22) n0))) 26 (upd (A 26) n0 ((A 23) n0))) 27 (upd (A 27) n0 ((A 24) n0))) 28 (upd (A 28) n0 0)) th co at_ wr no nu op pi wi he de)) w1151 w1149 w1150 w9 ⟨by decide, by decide, by show _ = some 2; decide +kernel⟩ (by omega) (by decide) hP hS hl.1 rfl (by exact Nat.le_of_ble_eq_true rfl) (fh_d d_Mo_setScripts 251 rfl) ⟨Nat.le_refl _, Nat.le_refl _⟩ (fun v9 h9 n9 H locs hq hP hS => ?_)
            obtain ⟨rfl, q49a, q49b⟩ := hq
            rw [q49a, q49b] at hP
            refine W.eq (g2 := F0 m 393 ls [.int (ms (ms (4 * (yS s0)) (((A 23) n0) - (2 * (yS s0)))) (((A 27) u) + (yS s0)))]) rfl ?_
            refine lv_istore (lv' := [(6, .int (ms (ms (4 * (yS s0)) (((A 23) n0) - (2 * (yS s0)))) (((A 27) u) + (yS s0)))), (7, .int ((A 22) n0)), (2, .int (nI u)), (3, .int (nI lo)), (4, .int (yS s0)), (5, .int (yT s0)), (0, .ref x), (1, .int (nI n0))]) hx hb (fh_d d_Mo_setScripts 252 rfl) hl (by decide) rfl (fun ls hl => ?_)
            refine lv_aload_n hx hb (fh_d d_Mo_setScripts 253 rfl) rfl (lv_at hl 6 rfl) ?_
            refine fh_get (own := "FormulaSetterModel") (ref := "FormulaSetterModel") (C := "FormulaSetterModel") (T := T_Mo) (N := 53) (v := .ref (x + 30)) hx hb hT i_Mo hown hK hP mkM_o rfl 36 (by decide) (hT _ w896) (fun _ h9 => h9) rfl (fh_d d_Mo_setScripts 254 rfl) ?_
            refine lv_iload_n hx hb (fh_d d_Mo_setScripts 255 rfl) rfl (lv_at hl 2 rfl) ?_
            refine lv_aload_n hx hb (fh_d d_Mo_setScripts 256 rfl) rfl (lv_at hl 6 rfl) ?_
            refine fh_get (own := "FormulaSetterModel") (ref := "FormulaSetterModel") (C := "FormulaSetterModel") (T := T_Mo) (N := 53) (v := .ref (x + 23)) hx hb hT i_Mo hown hK hP mkM_o rfl 29 (by decide) (hT _ w889) (fun _ h9 => h9) rfl (fh_d d_Mo_setScripts 257 rfl) ?_
            refine lv_iload_n hx hb (fh_d d_Mo_setScripts 258 rfl) rfl (lv_at hl 7 rfl) ?_
            refine fn_iald (f := A 22) (k := n0) hx hb hK hP 0 mkM_a22 rfl (rfl) (by omega) (by decide) (fh_d d_Mo_setScripts 259 rfl) ?_
            refine fn_iast (f := A 29) (k := u) hx hb hK hP hS 0 mkM_a29 rfl (rfl) (by omega) (by decide) (fh_d d_Mo_setScripts 260 rfl) (fun H locs hP hS => ?_)
            replace hP := fh_P.eq (h' := mkM ct x g (up2 (up2 (up2 (up2 (up2 A 25 (upd (A 25) n0 ((A 22) n0))) 26 (upd (A 26) n0 ((A 23) n0))) 27 (upd (A 27) n0 ((A 24) n0))) 28 (upd (A 28) n0 0)) 29 (upd (A 29) u ((A 22) n0))) th co at_ wr no nu op pi wi he de) hP mkM_u29
            refine lv_aload_n hx hb (fh_d d_Mo_setScripts 261 rfl) rfl (lv_at hl 6 rfl) ?_
            refine fh_get (own := "FormulaSetterModel") (ref := "FormulaSetterModel") (C := "FormulaSetterModel") (T := T_Mo) (N := 53) (v := .ref (x + 31)) hx hb hT i_Mo hown hK hP mkM_o rfl 37 (by decide) (hT _ w897) (fun _ h9 => h9) rfl (fh_d d_Mo_setScripts 262 rfl) ?_
            refine lv_iload_n hx hb (fh_d d_Mo_setScripts 263 rfl) rfl (lv_at hl 2 rfl) ?_
            refine lv_iload hx hb (fh_d d_Mo_setScripts 264 rfl) (lv_at hl 0 rfl) ?_
            refine fn_iast (f := A 30) (k := u) hx hb hK hP hS 0 mkM_a30 rfl (rfl) (by omega) (by decide) (fh_d d_Mo_setScripts 265 rfl) (fun H locs hP hS => ?_)
            replace hP := fh_P.eq (h' := mkM ct x g (up2 (up2 (up2 (up2 (up2 (up2 A 25 (upd (A 25) n0 ((A 22) n0))) 26 (upd (A 26) n0 ((A 23) n0))) 27 (upd (A 27) n0 ((A 24) n0))) 28 (upd (A 28) n0 0)) 29 (upd (A 29) u ((A 22) n0))) 30 (upd (A 30) u (ms (ms (4 * (yS s0)) (((A 23) n0) - (2 * (yS s0)))) (((A 27) u) + (yS s0))))) th co at_ wr no nu op pi wi he de) hP mkM_u30
            refine lv_aload_n hx hb (fh_d d_Mo_setScripts 266 rfl) rfl (lv_at hl 6 rfl) ?_
            refine fh_get (own := "FormulaSetterModel") (ref := "FormulaSetterModel") (C := "FormulaSetterModel") (T := T_Mo) (N := 53) (v := .ref (x + 23)) hx hb hT i_Mo hown hK hP mkM_o rfl 29 (by decide) (hT _ w889) (fun _ h9 => h9) rfl (fh_d d_Mo_setScripts 267 rfl) ?_
            refine lv_iload_n hx hb (fh_d d_Mo_setScripts 268 rfl) rfl (lv_at hl 7 rfl) ?_
            refine fn_iald (f := A 22) (k := n0) hx hb hK hP 0 mkM_a22 rfl (rfl) (by omega) (by decide) (fh_d d_Mo_setScripts 269 rfl) ?_
            refine lv_aload_n hx hb (fh_d d_Mo_setScripts 270 rfl) rfl (lv_at hl 6 rfl) ?_
            refine fh_get (own := "FormulaSetterModel") (ref := "FormulaSetterModel") (C := "FormulaSetterModel") (T := T_Mo) (N := 53) (v := .ref (x + 26)) hx hb hT i_Mo hown hK hP mkM_o rfl 32 (by decide) (hT _ w892) (fun _ h9 => h9) rfl (fh_d d_Mo_setScripts 271 rfl) ?_
            refine lv_iload_n hx hb (fh_d d_Mo_setScripts 272 rfl) rfl (lv_at hl 2 rfl) ?_
            refine fn_iald (f := upd (A 25) n0 ((A 22) n0)) (k := u) hx hb hK hP 0 mkM_a25 rfl (rfl) (by omega) (by decide) (fh_d d_Mo_setScripts 273 rfl) ?_
            rw [show ((upd (A 25) n0 ((A 22) n0)) u) = (A 25) u from by simp only [upd_n (hun h0u)]]
            refine lv_iadd hx hb (fh_d d_Mo_setScripts 274 rfl) ?_
            refine lv_istore (lv' := [(7, .int (((A 22) n0) + ((A 25) u))), (6, .int (ms (ms (4 * (yS s0)) (((A 23) n0) - (2 * (yS s0)))) (((A 27) u) + (yS s0)))), (2, .int (nI u)), (3, .int (nI lo)), (4, .int (yS s0)), (5, .int (yT s0)), (0, .ref x), (1, .int (nI n0))]) hx hb (fh_d d_Mo_setScripts 275 rfl) hl (by decide) rfl (fun ls hl => ?_)
            refine lv_aload_n hx hb (fh_d d_Mo_setScripts 276 rfl) rfl (lv_at hl 6 rfl) ?_
            refine fh_get (own := "FormulaSetterModel") (ref := "FormulaSetterModel") (C := "FormulaSetterModel") (T := T_Mo) (N := 53) (v := .ref (x + 27)) hx hb hT i_Mo hown hK hP mkM_o rfl 33 (by decide) (hT _ w893) (fun _ h9 => h9) rfl (fh_d d_Mo_setScripts 277 rfl) ?_
            refine lv_iload_n hx hb (fh_d d_Mo_setScripts 278 rfl) rfl (lv_at hl 7 rfl) ?_
            refine lv_aload_n hx hb (fh_d d_Mo_setScripts 279 rfl) rfl (lv_at hl 6 rfl) ?_
            refine fh_get (own := "FormulaSetterModel") (ref := "FormulaSetterModel") (C := "FormulaSetterModel") (T := T_Mo) (N := 53) (v := .ref (x + 24)) hx hb hT i_Mo hown hK hP mkM_o rfl 30 (by decide) (hT _ w890) (fun _ h9 => h9) rfl (fh_d d_Mo_setScripts 280 rfl) ?_
            refine lv_iload_n hx hb (fh_d d_Mo_setScripts 281 rfl) rfl (lv_at hl 7 rfl) ?_
            refine fn_iald (f := A 23) (k := n0) hx hb hK hP 0 mkM_a23 rfl (rfl) (by omega) (by decide) (fh_d d_Mo_setScripts 282 rfl) ?_
            refine lv_iload hx hb (fh_d d_Mo_setScripts 283 rfl) (lv_at hl 1 rfl) ?_
            refine lv_aload_n hx hb (fh_d d_Mo_setScripts 284 rfl) rfl (lv_at hl 6 rfl) ?_
            refine fh_get (own := "FormulaSetterModel") (ref := "FormulaSetterModel") (C := "FormulaSetterModel") (T := T_Mo) (N := 53) (v := .ref (x + 27)) hx hb hT i_Mo hown hK hP mkM_o rfl 33 (by decide) (hT _ w893) (fun _ h9 => h9) rfl (fh_d d_Mo_setScripts 285 rfl) ?_
            refine lv_iload_n hx hb (fh_d d_Mo_setScripts 286 rfl) rfl (lv_at hl 2 rfl) ?_
            refine fn_iald (f := upd (A 26) n0 ((A 23) n0)) (k := u) hx hb hK hP 0 mkM_a26 rfl (rfl) (by omega) (by decide) (fh_d d_Mo_setScripts 287 rfl) ?_
            rw [show ((upd (A 26) n0 ((A 23) n0)) u) = (A 26) u from by simp only [upd_n (hun h0u)]]
            refine lv_iadd hx hb (fh_d d_Mo_setScripts 288 rfl) ?_
            refine fh_callS (cc' := c_Mo_most) (nL' := 2) (rest := [.int (nI n0), .ref (x + 27)]) (av := [.int ((A 23) n0), .int ((ms (ms (4 * (yS s0)) (((A 23) n0) - (2 * (yS s0)))) (((A 27) u) + (yS s0))) + ((A 26) u))]) X hR (m_Mo_most l D ct b RO (r - 1) n ((A 23) n0) ((ms (ms (4 * (yS s0)) (((A 23) n0) - (2 * (yS s0)))) (((A 27) u) + (yS s0))) + ((A 26) u)) (mkM ct x g (up2 (up2 (up2 (up2 (up2 (up2 A 25 (upd (A 25) n0 ((A 22) n0))) 26 (upd (A 26) n0 ((A 23) n0))) 27 (upd (A 27) n0 ((A 24) n0))) 28 (upd (A 28) n0 0)) 29 (upd (A 29) u ((A 22) n0))) 30 (upd (A 30) u (ms (ms (4 * (yS s0)) (((A 23) n0) - (2 * (yS s0)))) (((A 27) u) + (yS s0))))) th co at_ wr no nu op pi wi he de)) w1151 w1149 w1150 w9 ⟨by decide, by decide, by show _ = some 2; decide +kernel⟩ (by omega) (by decide) hP hS hl.1 rfl (by exact Nat.le_of_ble_eq_true rfl) (fh_d d_Mo_setScripts 289 rfl) ⟨Nat.le_refl _, Nat.le_refl _⟩ (fun v9 h9 n9 H locs hq hP hS => ?_)
            obtain ⟨rfl, q50a, q50b⟩ := hq
            rw [q50a, q50b] at hP
            refine W.eq (g2 := F0 m 453 ls [.int (ms ((A 23) n0) ((ms (ms (4 * (yS s0)) (((A 23) n0) - (2 * (yS s0)))) (((A 27) u) + (yS s0))) + ((A 26) u))), .int (nI n0), .ref (x + 27)]) rfl ?_
            refine fn_iast (f := upd (A 26) n0 ((A 23) n0)) (k := n0) hx hb hK hP hS 0 mkM_a26 rfl (rfl) (by omega) (by decide) (fh_d d_Mo_setScripts 290 rfl) (fun H locs hP hS => ?_)
            replace hP := fh_P.eq (h' := mkM ct x g (up2 (up2 (up2 (up2 (up2 (up2 (up2 A 25 (upd (A 25) n0 ((A 22) n0))) 26 (upd (A 26) n0 ((A 23) n0))) 27 (upd (A 27) n0 ((A 24) n0))) 28 (upd (A 28) n0 0)) 29 (upd (A 29) u ((A 22) n0))) 30 (upd (A 30) u (ms (ms (4 * (yS s0)) (((A 23) n0) - (2 * (yS s0)))) (((A 27) u) + (yS s0))))) 26 (upd (upd (A 26) n0 ((A 23) n0)) n0 (ms ((A 23) n0) ((ms (ms (4 * (yS s0)) (((A 23) n0) - (2 * (yS s0)))) (((A 27) u) + (yS s0))) + ((A 26) u))))) th co at_ wr no nu op pi wi he de) hP mkM_u26
            refine lv_iload_n hx hb (fh_d d_Mo_setScripts 291 rfl) rfl (lv_at hl 3 rfl) ?_
            refine lv_if_le (tgt := 648) hx hb (fh_d d_Mo_setScripts 292 rfl) rfl (fun c51 => ?_) (fun c51 => absurd c51 (fun z => z (by rw [h0l]; decide)))
            refine lv_aload_n hx hb (fh_d d_Mo_setScripts 410 rfl) rfl (lv_at hl 6 rfl) ?_
            refine fh_get (own := "FormulaSetterModel") (ref := "FormulaSetterModel") (C := "FormulaSetterModel") (T := T_Mo) (N := 53) (v := .ref (x + 26)) hx hb hT i_Mo hown hK hP mkM_o rfl 32 (by decide) (hT _ w892) (fun _ h9 => h9) rfl (fh_d d_Mo_setScripts 411 rfl) ?_
            refine lv_iload_n hx hb (fh_d d_Mo_setScripts 412 rfl) rfl (lv_at hl 7 rfl) ?_
            refine lv_iload hx hb (fh_d d_Mo_setScripts 413 rfl) (lv_at hl 0 rfl) ?_
            refine lv_iload hx hb (fh_d d_Mo_setScripts 414 rfl) (lv_at hl 4 rfl) ?_
            refine lv_iconst (v := 2) hx hb (fh_d d_Mo_setScripts 415 rfl) (by decide) ?_
            refine lv_idiv hx hb (fh_d d_Mo_setScripts 416 rfl) (by decide) ?_
            refine lv_iadd hx hb (fh_d d_Mo_setScripts 417 rfl) ?_
            refine fn_iast (f := upd (A 25) n0 ((A 22) n0)) (k := n0) hx hb hK hP hS 0 mkM_a25 rfl (rfl) (by omega) (by decide) (fh_d d_Mo_setScripts 418 rfl) (fun H locs hP hS => ?_)
            replace hP := fh_P.eq (h' := mkM ct x g (up2 (up2 (up2 (up2 (up2 (up2 (up2 (up2 A 25 (upd (A 25) n0 ((A 22) n0))) 26 (upd (A 26) n0 ((A 23) n0))) 27 (upd (A 27) n0 ((A 24) n0))) 28 (upd (A 28) n0 0)) 29 (upd (A 29) u ((A 22) n0))) 30 (upd (A 30) u (ms (ms (4 * (yS s0)) (((A 23) n0) - (2 * (yS s0)))) (((A 27) u) + (yS s0))))) 26 (upd (upd (A 26) n0 ((A 23) n0)) n0 (ms ((A 23) n0) ((ms (ms (4 * (yS s0)) (((A 23) n0) - (2 * (yS s0)))) (((A 27) u) + (yS s0))) + ((A 26) u))))) 25 (upd (upd (A 25) n0 ((A 22) n0)) n0 ((((A 22) n0) + ((A 25) u)) + ((yS s0) / 2)))) th co at_ wr no nu op pi wi he de) hP mkM_u25
            exact fh_vret X hP hS (fh_d d_Mo_setScripts 419 rfl) ⟨rfl, by unfold rf_sc; rw [if_neg h0u, if_pos h0l, if_neg hk0, if_neg hlm, if_pos hcr]; (try rfl), rfl⟩
          · skip
            refine lv_iconst (v := 0) hx hb (fh_d d_Mo_setScripts 215 rfl) (by decide) ?_
            refine lv_istore (lv' := [(6, .int 0), (2, .int (nI u)), (3, .int (nI lo)), (4, .int (yS s0)), (5, .int (yT s0)), (0, .ref x), (1, .int (nI n0))]) hx hb (fh_d d_Mo_setScripts 216 rfl) hl (by decide) rfl (fun ls hl => ?_)
            refine lv_aload_n hx hb (fh_d d_Mo_setScripts 217 rfl) rfl (lv_at hl 5 rfl) ?_
            refine fh_get (own := "FormulaSetterModel") (ref := "FormulaSetterModel") (C := "FormulaSetterModel") (T := T_Mo) (N := 53) (v := .ref (x + 23)) hx hb hT i_Mo hown hK hP mkM_o rfl 29 (by decide) (hT _ w889) (fun _ h9 => h9) rfl (fh_d d_Mo_setScripts 218 rfl) ?_
            refine lv_iload_n hx hb (fh_d d_Mo_setScripts 219 rfl) rfl (lv_at hl 6 rfl) ?_
            refine fn_iald (f := A 22) (k := n0) hx hb hK hP 0 mkM_a22 rfl (rfl) (by omega) (by decide) (fh_d d_Mo_setScripts 220 rfl) ?_
            refine lv_istore (lv' := [(7, .int ((A 22) n0)), (6, .int 0), (2, .int (nI u)), (3, .int (nI lo)), (4, .int (yS s0)), (5, .int (yT s0)), (0, .ref x), (1, .int (nI n0))]) hx hb (fh_d d_Mo_setScripts 221 rfl) hl (by decide) rfl (fun ls hl => ?_)
            refine lv_iload_n hx hb (fh_d d_Mo_setScripts 222 rfl) rfl (lv_at hl 2 rfl) ?_
            refine lv_if_le (tgt := 454) hx hb (fh_d d_Mo_setScripts 223 rfl) rfl (fun c52 => absurd c52 (nI_np ⟨Nat.pos_of_ne_zero h0u, hu⟩)) (fun c52 => ?_)
            refine lv_aload_n hx hb (fh_d d_Mo_setScripts 224 rfl) rfl (lv_at hl 6 rfl) ?_
            refine fh_get (own := "FormulaSetterModel") (ref := "FormulaSetterModel") (C := "FormulaSetterModel") (T := T_Mo) (N := 53) (v := .ref (x + 22)) hx hb hT i_Mo hown hK hP mkM_o rfl 28 (by decide) (hT _ w888) (fun _ h9 => h9) rfl (fh_d d_Mo_setScripts 225 rfl) ?_
            refine lv_iload_n hx hb (fh_d d_Mo_setScripts 226 rfl) rfl (lv_at hl 7 rfl) ?_
            refine fn_zald (f := A 21) (k := n0) hx hb hK hP 3 mkM_a21 rfl (rfl) (by omega) (by decide) (fh_d d_Mo_setScripts 227 rfl) ?_
            refine lv_if_eq (tgt := 363) hx hb (fh_d d_Mo_setScripts 228 rfl) rfl (fun c53 => absurd c53 (hcr)) (fun c53 => ?_)
            refine lv_iconst (v := 3) hx hb (fh_d d_Mo_setScripts 229 rfl) (by decide) ?_
            refine lv_iload hx hb (fh_d d_Mo_setScripts 230 rfl) (lv_at hl 4 rfl) ?_
            refine lv_imul hx hb (fh_d d_Mo_setScripts 231 rfl) ?_
            refine lv_goto (tgt := 367) hx hb (fh_d d_Mo_setScripts 232 rfl) rfl ?_
            refine lv_aload_n hx hb (fh_d d_Mo_setScripts 236 rfl) rfl (lv_at hl 6 rfl) ?_
            refine fh_get (own := "FormulaSetterModel") (ref := "FormulaSetterModel") (C := "FormulaSetterModel") (T := T_Mo) (N := 53) (v := .ref (x + 24)) hx hb hT i_Mo hown hK hP mkM_o rfl 30 (by decide) (hT _ w890) (fun _ h9 => h9) rfl (fh_d d_Mo_setScripts 237 rfl) ?_
            refine lv_iload_n hx hb (fh_d d_Mo_setScripts 238 rfl) rfl (lv_at hl 7 rfl) ?_
            refine fn_iald (f := A 23) (k := n0) hx hb hK hP 0 mkM_a23 rfl (rfl) (by omega) (by decide) (fh_d d_Mo_setScripts 239 rfl) ?_
            refine lv_iconst (v := 2) hx hb (fh_d d_Mo_setScripts 240 rfl) (by decide) ?_
            refine lv_iload hx hb (fh_d d_Mo_setScripts 241 rfl) (lv_at hl 4 rfl) ?_
            refine lv_imul hx hb (fh_d d_Mo_setScripts 242 rfl) ?_
            refine lv_isub hx hb (fh_d d_Mo_setScripts 243 rfl) ?_
            refine fh_callS (cc' := c_Mo_most) (nL' := 2) (rest := []) (av := [.int (3 * (yS s0)), .int (((A 23) n0) - (2 * (yS s0)))]) X hR (m_Mo_most l D ct b RO (r - 1) n (3 * (yS s0)) (((A 23) n0) - (2 * (yS s0))) (mkM ct x g (up2 (up2 (up2 (up2 A 25 (upd (A 25) n0 ((A 22) n0))) 26 (upd (A 26) n0 ((A 23) n0))) 27 (upd (A 27) n0 ((A 24) n0))) 28 (upd (A 28) n0 0)) th co at_ wr no nu op pi wi he de)) w1151 w1149 w1150 w9 ⟨by decide, by decide, by show _ = some 2; decide +kernel⟩ (by omega) (by decide) hP hS hl.1 rfl (by exact Nat.le_of_ble_eq_true rfl) (fh_d d_Mo_setScripts 244 rfl) ⟨Nat.le_refl _, Nat.le_refl _⟩ (fun v9 h9 n9 H locs hq hP hS => ?_)
            obtain ⟨rfl, q54a, q54b⟩ := hq
            rw [q54a, q54b] at hP
            refine W.eq (g2 := F0 m 381 ls [.int (ms (3 * (yS s0)) (((A 23) n0) - (2 * (yS s0))))]) rfl ?_
            refine lv_aload_n hx hb (fh_d d_Mo_setScripts 245 rfl) rfl (lv_at hl 6 rfl) ?_
            refine fh_get (own := "FormulaSetterModel") (ref := "FormulaSetterModel") (C := "FormulaSetterModel") (T := T_Mo) (N := 53) (v := .ref (x + 28)) hx hb hT i_Mo hown hK hP mkM_o rfl 34 (by decide) (hT _ w894) (fun _ h9 => h9) rfl (fh_d d_Mo_setScripts 246 rfl) ?_
            refine lv_iload_n hx hb (fh_d d_Mo_setScripts 247 rfl) rfl (lv_at hl 2 rfl) ?_
            refine fn_iald (f := upd (A 27) n0 ((A 24) n0)) (k := u) hx hb hK hP 0 mkM_a27 rfl (rfl) (by omega) (by decide) (fh_d d_Mo_setScripts 248 rfl) ?_
            rw [show ((upd (A 27) n0 ((A 24) n0)) u) = (A 27) u from by simp only [upd_n (hun h0u)]]
            refine lv_iload hx hb (fh_d d_Mo_setScripts 249 rfl) (lv_at hl 4 rfl) ?_
            refine lv_iadd hx hb (fh_d d_Mo_setScripts 250 rfl) ?_
            refine fh_callS (cc' := c_Mo_most) (nL' := 2) (rest := []) (av := [.int (ms (3 * (yS s0)) (((A 23) n0) - (2 * (yS s0)))), .int (((A 27) u) + (yS s0))]) X hR (m_Mo_most l D ct b RO (r - 1) n (ms (3 * (yS s0)) (((A 23) n0) - (2 * (yS s0)))) (((A 27) u) + (yS s0)) (mkM ct x g (up2 (up2 (up2 (up2 A 25 (upd (A 25) n0 ((A 22) n0))) 26 (upd (A 26) n0 ((A 23) n0))) 27 (upd (A 27) n0 ((A 24) n0))) 28 (upd (A 28) n0 0)) th co at_ wr no nu op pi wi he de)) w1151 w1149 w1150 w9 ⟨by decide, by decide, by show _ = some 2; decide +kernel⟩ (by omega) (by decide) hP hS hl.1 rfl (by exact Nat.le_of_ble_eq_true rfl) (fh_d d_Mo_setScripts 251 rfl) ⟨Nat.le_refl _, Nat.le_refl _⟩ (fun v9 h9 n9 H locs hq hP hS => ?_)
            obtain ⟨rfl, q55a, q55b⟩ := hq
            rw [q55a, q55b] at hP
            refine W.eq (g2 := F0 m 393 ls [.int (ms (ms (3 * (yS s0)) (((A 23) n0) - (2 * (yS s0)))) (((A 27) u) + (yS s0)))]) rfl ?_
            refine lv_istore (lv' := [(6, .int (ms (ms (3 * (yS s0)) (((A 23) n0) - (2 * (yS s0)))) (((A 27) u) + (yS s0)))), (7, .int ((A 22) n0)), (2, .int (nI u)), (3, .int (nI lo)), (4, .int (yS s0)), (5, .int (yT s0)), (0, .ref x), (1, .int (nI n0))]) hx hb (fh_d d_Mo_setScripts 252 rfl) hl (by decide) rfl (fun ls hl => ?_)
            refine lv_aload_n hx hb (fh_d d_Mo_setScripts 253 rfl) rfl (lv_at hl 6 rfl) ?_
            refine fh_get (own := "FormulaSetterModel") (ref := "FormulaSetterModel") (C := "FormulaSetterModel") (T := T_Mo) (N := 53) (v := .ref (x + 30)) hx hb hT i_Mo hown hK hP mkM_o rfl 36 (by decide) (hT _ w896) (fun _ h9 => h9) rfl (fh_d d_Mo_setScripts 254 rfl) ?_
            refine lv_iload_n hx hb (fh_d d_Mo_setScripts 255 rfl) rfl (lv_at hl 2 rfl) ?_
            refine lv_aload_n hx hb (fh_d d_Mo_setScripts 256 rfl) rfl (lv_at hl 6 rfl) ?_
            refine fh_get (own := "FormulaSetterModel") (ref := "FormulaSetterModel") (C := "FormulaSetterModel") (T := T_Mo) (N := 53) (v := .ref (x + 23)) hx hb hT i_Mo hown hK hP mkM_o rfl 29 (by decide) (hT _ w889) (fun _ h9 => h9) rfl (fh_d d_Mo_setScripts 257 rfl) ?_
            refine lv_iload_n hx hb (fh_d d_Mo_setScripts 258 rfl) rfl (lv_at hl 7 rfl) ?_
            refine fn_iald (f := A 22) (k := n0) hx hb hK hP 0 mkM_a22 rfl (rfl) (by omega) (by decide) (fh_d d_Mo_setScripts 259 rfl) ?_
            refine fn_iast (f := A 29) (k := u) hx hb hK hP hS 0 mkM_a29 rfl (rfl) (by omega) (by decide) (fh_d d_Mo_setScripts 260 rfl) (fun H locs hP hS => ?_)
            replace hP := fh_P.eq (h' := mkM ct x g (up2 (up2 (up2 (up2 (up2 A 25 (upd (A 25) n0 ((A 22) n0))) 26 (upd (A 26) n0 ((A 23) n0))) 27 (upd (A 27) n0 ((A 24) n0))) 28 (upd (A 28) n0 0)) 29 (upd (A 29) u ((A 22) n0))) th co at_ wr no nu op pi wi he de) hP mkM_u29
            refine lv_aload_n hx hb (fh_d d_Mo_setScripts 261 rfl) rfl (lv_at hl 6 rfl) ?_
            refine fh_get (own := "FormulaSetterModel") (ref := "FormulaSetterModel") (C := "FormulaSetterModel") (T := T_Mo) (N := 53) (v := .ref (x + 31)) hx hb hT i_Mo hown hK hP mkM_o rfl 37 (by decide) (hT _ w897) (fun _ h9 => h9) rfl (fh_d d_Mo_setScripts 262 rfl) ?_
            refine lv_iload_n hx hb (fh_d d_Mo_setScripts 263 rfl) rfl (lv_at hl 2 rfl) ?_
            refine lv_iload hx hb (fh_d d_Mo_setScripts 264 rfl) (lv_at hl 0 rfl) ?_
            refine fn_iast (f := A 30) (k := u) hx hb hK hP hS 0 mkM_a30 rfl (rfl) (by omega) (by decide) (fh_d d_Mo_setScripts 265 rfl) (fun H locs hP hS => ?_)
            replace hP := fh_P.eq (h' := mkM ct x g (up2 (up2 (up2 (up2 (up2 (up2 A 25 (upd (A 25) n0 ((A 22) n0))) 26 (upd (A 26) n0 ((A 23) n0))) 27 (upd (A 27) n0 ((A 24) n0))) 28 (upd (A 28) n0 0)) 29 (upd (A 29) u ((A 22) n0))) 30 (upd (A 30) u (ms (ms (3 * (yS s0)) (((A 23) n0) - (2 * (yS s0)))) (((A 27) u) + (yS s0))))) th co at_ wr no nu op pi wi he de) hP mkM_u30
            refine lv_aload_n hx hb (fh_d d_Mo_setScripts 266 rfl) rfl (lv_at hl 6 rfl) ?_
            refine fh_get (own := "FormulaSetterModel") (ref := "FormulaSetterModel") (C := "FormulaSetterModel") (T := T_Mo) (N := 53) (v := .ref (x + 23)) hx hb hT i_Mo hown hK hP mkM_o rfl 29 (by decide) (hT _ w889) (fun _ h9 => h9) rfl (fh_d d_Mo_setScripts 267 rfl) ?_
            refine lv_iload_n hx hb (fh_d d_Mo_setScripts 268 rfl) rfl (lv_at hl 7 rfl) ?_
            refine fn_iald (f := A 22) (k := n0) hx hb hK hP 0 mkM_a22 rfl (rfl) (by omega) (by decide) (fh_d d_Mo_setScripts 269 rfl) ?_
            refine lv_aload_n hx hb (fh_d d_Mo_setScripts 270 rfl) rfl (lv_at hl 6 rfl) ?_
            refine fh_get (own := "FormulaSetterModel") (ref := "FormulaSetterModel") (C := "FormulaSetterModel") (T := T_Mo) (N := 53) (v := .ref (x + 26)) hx hb hT i_Mo hown hK hP mkM_o rfl 32 (by decide) (hT _ w892) (fun _ h9 => h9) rfl (fh_d d_Mo_setScripts 271 rfl) ?_
            refine lv_iload_n hx hb (fh_d d_Mo_setScripts 272 rfl) rfl (lv_at hl 2 rfl) ?_
            refine fn_iald (f := upd (A 25) n0 ((A 22) n0)) (k := u) hx hb hK hP 0 mkM_a25 rfl (rfl) (by omega) (by decide) (fh_d d_Mo_setScripts 273 rfl) ?_
            rw [show ((upd (A 25) n0 ((A 22) n0)) u) = (A 25) u from by simp only [upd_n (hun h0u)]]
            refine lv_iadd hx hb (fh_d d_Mo_setScripts 274 rfl) ?_
            refine lv_istore (lv' := [(7, .int (((A 22) n0) + ((A 25) u))), (6, .int (ms (ms (3 * (yS s0)) (((A 23) n0) - (2 * (yS s0)))) (((A 27) u) + (yS s0)))), (2, .int (nI u)), (3, .int (nI lo)), (4, .int (yS s0)), (5, .int (yT s0)), (0, .ref x), (1, .int (nI n0))]) hx hb (fh_d d_Mo_setScripts 275 rfl) hl (by decide) rfl (fun ls hl => ?_)
            refine lv_aload_n hx hb (fh_d d_Mo_setScripts 276 rfl) rfl (lv_at hl 6 rfl) ?_
            refine fh_get (own := "FormulaSetterModel") (ref := "FormulaSetterModel") (C := "FormulaSetterModel") (T := T_Mo) (N := 53) (v := .ref (x + 27)) hx hb hT i_Mo hown hK hP mkM_o rfl 33 (by decide) (hT _ w893) (fun _ h9 => h9) rfl (fh_d d_Mo_setScripts 277 rfl) ?_
            refine lv_iload_n hx hb (fh_d d_Mo_setScripts 278 rfl) rfl (lv_at hl 7 rfl) ?_
            refine lv_aload_n hx hb (fh_d d_Mo_setScripts 279 rfl) rfl (lv_at hl 6 rfl) ?_
            refine fh_get (own := "FormulaSetterModel") (ref := "FormulaSetterModel") (C := "FormulaSetterModel") (T := T_Mo) (N := 53) (v := .ref (x + 24)) hx hb hT i_Mo hown hK hP mkM_o rfl 30 (by decide) (hT _ w890) (fun _ h9 => h9) rfl (fh_d d_Mo_setScripts 280 rfl) ?_
            refine lv_iload_n hx hb (fh_d d_Mo_setScripts 281 rfl) rfl (lv_at hl 7 rfl) ?_
            refine fn_iald (f := A 23) (k := n0) hx hb hK hP 0 mkM_a23 rfl (rfl) (by omega) (by decide) (fh_d d_Mo_setScripts 282 rfl) ?_
            refine lv_iload hx hb (fh_d d_Mo_setScripts 283 rfl) (lv_at hl 1 rfl) ?_
            refine lv_aload_n hx hb (fh_d d_Mo_setScripts 284 rfl) rfl (lv_at hl 6 rfl) ?_
            refine fh_get (own := "FormulaSetterModel") (ref := "FormulaSetterModel") (C := "FormulaSetterModel") (T := T_Mo) (N := 53) (v := .ref (x + 27)) hx hb hT i_Mo hown hK hP mkM_o rfl 33 (by decide) (hT _ w893) (fun _ h9 => h9) rfl (fh_d d_Mo_setScripts 285 rfl) ?_
            refine lv_iload_n hx hb (fh_d d_Mo_setScripts 286 rfl) rfl (lv_at hl 2 rfl) ?_
            refine fn_iald (f := upd (A 26) n0 ((A 23) n0)) (k := u) hx hb hK hP 0 mkM_a26 rfl (rfl) (by omega) (by decide) (fh_d d_Mo_setScripts 287 rfl) ?_
            rw [show ((upd (A 26) n0 ((A 23) n0)) u) = (A 26) u from by simp only [upd_n (hun h0u)]]
            refine lv_iadd hx hb (fh_d d_Mo_setScripts 288 rfl) ?_
            refine fh_callS (cc' := c_Mo_most) (nL' := 2) (rest := [.int (nI n0), .ref (x + 27)]) (av := [.int ((A 23) n0), .int ((ms (ms (3 * (yS s0)) (((A 23) n0) - (2 * (yS s0)))) (((A 27) u) + (yS s0))) + ((A 26) u))]) X hR (m_Mo_most l D ct b RO (r - 1) n ((A 23) n0) ((ms (ms (3 * (yS s0)) (((A 23) n0) - (2 * (yS s0)))) (((A 27) u) + (yS s0))) + ((A 26) u)) (mkM ct x g (up2 (up2 (up2 (up2 (up2 (up2 A 25 (upd (A 25) n0 ((A 22) n0))) 26 (upd (A 26) n0 ((A 23) n0))) 27 (upd (A 27) n0 ((A 24) n0))) 28 (upd (A 28) n0 0)) 29 (upd (A 29) u ((A 22) n0))) 30 (upd (A 30) u (ms (ms (3 * (yS s0)) (((A 23) n0) - (2 * (yS s0)))) (((A 27) u) + (yS s0))))) th co at_ wr no nu op pi wi he de)) w1151 w1149 w1150 w9 ⟨by decide, by decide, by show _ = some 2; decide +kernel⟩ (by omega) (by decide) hP hS hl.1 rfl (by exact Nat.le_of_ble_eq_true rfl) (fh_d d_Mo_setScripts 289 rfl) ⟨Nat.le_refl _, Nat.le_refl _⟩ (fun v9 h9 n9 H locs hq hP hS => ?_)
            obtain ⟨rfl, q56a, q56b⟩ := hq
            rw [q56a, q56b] at hP
            refine W.eq (g2 := F0 m 453 ls [.int (ms ((A 23) n0) ((ms (ms (3 * (yS s0)) (((A 23) n0) - (2 * (yS s0)))) (((A 27) u) + (yS s0))) + ((A 26) u))), .int (nI n0), .ref (x + 27)]) rfl ?_
            refine fn_iast (f := upd (A 26) n0 ((A 23) n0)) (k := n0) hx hb hK hP hS 0 mkM_a26 rfl (rfl) (by omega) (by decide) (fh_d d_Mo_setScripts 290 rfl) (fun H locs hP hS => ?_)
            replace hP := fh_P.eq (h' := mkM ct x g (up2 (up2 (up2 (up2 (up2 (up2 (up2 A 25 (upd (A 25) n0 ((A 22) n0))) 26 (upd (A 26) n0 ((A 23) n0))) 27 (upd (A 27) n0 ((A 24) n0))) 28 (upd (A 28) n0 0)) 29 (upd (A 29) u ((A 22) n0))) 30 (upd (A 30) u (ms (ms (3 * (yS s0)) (((A 23) n0) - (2 * (yS s0)))) (((A 27) u) + (yS s0))))) 26 (upd (upd (A 26) n0 ((A 23) n0)) n0 (ms ((A 23) n0) ((ms (ms (3 * (yS s0)) (((A 23) n0) - (2 * (yS s0)))) (((A 27) u) + (yS s0))) + ((A 26) u))))) th co at_ wr no nu op pi wi he de) hP mkM_u26
            refine lv_iload_n hx hb (fh_d d_Mo_setScripts 291 rfl) rfl (lv_at hl 3 rfl) ?_
            refine lv_if_le (tgt := 648) hx hb (fh_d d_Mo_setScripts 292 rfl) rfl (fun c57 => ?_) (fun c57 => absurd c57 (fun z => z (by rw [h0l]; decide)))
            refine lv_aload_n hx hb (fh_d d_Mo_setScripts 410 rfl) rfl (lv_at hl 6 rfl) ?_
            refine fh_get (own := "FormulaSetterModel") (ref := "FormulaSetterModel") (C := "FormulaSetterModel") (T := T_Mo) (N := 53) (v := .ref (x + 26)) hx hb hT i_Mo hown hK hP mkM_o rfl 32 (by decide) (hT _ w892) (fun _ h9 => h9) rfl (fh_d d_Mo_setScripts 411 rfl) ?_
            refine lv_iload_n hx hb (fh_d d_Mo_setScripts 412 rfl) rfl (lv_at hl 7 rfl) ?_
            refine lv_iload hx hb (fh_d d_Mo_setScripts 413 rfl) (lv_at hl 0 rfl) ?_
            refine lv_iload hx hb (fh_d d_Mo_setScripts 414 rfl) (lv_at hl 4 rfl) ?_
            refine lv_iconst (v := 2) hx hb (fh_d d_Mo_setScripts 415 rfl) (by decide) ?_
            refine lv_idiv hx hb (fh_d d_Mo_setScripts 416 rfl) (by decide) ?_
            refine lv_iadd hx hb (fh_d d_Mo_setScripts 417 rfl) ?_
            refine fn_iast (f := upd (A 25) n0 ((A 22) n0)) (k := n0) hx hb hK hP hS 0 mkM_a25 rfl (rfl) (by omega) (by decide) (fh_d d_Mo_setScripts 418 rfl) (fun H locs hP hS => ?_)
            replace hP := fh_P.eq (h' := mkM ct x g (up2 (up2 (up2 (up2 (up2 (up2 (up2 (up2 A 25 (upd (A 25) n0 ((A 22) n0))) 26 (upd (A 26) n0 ((A 23) n0))) 27 (upd (A 27) n0 ((A 24) n0))) 28 (upd (A 28) n0 0)) 29 (upd (A 29) u ((A 22) n0))) 30 (upd (A 30) u (ms (ms (3 * (yS s0)) (((A 23) n0) - (2 * (yS s0)))) (((A 27) u) + (yS s0))))) 26 (upd (upd (A 26) n0 ((A 23) n0)) n0 (ms ((A 23) n0) ((ms (ms (3 * (yS s0)) (((A 23) n0) - (2 * (yS s0)))) (((A 27) u) + (yS s0))) + ((A 26) u))))) 25 (upd (upd (A 25) n0 ((A 22) n0)) n0 ((((A 22) n0) + ((A 25) u)) + ((yS s0) / 2)))) th co at_ wr no nu op pi wi he de) hP mkM_u25
            exact fh_vret X hP hS (fh_d d_Mo_setScripts 419 rfl) ⟨rfl, by unfold rf_sc; rw [if_neg h0u, if_pos h0l, if_neg hk0, if_neg hlm, if_neg hcr]; (try rfl), rfl⟩
        by_cases hlm : A 1 n0 = 2 ∧ ¬ A 2 n0 = 73 ∧ s0 = 0
        · skip
          refine lv_aload_n hx hb (fh_d d_Mo_setScripts 61 rfl) rfl (lv_at hl 4 rfl) ?_
          refine fh_get (own := "FormulaSetterModel") (ref := "FormulaSetterModel") (C := "FormulaSetterModel") (T := T_Mo) (N := 53) (v := .ref (x + 2)) hx hb hT i_Mo hown hK hP mkM_o rfl 7 (by decide) (hT _ w867) (fun _ h9 => h9) rfl (fh_d d_Mo_setScripts 62 rfl) ?_
          refine lv_iload_n hx hb (fh_d d_Mo_setScripts 63 rfl) rfl (lv_at hl 5 rfl) ?_
          refine fn_iald (f := A 1) (k := n0) hx hb hK hP 0 mkM_a1 rfl (rfl) (by omega) (by decide) (fh_d d_Mo_setScripts 64 rfl) ?_
          refine lv_iconst (v := 2) hx hb (fh_d d_Mo_setScripts 65 rfl) (by decide) ?_
          refine lv_icmp_ne (tgt := 332) hx hb (fh_d d_Mo_setScripts 66 rfl) rfl (fun c58 => absurd c58 (Classical.not_not.mpr (hlm.1))) (fun c58 => ?_)
          refine lv_aload_n hx hb (fh_d d_Mo_setScripts 67 rfl) rfl (lv_at hl 4 rfl) ?_
          refine fh_get (own := "FormulaSetterModel") (ref := "FormulaSetterModel") (C := "FormulaSetterModel") (T := T_Mo) (N := 53) (v := .ref (x + 3)) hx hb hT i_Mo hown hK hP mkM_o rfl 8 (by decide) (hT _ w868) (fun _ h9 => h9) rfl (fh_d d_Mo_setScripts 68 rfl) ?_
          refine lv_iload_n hx hb (fh_d d_Mo_setScripts 69 rfl) rfl (lv_at hl 5 rfl) ?_
          refine fn_iald (f := A 2) (k := n0) hx hb hK hP 0 mkM_a2 rfl (rfl) (by omega) (by decide) (fh_d d_Mo_setScripts 70 rfl) ?_
          refine lv_bipush (v := 73) hx hb (fh_d d_Mo_setScripts 71 rfl) (by decide) ?_
          refine lv_icmp_eq (tgt := 332) hx hb (fh_d d_Mo_setScripts 72 rfl) rfl (fun c59 => absurd c59 (hlm.2.1)) (fun c59 => ?_)
          refine lv_aload_n hx hb (fh_d d_Mo_setScripts 73 rfl) rfl (lv_at hl 4 rfl) ?_
          refine fh_get (own := "FormulaSetterModel") (ref := "FormulaSetterModel") (C := "FormulaSetterModel") (T := T_Mo) (N := 53) (v := .ref (x + 21)) hx hb hT i_Mo hown hK hP mkM_o rfl 27 (by decide) (hT _ w887) (fun _ h9 => h9) rfl (fh_d d_Mo_setScripts 74 rfl) ?_
          refine lv_iload_n hx hb (fh_d d_Mo_setScripts 75 rfl) rfl (lv_at hl 5 rfl) ?_
          refine fn_iald (f := A 20) (k := n0) hx hb hK hP 0 mkM_a20 rfl (rfl) (by omega) (by decide) (fh_d d_Mo_setScripts 76 rfl) ?_
          rw [show ((A 20) n0) = nI s0 from h20]
          refine lv_if_ne (tgt := 332) hx hb (fh_d d_Mo_setScripts 77 rfl) rfl (fun c60 => absurd c60 (fun z => z (by rw [hlm.2.2]; rfl))) (fun c60 => ?_)
          refine lv_aload_n hx hb (fh_d d_Mo_setScripts 78 rfl) rfl (lv_at hl 4 rfl) ?_
          refine fh_get (own := "FormulaSetterModel") (ref := "FormulaSetterModel") (C := "FormulaSetterModel") (T := T_Mo) (N := 53) (v := .ref (x + 26)) hx hb hT i_Mo hown hK hP mkM_o rfl 32 (by decide) (hT _ w892) (fun _ h9 => h9) rfl (fh_d d_Mo_setScripts 79 rfl) ?_
          refine lv_iload_n hx hb (fh_d d_Mo_setScripts 80 rfl) rfl (lv_at hl 5 rfl) ?_
          refine lv_aload_n hx hb (fh_d d_Mo_setScripts 81 rfl) rfl (lv_at hl 4 rfl) ?_
          refine fh_get (own := "FormulaSetterModel") (ref := "FormulaSetterModel") (C := "FormulaSetterModel") (T := T_Mo) (N := 53) (v := .ref (x + 23)) hx hb hT i_Mo hown hK hP mkM_o rfl 29 (by decide) (hT _ w889) (fun _ h9 => h9) rfl (fh_d d_Mo_setScripts 82 rfl) ?_
          refine lv_iload_n hx hb (fh_d d_Mo_setScripts 83 rfl) rfl (lv_at hl 5 rfl) ?_
          refine fn_iald (f := A 22) (k := n0) hx hb hK hP 0 mkM_a22 rfl (rfl) (by omega) (by decide) (fh_d d_Mo_setScripts 84 rfl) ?_
          refine lv_iload_n hx hb (fh_d d_Mo_setScripts 85 rfl) rfl (lv_at hl 3 rfl) ?_
          refine lv_if_le (tgt := 151) hx hb (fh_d d_Mo_setScripts 86 rfl) rfl (fun c61 => absurd c61 (nI_np ⟨Nat.pos_of_ne_zero h0u, hu⟩)) (fun c61 => ?_)
          refine lv_aload_n hx hb (fh_d d_Mo_setScripts 87 rfl) rfl (lv_at hl 4 rfl) ?_
          refine fh_get (own := "FormulaSetterModel") (ref := "FormulaSetterModel") (C := "FormulaSetterModel") (T := T_Mo) (N := 53) (v := .ref (x + 26)) hx hb hT i_Mo hown hK hP mkM_o rfl 32 (by decide) (hT _ w892) (fun _ h9 => h9) rfl (fh_d d_Mo_setScripts 88 rfl) ?_
          refine lv_iload_n hx hb (fh_d d_Mo_setScripts 89 rfl) rfl (lv_at hl 3 rfl) ?_
          refine fn_iald (f := upd (A 25) n0 ((A 22) n0)) (k := u) hx hb hK hP 0 mkM_a25 rfl (rfl) (by omega) (by decide) (fh_d d_Mo_setScripts 90 rfl) ?_
          rw [show ((upd (A 25) n0 ((A 22) n0)) u) = (A 25) u from by simp only [upd_n (hun h0u)]]
          refine lv_goto (tgt := 152) hx hb (fh_d d_Mo_setScripts 91 rfl) rfl ?_
          refine lv_iload_n hx hb (fh_d d_Mo_setScripts 93 rfl) rfl (lv_at hl 2 rfl) ?_
          refine lv_if_le (tgt := 165) hx hb (fh_d d_Mo_setScripts 94 rfl) rfl (fun c62 => ?_) (fun c62 => absurd c62 (fun z => z (by rw [h0l]; decide)))
          refine lv_iconst (v := 0) hx hb (fh_d d_Mo_setScripts 100 rfl) (by decide) ?_
          refine fh_callS (cc' := c_Mo_most) (nL' := 2) (rest := [.int ((A 22) n0), .int (nI n0), .ref (x + 26)]) (av := [.int ((A 25) u), .int 0]) X hR (m_Mo_most l D ct b RO (r - 1) n ((A 25) u) 0 (mkM ct x g (up2 (up2 (up2 (up2 A 25 (upd (A 25) n0 ((A 22) n0))) 26 (upd (A 26) n0 ((A 23) n0))) 27 (upd (A 27) n0 ((A 24) n0))) 28 (upd (A 28) n0 0)) th co at_ wr no nu op pi wi he de)) w1151 w1149 w1150 w9 ⟨by decide, by decide, by show _ = some 2; decide +kernel⟩ (by omega) (by decide) hP hS hl.1 rfl (by exact Nat.le_of_ble_eq_true rfl) (fh_d d_Mo_setScripts 101 rfl) ⟨Nat.le_refl _, Nat.le_refl _⟩ (fun v9 h9 n9 H locs hq hP hS => ?_)
          obtain ⟨rfl, q63a, q63b⟩ := hq
          rw [q63a, q63b] at hP
          refine W.eq (g2 := F0 m 169 ls [.int (ms ((A 25) u) 0), .int ((A 22) n0), .int (nI n0), .ref (x + 26)]) rfl ?_
          refine fh_callS (cc' := c_Mo_most) (nL' := 2) (rest := [.int (nI n0), .ref (x + 26)]) (av := [.int ((A 22) n0), .int (ms ((A 25) u) 0)]) X hR (m_Mo_most l D ct b RO (r - 1) n ((A 22) n0) (ms ((A 25) u) 0) (mkM ct x g (up2 (up2 (up2 (up2 A 25 (upd (A 25) n0 ((A 22) n0))) 26 (upd (A 26) n0 ((A 23) n0))) 27 (upd (A 27) n0 ((A 24) n0))) 28 (upd (A 28) n0 0)) th co at_ wr no nu op pi wi he de)) w1151 w1149 w1150 w9 ⟨by decide, by decide, by show _ = some 2; decide +kernel⟩ (by omega) (by decide) hP hS hl.1 rfl (by exact Nat.le_of_ble_eq_true rfl) (fh_d d_Mo_setScripts 102 rfl) ⟨Nat.le_refl _, Nat.le_refl _⟩ (fun v9 h9 n9 H locs hq hP hS => ?_)
          obtain ⟨rfl, q64a, q64b⟩ := hq
          rw [q64a, q64b] at hP
          refine W.eq (g2 := F0 m 172 ls [.int (ms ((A 22) n0) (ms ((A 25) u) 0)), .int (nI n0), .ref (x + 26)]) rfl ?_
          refine fn_iast (f := upd (A 25) n0 ((A 22) n0)) (k := n0) hx hb hK hP hS 0 mkM_a25 rfl (rfl) (by omega) (by decide) (fh_d d_Mo_setScripts 103 rfl) (fun H locs hP hS => ?_)
          replace hP := fh_P.eq (h' := mkM ct x g (up2 (up2 (up2 (up2 (up2 A 25 (upd (A 25) n0 ((A 22) n0))) 26 (upd (A 26) n0 ((A 23) n0))) 27 (upd (A 27) n0 ((A 24) n0))) 28 (upd (A 28) n0 0)) 25 (upd (upd (A 25) n0 ((A 22) n0)) n0 (ms ((A 22) n0) (ms ((A 25) u) 0)))) th co at_ wr no nu op pi wi he de) hP mkM_u25
          refine lv_aload_n hx hb (fh_d d_Mo_setScripts 104 rfl) rfl (lv_at hl 4 rfl) ?_
          refine fh_get (own := "FormulaSetterModel") (ref := "FormulaSetterModel") (C := "FormulaSetterModel") (T := T_Mo) (N := 53) (v := .ref (x + 29)) hx hb hT i_Mo hown hK hP mkM_o rfl 35 (by decide) (hT _ w895) (fun _ h9 => h9) rfl (fh_d d_Mo_setScripts 105 rfl) ?_
          refine lv_iload_n hx hb (fh_d d_Mo_setScripts 106 rfl) rfl (lv_at hl 5 rfl) ?_
          refine lv_aload_n hx hb (fh_d d_Mo_setScripts 107 rfl) rfl (lv_at hl 4 rfl) ?_
          refine fh_get (own := "FormulaSetterModel") (ref := "FormulaSetterModel") (C := "FormulaSetterModel") (T := T_Mo) (N := 53) (v := .ref (x + 26)) hx hb hT i_Mo hown hK hP mkM_o rfl 32 (by decide) (hT _ w892) (fun _ h9 => h9) rfl (fh_d d_Mo_setScripts 108 rfl) ?_
          refine lv_iload_n hx hb (fh_d d_Mo_setScripts 109 rfl) rfl (lv_at hl 5 rfl) ?_
          refine fn_iald (f := upd (upd (A 25) n0 ((A 22) n0)) n0 (ms ((A 22) n0) (ms ((A 25) u) 0))) (k := n0) hx hb hK hP 0 mkM_a25 rfl (rfl) (by omega) (by decide) (fh_d d_Mo_setScripts 110 rfl) ?_
          rw [show ((upd (upd (A 25) n0 ((A 22) n0)) n0 (ms ((A 22) n0) (ms ((A 25) u) 0))) n0) = (ms ((A 22) n0) (ms ((A 25) u) 0)) from upd_s]
          refine lv_aload_n hx hb (fh_d d_Mo_setScripts 111 rfl) rfl (lv_at hl 4 rfl) ?_
          refine fh_get (own := "FormulaSetterModel") (ref := "FormulaSetterModel") (C := "FormulaSetterModel") (T := T_Mo) (N := 53) (v := .ref (x + 23)) hx hb hT i_Mo hown hK hP mkM_o rfl 29 (by decide) (hT _ w889) (fun _ h9 => h9) rfl (fh_d d_Mo_setScripts 112 rfl) ?_
          refine lv_iload_n hx hb (fh_d d_Mo_setScripts 113 rfl) rfl (lv_at hl 5 rfl) ?_
          refine fn_iald (f := A 22) (k := n0) hx hb hK hP 0 mkM_a22 rfl (rfl) (by omega) (by decide) (fh_d d_Mo_setScripts 114 rfl) ?_
          refine lv_isub hx hb (fh_d d_Mo_setScripts 115 rfl) ?_
          refine lv_iconst (v := 2) hx hb (fh_d d_Mo_setScripts 116 rfl) (by decide) ?_
          refine lv_idiv hx hb (fh_d d_Mo_setScripts 117 rfl) (by decide) ?_
          refine fn_iast (f := upd (A 28) n0 0) (k := n0) hx hb hK hP hS 0 mkM_a28 rfl (rfl) (by omega) (by decide) (fh_d d_Mo_setScripts 118 rfl) (fun H locs hP hS => ?_)
          replace hP := fh_P.eq (h' := mkM ct x g (up2 (up2 (up2 (up2 (up2 (up2 A 25 (upd (A 25) n0 ((A 22) n0))) 26 (upd (A 26) n0 ((A 23) n0))) 27 (upd (A 27) n0 ((A 24) n0))) 28 (upd (A 28) n0 0)) 25 (upd (upd (A 25) n0 ((A 22) n0)) n0 (ms ((A 22) n0) (ms ((A 25) u) 0)))) 28 (upd (upd (A 28) n0 0) n0 (((ms ((A 22) n0) (ms ((A 25) u) 0)) - ((A 22) n0)) / 2))) th co at_ wr no nu op pi wi he de) hP mkM_u28
          refine lv_iload_n hx hb (fh_d d_Mo_setScripts 119 rfl) rfl (lv_at hl 3 rfl) ?_
          refine lv_if_le (tgt := 262) hx hb (fh_d d_Mo_setScripts 120 rfl) rfl (fun c65 => absurd c65 (nI_np ⟨Nat.pos_of_ne_zero h0u, hu⟩)) (fun c65 => ?_)
          refine lv_aload_n hx hb (fh_d d_Mo_setScripts 121 rfl) rfl (lv_at hl 4 rfl) ?_
          refine fh_get (own := "FormulaSetterModel") (ref := "FormulaSetterModel") (C := "FormulaSetterModel") (T := T_Mo) (N := 53) (v := .ref (x + 30)) hx hb hT i_Mo hown hK hP mkM_o rfl 36 (by decide) (hT _ w896) (fun _ h9 => h9) rfl (fh_d d_Mo_setScripts 122 rfl) ?_
          refine lv_iload_n hx hb (fh_d d_Mo_setScripts 123 rfl) rfl (lv_at hl 3 rfl) ?_
          refine lv_aload_n hx hb (fh_d d_Mo_setScripts 124 rfl) rfl (lv_at hl 4 rfl) ?_
          refine fh_get (own := "FormulaSetterModel") (ref := "FormulaSetterModel") (C := "FormulaSetterModel") (T := T_Mo) (N := 53) (v := .ref (x + 26)) hx hb hT i_Mo hown hK hP mkM_o rfl 32 (by decide) (hT _ w892) (fun _ h9 => h9) rfl (fh_d d_Mo_setScripts 125 rfl) ?_
          refine lv_iload_n hx hb (fh_d d_Mo_setScripts 126 rfl) rfl (lv_at hl 5 rfl) ?_
          refine fn_iald (f := upd (upd (A 25) n0 ((A 22) n0)) n0 (ms ((A 22) n0) (ms ((A 25) u) 0))) (k := n0) hx hb hK hP 0 mkM_a25 rfl (rfl) (by omega) (by decide) (fh_d d_Mo_setScripts 127 rfl) ?_
          rw [show ((upd (upd (A 25) n0 ((A 22) n0)) n0 (ms ((A 22) n0) (ms ((A 25) u) 0))) n0) = (ms ((A 22) n0) (ms ((A 25) u) 0)) from upd_s]
          refine lv_aload_n hx hb (fh_d d_Mo_setScripts 128 rfl) rfl (lv_at hl 4 rfl) ?_
          refine fh_get (own := "FormulaSetterModel") (ref := "FormulaSetterModel") (C := "FormulaSetterModel") (T := T_Mo) (N := 53) (v := .ref (x + 26)) hx hb hT i_Mo hown hK hP mkM_o rfl 32 (by decide) (hT _ w892) (fun _ h9 => h9) rfl (fh_d d_Mo_setScripts 129 rfl) ?_
          refine lv_iload_n hx hb (fh_d d_Mo_setScripts 130 rfl) rfl (lv_at hl 3 rfl) ?_
          refine fn_iald (f := upd (upd (A 25) n0 ((A 22) n0)) n0 (ms ((A 22) n0) (ms ((A 25) u) 0))) (k := u) hx hb hK hP 0 mkM_a25 rfl (rfl) (by omega) (by decide) (fh_d d_Mo_setScripts 131 rfl) ?_
          rw [show ((upd (upd (A 25) n0 ((A 22) n0)) n0 (ms ((A 22) n0) (ms ((A 25) u) 0))) u) = (A 25) u from by simp only [upd_n (hun h0u)]]
          refine lv_isub hx hb (fh_d d_Mo_setScripts 132 rfl) ?_
          refine lv_iconst (v := 2) hx hb (fh_d d_Mo_setScripts 133 rfl) (by decide) ?_
          refine lv_idiv hx hb (fh_d d_Mo_setScripts 134 rfl) (by decide) ?_
          refine fn_iast (f := A 29) (k := u) hx hb hK hP hS 0 mkM_a29 rfl (rfl) (by omega) (by decide) (fh_d d_Mo_setScripts 135 rfl) (fun H locs hP hS => ?_)
          replace hP := fh_P.eq (h' := mkM ct x g (up2 (up2 (up2 (up2 (up2 (up2 (up2 A 25 (upd (A 25) n0 ((A 22) n0))) 26 (upd (A 26) n0 ((A 23) n0))) 27 (upd (A 27) n0 ((A 24) n0))) 28 (upd (A 28) n0 0)) 25 (upd (upd (A 25) n0 ((A 22) n0)) n0 (ms ((A 22) n0) (ms ((A 25) u) 0)))) 28 (upd (upd (A 28) n0 0) n0 (((ms ((A 22) n0) (ms ((A 25) u) 0)) - ((A 22) n0)) / 2))) 29 (upd (A 29) u (((ms ((A 22) n0) (ms ((A 25) u) 0)) - ((A 25) u)) / 2))) th co at_ wr no nu op pi wi he de) hP mkM_u29
          refine lv_aload_n hx hb (fh_d d_Mo_setScripts 136 rfl) rfl (lv_at hl 4 rfl) ?_
          refine fh_get (own := "FormulaSetterModel") (ref := "FormulaSetterModel") (C := "FormulaSetterModel") (T := T_Mo) (N := 53) (v := .ref (x + 31)) hx hb hT i_Mo hown hK hP mkM_o rfl 37 (by decide) (hT _ w897) (fun _ h9 => h9) rfl (fh_d d_Mo_setScripts 137 rfl) ?_
          refine lv_iload_n hx hb (fh_d d_Mo_setScripts 138 rfl) rfl (lv_at hl 3 rfl) ?_
          refine lv_aload_n hx hb (fh_d d_Mo_setScripts 139 rfl) rfl (lv_at hl 4 rfl) ?_
          refine fh_get (own := "FormulaSetterModel") (ref := "FormulaSetterModel") (C := "FormulaSetterModel") (T := T_Mo) (N := 53) (v := .ref (x + 24)) hx hb hT i_Mo hown hK hP mkM_o rfl 30 (by decide) (hT _ w890) (fun _ h9 => h9) rfl (fh_d d_Mo_setScripts 140 rfl) ?_
          refine lv_iload_n hx hb (fh_d d_Mo_setScripts 141 rfl) rfl (lv_at hl 5 rfl) ?_
          refine fn_iald (f := A 23) (k := n0) hx hb hK hP 0 mkM_a23 rfl (rfl) (by omega) (by decide) (fh_d d_Mo_setScripts 142 rfl) ?_
          refine lv_iconst (v := 2) hx hb (fh_d d_Mo_setScripts 143 rfl) (by decide) ?_
          refine lv_iload hx hb (fh_d d_Mo_setScripts 144 rfl) (lv_at hl 0 rfl) ?_
          refine lv_imul hx hb (fh_d d_Mo_setScripts 145 rfl) ?_
          refine lv_iadd hx hb (fh_d d_Mo_setScripts 146 rfl) ?_
          refine lv_aload_n hx hb (fh_d d_Mo_setScripts 147 rfl) rfl (lv_at hl 4 rfl) ?_
          refine fh_get (own := "FormulaSetterModel") (ref := "FormulaSetterModel") (C := "FormulaSetterModel") (T := T_Mo) (N := 53) (v := .ref (x + 28)) hx hb hT i_Mo hown hK hP mkM_o rfl 34 (by decide) (hT _ w894) (fun _ h9 => h9) rfl (fh_d d_Mo_setScripts 148 rfl) ?_
          refine lv_iload_n hx hb (fh_d d_Mo_setScripts 149 rfl) rfl (lv_at hl 3 rfl) ?_
          refine fn_iald (f := upd (A 27) n0 ((A 24) n0)) (k := u) hx hb hK hP 0 mkM_a27 rfl (rfl) (by omega) (by decide) (fh_d d_Mo_setScripts 150 rfl) ?_
          rw [show ((upd (A 27) n0 ((A 24) n0)) u) = (A 27) u from by simp only [upd_n (hun h0u)]]
          refine lv_iadd hx hb (fh_d d_Mo_setScripts 151 rfl) ?_
          refine fn_iast (f := A 30) (k := u) hx hb hK hP hS 0 mkM_a30 rfl (rfl) (by omega) (by decide) (fh_d d_Mo_setScripts 152 rfl) (fun H locs hP hS => ?_)
          replace hP := fh_P.eq (h' := mkM ct x g (up2 (up2 (up2 (up2 (up2 (up2 (up2 (up2 A 25 (upd (A 25) n0 ((A 22) n0))) 26 (upd (A 26) n0 ((A 23) n0))) 27 (upd (A 27) n0 ((A 24) n0))) 28 (upd (A 28) n0 0)) 25 (upd (upd (A 25) n0 ((A 22) n0)) n0 (ms ((A 22) n0) (ms ((A 25) u) 0)))) 28 (upd (upd (A 28) n0 0) n0 (((ms ((A 22) n0) (ms ((A 25) u) 0)) - ((A 22) n0)) / 2))) 29 (upd (A 29) u (((ms ((A 22) n0) (ms ((A 25) u) 0)) - ((A 25) u)) / 2))) 30 (upd (A 30) u ((((A 23) n0) + (2 * (yT s0))) + ((A 27) u)))) th co at_ wr no nu op pi wi he de) hP mkM_u30
          refine lv_aload_n hx hb (fh_d d_Mo_setScripts 153 rfl) rfl (lv_at hl 4 rfl) ?_
          refine fh_get (own := "FormulaSetterModel") (ref := "FormulaSetterModel") (C := "FormulaSetterModel") (T := T_Mo) (N := 53) (v := .ref (x + 27)) hx hb hT i_Mo hown hK hP mkM_o rfl 33 (by decide) (hT _ w893) (fun _ h9 => h9) rfl (fh_d d_Mo_setScripts 154 rfl) ?_
          refine lv_iload_n hx hb (fh_d d_Mo_setScripts 155 rfl) rfl (lv_at hl 5 rfl) ?_
          refine lv_aload_n hx hb (fh_d d_Mo_setScripts 156 rfl) rfl (lv_at hl 4 rfl) ?_
          refine fh_get (own := "FormulaSetterModel") (ref := "FormulaSetterModel") (C := "FormulaSetterModel") (T := T_Mo) (N := 53) (v := .ref (x + 31)) hx hb hT i_Mo hown hK hP mkM_o rfl 37 (by decide) (hT _ w897) (fun _ h9 => h9) rfl (fh_d d_Mo_setScripts 157 rfl) ?_
          refine lv_iload_n hx hb (fh_d d_Mo_setScripts 158 rfl) rfl (lv_at hl 3 rfl) ?_
          refine fn_iald (f := upd (A 30) u ((((A 23) n0) + (2 * (yT s0))) + ((A 27) u))) (k := u) hx hb hK hP 0 mkM_a30 rfl (rfl) (by omega) (by decide) (fh_d d_Mo_setScripts 159 rfl) ?_
          rw [show ((upd (A 30) u ((((A 23) n0) + (2 * (yT s0))) + ((A 27) u))) u) = ((((A 23) n0) + (2 * (yT s0))) + ((A 27) u)) from upd_s]
          refine lv_aload_n hx hb (fh_d d_Mo_setScripts 160 rfl) rfl (lv_at hl 4 rfl) ?_
          refine fh_get (own := "FormulaSetterModel") (ref := "FormulaSetterModel") (C := "FormulaSetterModel") (T := T_Mo) (N := 53) (v := .ref (x + 27)) hx hb hT i_Mo hown hK hP mkM_o rfl 33 (by decide) (hT _ w893) (fun _ h9 => h9) rfl (fh_d d_Mo_setScripts 161 rfl) ?_
          refine lv_iload_n hx hb (fh_d d_Mo_setScripts 162 rfl) rfl (lv_at hl 3 rfl) ?_
          refine fn_iald (f := upd (A 26) n0 ((A 23) n0)) (k := u) hx hb hK hP 0 mkM_a26 rfl (rfl) (by omega) (by decide) (fh_d d_Mo_setScripts 163 rfl) ?_
          rw [show ((upd (A 26) n0 ((A 23) n0)) u) = (A 26) u from by simp only [upd_n (hun h0u)]]
          refine lv_iadd hx hb (fh_d d_Mo_setScripts 164 rfl) ?_
          refine fn_iast (f := upd (A 26) n0 ((A 23) n0)) (k := n0) hx hb hK hP hS 0 mkM_a26 rfl (rfl) (by omega) (by decide) (fh_d d_Mo_setScripts 165 rfl) (fun H locs hP hS => ?_)
          replace hP := fh_P.eq (h' := mkM ct x g (up2 (up2 (up2 (up2 (up2 (up2 (up2 (up2 (up2 A 25 (upd (A 25) n0 ((A 22) n0))) 26 (upd (A 26) n0 ((A 23) n0))) 27 (upd (A 27) n0 ((A 24) n0))) 28 (upd (A 28) n0 0)) 25 (upd (upd (A 25) n0 ((A 22) n0)) n0 (ms ((A 22) n0) (ms ((A 25) u) 0)))) 28 (upd (upd (A 28) n0 0) n0 (((ms ((A 22) n0) (ms ((A 25) u) 0)) - ((A 22) n0)) / 2))) 29 (upd (A 29) u (((ms ((A 22) n0) (ms ((A 25) u) 0)) - ((A 25) u)) / 2))) 30 (upd (A 30) u ((((A 23) n0) + (2 * (yT s0))) + ((A 27) u)))) 26 (upd (upd (A 26) n0 ((A 23) n0)) n0 (((((A 23) n0) + (2 * (yT s0))) + ((A 27) u)) + ((A 26) u)))) th co at_ wr no nu op pi wi he de) hP mkM_u26
          refine lv_iload_n hx hb (fh_d d_Mo_setScripts 166 rfl) rfl (lv_at hl 2 rfl) ?_
          refine lv_if_le (tgt := 331) hx hb (fh_d d_Mo_setScripts 167 rfl) rfl (fun c66 => ?_) (fun c66 => absurd c66 (fun z => z (by rw [h0l]; decide)))
          exact fh_vret X hP hS (fh_d d_Mo_setScripts 214 rfl) ⟨rfl, by unfold rf_sc; rw [if_neg h0u, if_pos h0l, if_neg hk0, if_pos hlm]; (try rfl), rfl⟩
        · skip
          refine lv_aload_n hx hb (fh_d d_Mo_setScripts 61 rfl) rfl (lv_at hl 4 rfl) ?_
          refine fh_get (own := "FormulaSetterModel") (ref := "FormulaSetterModel") (C := "FormulaSetterModel") (T := T_Mo) (N := 53) (v := .ref (x + 2)) hx hb hT i_Mo hown hK hP mkM_o rfl 7 (by decide) (hT _ w867) (fun _ h9 => h9) rfl (fh_d d_Mo_setScripts 62 rfl) ?_
          refine lv_iload_n hx hb (fh_d d_Mo_setScripts 63 rfl) rfl (lv_at hl 5 rfl) ?_
          refine fn_iald (f := A 1) (k := n0) hx hb hK hP 0 mkM_a1 rfl (rfl) (by omega) (by decide) (fh_d d_Mo_setScripts 64 rfl) ?_
          refine lv_iconst (v := 2) hx hb (fh_d d_Mo_setScripts 65 rfl) (by decide) ?_
          refine lv_icmp_ne (tgt := 332) hx hb (fh_d d_Mo_setScripts 66 rfl) rfl (fun c67 => ?_) (fun c67 => ?_)
          · exact J hlm H _ _ hP hS (lv_sub hl [3, 2, 1, 0, 4, 5] rfl)
          · refine lv_aload_n hx hb (fh_d d_Mo_setScripts 67 rfl) rfl (lv_at hl 4 rfl) ?_
            refine fh_get (own := "FormulaSetterModel") (ref := "FormulaSetterModel") (C := "FormulaSetterModel") (T := T_Mo) (N := 53) (v := .ref (x + 3)) hx hb hT i_Mo hown hK hP mkM_o rfl 8 (by decide) (hT _ w868) (fun _ h9 => h9) rfl (fh_d d_Mo_setScripts 68 rfl) ?_
            refine lv_iload_n hx hb (fh_d d_Mo_setScripts 69 rfl) rfl (lv_at hl 5 rfl) ?_
            refine fn_iald (f := A 2) (k := n0) hx hb hK hP 0 mkM_a2 rfl (rfl) (by omega) (by decide) (fh_d d_Mo_setScripts 70 rfl) ?_
            refine lv_bipush (v := 73) hx hb (fh_d d_Mo_setScripts 71 rfl) (by decide) ?_
            refine lv_icmp_eq (tgt := 332) hx hb (fh_d d_Mo_setScripts 72 rfl) rfl (fun c68 => ?_) (fun c68 => ?_)
            · exact J hlm H _ _ hP hS (lv_sub hl [3, 2, 1, 0, 4, 5] rfl)
            · refine lv_aload_n hx hb (fh_d d_Mo_setScripts 73 rfl) rfl (lv_at hl 4 rfl) ?_
              refine fh_get (own := "FormulaSetterModel") (ref := "FormulaSetterModel") (C := "FormulaSetterModel") (T := T_Mo) (N := 53) (v := .ref (x + 21)) hx hb hT i_Mo hown hK hP mkM_o rfl 27 (by decide) (hT _ w887) (fun _ h9 => h9) rfl (fh_d d_Mo_setScripts 74 rfl) ?_
              refine lv_iload_n hx hb (fh_d d_Mo_setScripts 75 rfl) rfl (lv_at hl 5 rfl) ?_
              refine fn_iald (f := A 20) (k := n0) hx hb hK hP 0 mkM_a20 rfl (rfl) (by omega) (by decide) (fh_d d_Mo_setScripts 76 rfl) ?_
              rw [show ((A 20) n0) = nI s0 from h20]
              refine lv_if_ne (tgt := 332) hx hb (fh_d d_Mo_setScripts 77 rfl) rfl (fun c69 => ?_) (fun c69 => absurd c69 (fun z => hlm ⟨by assumption, by assumption, nI_z hs0 z⟩))
              exact J hlm H _ _ hP hS (lv_sub hl [3, 2, 1, 0, 4, 5] rfl)
    · skip
      by_cases hk0 : A 1 n0 = 0
      · skip
        refine lv_aload_n hx hb (fh_d d_Mo_setScripts 0 rfl) rfl (lv_at hl 0 rfl) ?_
        refine fh_get (own := "FormulaSetterModel") (ref := "FormulaSetterModel") (C := "FormulaSetterModel") (T := T_Mo) (N := 53) (v := .ref (x + 13)) hx hb hT i_Mo hown hK hP mkM_o rfl 18 (by decide) (hT _ w878) (fun _ h9 => h9) rfl (fh_d d_Mo_setScripts 1 rfl) ?_
        refine lv_iload_n hx hb (fh_d d_Mo_setScripts 2 rfl) rfl (lv_at hl 1 rfl) ?_
        refine fn_iald (f := A 12) (k := n0) hx hb hK hP 0 mkM_a12 rfl (rfl) (by omega) (by decide) (fh_d d_Mo_setScripts 3 rfl) ?_
        rw [show ((A 12) n0) = nI u from h12]
        refine lv_istore_n (lv' := [(2, .int (nI u)), (0, .ref x), (1, .int (nI n0))]) hx hb (fh_d d_Mo_setScripts 4 rfl) rfl hl (by decide) rfl (fun ls hl => ?_)
        refine lv_aload_n hx hb (fh_d d_Mo_setScripts 5 rfl) rfl (lv_at hl 1 rfl) ?_
        refine fh_get (own := "FormulaSetterModel") (ref := "FormulaSetterModel") (C := "FormulaSetterModel") (T := T_Mo) (N := 53) (v := .ref (x + 14)) hx hb hT i_Mo hown hK hP mkM_o rfl 19 (by decide) (hT _ w879) (fun _ h9 => h9) rfl (fh_d d_Mo_setScripts 6 rfl) ?_
        refine lv_iload_n hx hb (fh_d d_Mo_setScripts 7 rfl) rfl (lv_at hl 2 rfl) ?_
        refine fn_iald (f := A 13) (k := n0) hx hb hK hP 0 mkM_a13 rfl (rfl) (by omega) (by decide) (fh_d d_Mo_setScripts 8 rfl) ?_
        rw [show ((A 13) n0) = nI lo from h13]
        refine lv_istore_n (lv' := [(3, .int (nI lo)), (2, .int (nI u)), (0, .ref x), (1, .int (nI n0))]) hx hb (fh_d d_Mo_setScripts 9 rfl) rfl hl (by decide) rfl (fun ls hl => ?_)
        refine lv_aload_n hx hb (fh_d d_Mo_setScripts 10 rfl) rfl (lv_at hl 2 rfl) ?_
        refine fh_get (own := "FormulaSetterModel") (ref := "FormulaSetterModel") (C := "FormulaSetterModel") (T := T_Mo) (N := 53) (v := .ref (x + 26)) hx hb hT i_Mo hown hK hP mkM_o rfl 32 (by decide) (hT _ w892) (fun _ h9 => h9) rfl (fh_d d_Mo_setScripts 11 rfl) ?_
        refine lv_iload_n hx hb (fh_d d_Mo_setScripts 12 rfl) rfl (lv_at hl 3 rfl) ?_
        refine lv_aload_n hx hb (fh_d d_Mo_setScripts 13 rfl) rfl (lv_at hl 2 rfl) ?_
        refine fh_get (own := "FormulaSetterModel") (ref := "FormulaSetterModel") (C := "FormulaSetterModel") (T := T_Mo) (N := 53) (v := .ref (x + 23)) hx hb hT i_Mo hown hK hP mkM_o rfl 29 (by decide) (hT _ w889) (fun _ h9 => h9) rfl (fh_d d_Mo_setScripts 14 rfl) ?_
        refine lv_iload_n hx hb (fh_d d_Mo_setScripts 15 rfl) rfl (lv_at hl 3 rfl) ?_
        refine fn_iald (f := A 22) (k := n0) hx hb hK hP 0 mkM_a22 rfl (rfl) (by omega) (by decide) (fh_d d_Mo_setScripts 16 rfl) ?_
        refine fn_iast (f := A 25) (k := n0) hx hb hK hP hS 0 mkM_a25 rfl (rfl) (by omega) (by decide) (fh_d d_Mo_setScripts 17 rfl) (fun H locs hP hS => ?_)
        replace hP := fh_P.eq (h' := mkM ct x g (up2 A 25 (upd (A 25) n0 ((A 22) n0))) th co at_ wr no nu op pi wi he de) hP mkM_u25
        refine lv_aload_n hx hb (fh_d d_Mo_setScripts 18 rfl) rfl (lv_at hl 2 rfl) ?_
        refine fh_get (own := "FormulaSetterModel") (ref := "FormulaSetterModel") (C := "FormulaSetterModel") (T := T_Mo) (N := 53) (v := .ref (x + 27)) hx hb hT i_Mo hown hK hP mkM_o rfl 33 (by decide) (hT _ w893) (fun _ h9 => h9) rfl (fh_d d_Mo_setScripts 19 rfl) ?_
        refine lv_iload_n hx hb (fh_d d_Mo_setScripts 20 rfl) rfl (lv_at hl 3 rfl) ?_
        refine lv_aload_n hx hb (fh_d d_Mo_setScripts 21 rfl) rfl (lv_at hl 2 rfl) ?_
        refine fh_get (own := "FormulaSetterModel") (ref := "FormulaSetterModel") (C := "FormulaSetterModel") (T := T_Mo) (N := 53) (v := .ref (x + 24)) hx hb hT i_Mo hown hK hP mkM_o rfl 30 (by decide) (hT _ w890) (fun _ h9 => h9) rfl (fh_d d_Mo_setScripts 22 rfl) ?_
        refine lv_iload_n hx hb (fh_d d_Mo_setScripts 23 rfl) rfl (lv_at hl 3 rfl) ?_
        refine fn_iald (f := A 23) (k := n0) hx hb hK hP 0 mkM_a23 rfl (rfl) (by omega) (by decide) (fh_d d_Mo_setScripts 24 rfl) ?_
        refine fn_iast (f := A 26) (k := n0) hx hb hK hP hS 0 mkM_a26 rfl (rfl) (by omega) (by decide) (fh_d d_Mo_setScripts 25 rfl) (fun H locs hP hS => ?_)
        replace hP := fh_P.eq (h' := mkM ct x g (up2 (up2 A 25 (upd (A 25) n0 ((A 22) n0))) 26 (upd (A 26) n0 ((A 23) n0))) th co at_ wr no nu op pi wi he de) hP mkM_u26
        refine lv_aload_n hx hb (fh_d d_Mo_setScripts 26 rfl) rfl (lv_at hl 2 rfl) ?_
        refine fh_get (own := "FormulaSetterModel") (ref := "FormulaSetterModel") (C := "FormulaSetterModel") (T := T_Mo) (N := 53) (v := .ref (x + 28)) hx hb hT i_Mo hown hK hP mkM_o rfl 34 (by decide) (hT _ w894) (fun _ h9 => h9) rfl (fh_d d_Mo_setScripts 27 rfl) ?_
        refine lv_iload_n hx hb (fh_d d_Mo_setScripts 28 rfl) rfl (lv_at hl 3 rfl) ?_
        refine lv_aload_n hx hb (fh_d d_Mo_setScripts 29 rfl) rfl (lv_at hl 2 rfl) ?_
        refine fh_get (own := "FormulaSetterModel") (ref := "FormulaSetterModel") (C := "FormulaSetterModel") (T := T_Mo) (N := 53) (v := .ref (x + 25)) hx hb hT i_Mo hown hK hP mkM_o rfl 31 (by decide) (hT _ w891) (fun _ h9 => h9) rfl (fh_d d_Mo_setScripts 30 rfl) ?_
        refine lv_iload_n hx hb (fh_d d_Mo_setScripts 31 rfl) rfl (lv_at hl 3 rfl) ?_
        refine fn_iald (f := A 24) (k := n0) hx hb hK hP 0 mkM_a24 rfl (rfl) (by omega) (by decide) (fh_d d_Mo_setScripts 32 rfl) ?_
        refine fn_iast (f := A 27) (k := n0) hx hb hK hP hS 0 mkM_a27 rfl (rfl) (by omega) (by decide) (fh_d d_Mo_setScripts 33 rfl) (fun H locs hP hS => ?_)
        replace hP := fh_P.eq (h' := mkM ct x g (up2 (up2 (up2 A 25 (upd (A 25) n0 ((A 22) n0))) 26 (upd (A 26) n0 ((A 23) n0))) 27 (upd (A 27) n0 ((A 24) n0))) th co at_ wr no nu op pi wi he de) hP mkM_u27
        refine lv_aload_n hx hb (fh_d d_Mo_setScripts 34 rfl) rfl (lv_at hl 2 rfl) ?_
        refine fh_get (own := "FormulaSetterModel") (ref := "FormulaSetterModel") (C := "FormulaSetterModel") (T := T_Mo) (N := 53) (v := .ref (x + 29)) hx hb hT i_Mo hown hK hP mkM_o rfl 35 (by decide) (hT _ w895) (fun _ h9 => h9) rfl (fh_d d_Mo_setScripts 35 rfl) ?_
        refine lv_iload_n hx hb (fh_d d_Mo_setScripts 36 rfl) rfl (lv_at hl 3 rfl) ?_
        refine lv_iconst (v := 0) hx hb (fh_d d_Mo_setScripts 37 rfl) (by decide) ?_
        refine fn_iast (f := A 28) (k := n0) hx hb hK hP hS 0 mkM_a28 rfl (rfl) (by omega) (by decide) (fh_d d_Mo_setScripts 38 rfl) (fun H locs hP hS => ?_)
        replace hP := fh_P.eq (h' := mkM ct x g (up2 (up2 (up2 (up2 A 25 (upd (A 25) n0 ((A 22) n0))) 26 (upd (A 26) n0 ((A 23) n0))) 27 (upd (A 27) n0 ((A 24) n0))) 28 (upd (A 28) n0 0)) th co at_ wr no nu op pi wi he de) hP mkM_u28
        refine lv_iload_n hx hb (fh_d d_Mo_setScripts 39 rfl) rfl (lv_at hl 1 rfl) ?_
        refine lv_if_ne (tgt := 65) hx hb (fh_d d_Mo_setScripts 40 rfl) rfl (fun c70 => ?_) (fun c70 => absurd c70 (fun z => h0u (nI_z4 hu z)))
        refine lv_aload_n hx hb (fh_d d_Mo_setScripts 43 rfl) rfl (lv_at hl 2 rfl) ?_
        refine fh_get (own := "FormulaSetterModel") (ref := "FormulaSetterModel") (C := "FormulaSetterModel") (T := T_Mo) (N := 53) (v := .ref (x + 2)) hx hb hT i_Mo hown hK hP mkM_o rfl 7 (by decide) (hT _ w867) (fun _ h9 => h9) rfl (fh_d d_Mo_setScripts 44 rfl) ?_
        refine lv_iload_n hx hb (fh_d d_Mo_setScripts 45 rfl) rfl (lv_at hl 3 rfl) ?_
        refine fn_iald (f := A 1) (k := n0) hx hb hK hP 0 mkM_a1 rfl (rfl) (by omega) (by decide) (fh_d d_Mo_setScripts 46 rfl) ?_
        refine lv_if_ne (tgt := 75) hx hb (fh_d d_Mo_setScripts 47 rfl) rfl (fun c71 => absurd c71 (Classical.not_not.mpr (hk0))) (fun c71 => ?_)
        exact fh_vret X hP hS (fh_d d_Mo_setScripts 48 rfl) ⟨rfl, by unfold rf_sc; rw [if_neg h0u, if_neg h0l, if_pos hk0]; (try rfl), rfl⟩
      · skip
        refine lv_aload_n hx hb (fh_d d_Mo_setScripts 0 rfl) rfl (lv_at hl 0 rfl) ?_
        refine fh_get (own := "FormulaSetterModel") (ref := "FormulaSetterModel") (C := "FormulaSetterModel") (T := T_Mo) (N := 53) (v := .ref (x + 13)) hx hb hT i_Mo hown hK hP mkM_o rfl 18 (by decide) (hT _ w878) (fun _ h9 => h9) rfl (fh_d d_Mo_setScripts 1 rfl) ?_
        refine lv_iload_n hx hb (fh_d d_Mo_setScripts 2 rfl) rfl (lv_at hl 1 rfl) ?_
        refine fn_iald (f := A 12) (k := n0) hx hb hK hP 0 mkM_a12 rfl (rfl) (by omega) (by decide) (fh_d d_Mo_setScripts 3 rfl) ?_
        rw [show ((A 12) n0) = nI u from h12]
        refine lv_istore_n (lv' := [(2, .int (nI u)), (0, .ref x), (1, .int (nI n0))]) hx hb (fh_d d_Mo_setScripts 4 rfl) rfl hl (by decide) rfl (fun ls hl => ?_)
        refine lv_aload_n hx hb (fh_d d_Mo_setScripts 5 rfl) rfl (lv_at hl 1 rfl) ?_
        refine fh_get (own := "FormulaSetterModel") (ref := "FormulaSetterModel") (C := "FormulaSetterModel") (T := T_Mo) (N := 53) (v := .ref (x + 14)) hx hb hT i_Mo hown hK hP mkM_o rfl 19 (by decide) (hT _ w879) (fun _ h9 => h9) rfl (fh_d d_Mo_setScripts 6 rfl) ?_
        refine lv_iload_n hx hb (fh_d d_Mo_setScripts 7 rfl) rfl (lv_at hl 2 rfl) ?_
        refine fn_iald (f := A 13) (k := n0) hx hb hK hP 0 mkM_a13 rfl (rfl) (by omega) (by decide) (fh_d d_Mo_setScripts 8 rfl) ?_
        rw [show ((A 13) n0) = nI lo from h13]
        refine lv_istore_n (lv' := [(3, .int (nI lo)), (2, .int (nI u)), (0, .ref x), (1, .int (nI n0))]) hx hb (fh_d d_Mo_setScripts 9 rfl) rfl hl (by decide) rfl (fun ls hl => ?_)
        refine lv_aload_n hx hb (fh_d d_Mo_setScripts 10 rfl) rfl (lv_at hl 2 rfl) ?_
        refine fh_get (own := "FormulaSetterModel") (ref := "FormulaSetterModel") (C := "FormulaSetterModel") (T := T_Mo) (N := 53) (v := .ref (x + 26)) hx hb hT i_Mo hown hK hP mkM_o rfl 32 (by decide) (hT _ w892) (fun _ h9 => h9) rfl (fh_d d_Mo_setScripts 11 rfl) ?_
        refine lv_iload_n hx hb (fh_d d_Mo_setScripts 12 rfl) rfl (lv_at hl 3 rfl) ?_
        refine lv_aload_n hx hb (fh_d d_Mo_setScripts 13 rfl) rfl (lv_at hl 2 rfl) ?_
        refine fh_get (own := "FormulaSetterModel") (ref := "FormulaSetterModel") (C := "FormulaSetterModel") (T := T_Mo) (N := 53) (v := .ref (x + 23)) hx hb hT i_Mo hown hK hP mkM_o rfl 29 (by decide) (hT _ w889) (fun _ h9 => h9) rfl (fh_d d_Mo_setScripts 14 rfl) ?_
        refine lv_iload_n hx hb (fh_d d_Mo_setScripts 15 rfl) rfl (lv_at hl 3 rfl) ?_
        refine fn_iald (f := A 22) (k := n0) hx hb hK hP 0 mkM_a22 rfl (rfl) (by omega) (by decide) (fh_d d_Mo_setScripts 16 rfl) ?_
        refine fn_iast (f := A 25) (k := n0) hx hb hK hP hS 0 mkM_a25 rfl (rfl) (by omega) (by decide) (fh_d d_Mo_setScripts 17 rfl) (fun H locs hP hS => ?_)
        replace hP := fh_P.eq (h' := mkM ct x g (up2 A 25 (upd (A 25) n0 ((A 22) n0))) th co at_ wr no nu op pi wi he de) hP mkM_u25
        refine lv_aload_n hx hb (fh_d d_Mo_setScripts 18 rfl) rfl (lv_at hl 2 rfl) ?_
        refine fh_get (own := "FormulaSetterModel") (ref := "FormulaSetterModel") (C := "FormulaSetterModel") (T := T_Mo) (N := 53) (v := .ref (x + 27)) hx hb hT i_Mo hown hK hP mkM_o rfl 33 (by decide) (hT _ w893) (fun _ h9 => h9) rfl (fh_d d_Mo_setScripts 19 rfl) ?_
        refine lv_iload_n hx hb (fh_d d_Mo_setScripts 20 rfl) rfl (lv_at hl 3 rfl) ?_
        refine lv_aload_n hx hb (fh_d d_Mo_setScripts 21 rfl) rfl (lv_at hl 2 rfl) ?_
        refine fh_get (own := "FormulaSetterModel") (ref := "FormulaSetterModel") (C := "FormulaSetterModel") (T := T_Mo) (N := 53) (v := .ref (x + 24)) hx hb hT i_Mo hown hK hP mkM_o rfl 30 (by decide) (hT _ w890) (fun _ h9 => h9) rfl (fh_d d_Mo_setScripts 22 rfl) ?_
        refine lv_iload_n hx hb (fh_d d_Mo_setScripts 23 rfl) rfl (lv_at hl 3 rfl) ?_
        refine fn_iald (f := A 23) (k := n0) hx hb hK hP 0 mkM_a23 rfl (rfl) (by omega) (by decide) (fh_d d_Mo_setScripts 24 rfl) ?_
        refine fn_iast (f := A 26) (k := n0) hx hb hK hP hS 0 mkM_a26 rfl (rfl) (by omega) (by decide) (fh_d d_Mo_setScripts 25 rfl) (fun H locs hP hS => ?_)
        replace hP := fh_P.eq (h' := mkM ct x g (up2 (up2 A 25 (upd (A 25) n0 ((A 22) n0))) 26 (upd (A 26) n0 ((A 23) n0))) th co at_ wr no nu op pi wi he de) hP mkM_u26
        refine lv_aload_n hx hb (fh_d d_Mo_setScripts 26 rfl) rfl (lv_at hl 2 rfl) ?_
        refine fh_get (own := "FormulaSetterModel") (ref := "FormulaSetterModel") (C := "FormulaSetterModel") (T := T_Mo) (N := 53) (v := .ref (x + 28)) hx hb hT i_Mo hown hK hP mkM_o rfl 34 (by decide) (hT _ w894) (fun _ h9 => h9) rfl (fh_d d_Mo_setScripts 27 rfl) ?_
        refine lv_iload_n hx hb (fh_d d_Mo_setScripts 28 rfl) rfl (lv_at hl 3 rfl) ?_
        refine lv_aload_n hx hb (fh_d d_Mo_setScripts 29 rfl) rfl (lv_at hl 2 rfl) ?_
        refine fh_get (own := "FormulaSetterModel") (ref := "FormulaSetterModel") (C := "FormulaSetterModel") (T := T_Mo) (N := 53) (v := .ref (x + 25)) hx hb hT i_Mo hown hK hP mkM_o rfl 31 (by decide) (hT _ w891) (fun _ h9 => h9) rfl (fh_d d_Mo_setScripts 30 rfl) ?_
        refine lv_iload_n hx hb (fh_d d_Mo_setScripts 31 rfl) rfl (lv_at hl 3 rfl) ?_
        refine fn_iald (f := A 24) (k := n0) hx hb hK hP 0 mkM_a24 rfl (rfl) (by omega) (by decide) (fh_d d_Mo_setScripts 32 rfl) ?_
        refine fn_iast (f := A 27) (k := n0) hx hb hK hP hS 0 mkM_a27 rfl (rfl) (by omega) (by decide) (fh_d d_Mo_setScripts 33 rfl) (fun H locs hP hS => ?_)
        replace hP := fh_P.eq (h' := mkM ct x g (up2 (up2 (up2 A 25 (upd (A 25) n0 ((A 22) n0))) 26 (upd (A 26) n0 ((A 23) n0))) 27 (upd (A 27) n0 ((A 24) n0))) th co at_ wr no nu op pi wi he de) hP mkM_u27
        refine lv_aload_n hx hb (fh_d d_Mo_setScripts 34 rfl) rfl (lv_at hl 2 rfl) ?_
        refine fh_get (own := "FormulaSetterModel") (ref := "FormulaSetterModel") (C := "FormulaSetterModel") (T := T_Mo) (N := 53) (v := .ref (x + 29)) hx hb hT i_Mo hown hK hP mkM_o rfl 35 (by decide) (hT _ w895) (fun _ h9 => h9) rfl (fh_d d_Mo_setScripts 35 rfl) ?_
        refine lv_iload_n hx hb (fh_d d_Mo_setScripts 36 rfl) rfl (lv_at hl 3 rfl) ?_
        refine lv_iconst (v := 0) hx hb (fh_d d_Mo_setScripts 37 rfl) (by decide) ?_
        refine fn_iast (f := A 28) (k := n0) hx hb hK hP hS 0 mkM_a28 rfl (rfl) (by omega) (by decide) (fh_d d_Mo_setScripts 38 rfl) (fun H locs hP hS => ?_)
        replace hP := fh_P.eq (h' := mkM ct x g (up2 (up2 (up2 (up2 A 25 (upd (A 25) n0 ((A 22) n0))) 26 (upd (A 26) n0 ((A 23) n0))) 27 (upd (A 27) n0 ((A 24) n0))) 28 (upd (A 28) n0 0)) th co at_ wr no nu op pi wi he de) hP mkM_u28
        refine lv_iload_n hx hb (fh_d d_Mo_setScripts 39 rfl) rfl (lv_at hl 1 rfl) ?_
        refine lv_if_ne (tgt := 65) hx hb (fh_d d_Mo_setScripts 40 rfl) rfl (fun c72 => ?_) (fun c72 => absurd c72 (fun z => h0u (nI_z4 hu z)))
        refine lv_aload_n hx hb (fh_d d_Mo_setScripts 43 rfl) rfl (lv_at hl 2 rfl) ?_
        refine fh_get (own := "FormulaSetterModel") (ref := "FormulaSetterModel") (C := "FormulaSetterModel") (T := T_Mo) (N := 53) (v := .ref (x + 2)) hx hb hT i_Mo hown hK hP mkM_o rfl 7 (by decide) (hT _ w867) (fun _ h9 => h9) rfl (fh_d d_Mo_setScripts 44 rfl) ?_
        refine lv_iload_n hx hb (fh_d d_Mo_setScripts 45 rfl) rfl (lv_at hl 3 rfl) ?_
        refine fn_iald (f := A 1) (k := n0) hx hb hK hP 0 mkM_a1 rfl (rfl) (by omega) (by decide) (fh_d d_Mo_setScripts 46 rfl) ?_
        refine lv_if_ne (tgt := 75) hx hb (fh_d d_Mo_setScripts 47 rfl) rfl (fun c73 => ?_) (fun c73 => absurd c73 (hk0))
        refine lv_aload_n hx hb (fh_d d_Mo_setScripts 49 rfl) rfl (lv_at hl 2 rfl) ?_
        refine fh_get (own := "FormulaSetterModel") (ref := "FormulaSetterModel") (C := "FormulaSetterModel") (T := T_Mo) (N := 53) (v := .ref (x + 21)) hx hb hT i_Mo hown hK hP mkM_o rfl 27 (by decide) (hT _ w887) (fun _ h9 => h9) rfl (fh_d d_Mo_setScripts 50 rfl) ?_
        refine lv_iload_n hx hb (fh_d d_Mo_setScripts 51 rfl) rfl (lv_at hl 3 rfl) ?_
        refine fn_iald (f := A 20) (k := n0) hx hb hK hP 0 mkM_a20 rfl (rfl) (by omega) (by decide) (fh_d d_Mo_setScripts 52 rfl) ?_
        rw [show ((A 20) n0) = nI s0 from h20]
        refine fh_callS (cc' := c_Mo_zOf) (nL' := 1) (rest := []) (av := [.int (nI s0)]) X hR (m_Mo_zO l D ct b RO hR (r - 1) (by omega) n s0 hs0 (mkM ct x g (up2 (up2 (up2 (up2 A 25 (upd (A 25) n0 ((A 22) n0))) 26 (upd (A 26) n0 ((A 23) n0))) 27 (upd (A 27) n0 ((A 24) n0))) 28 (upd (A 28) n0 0)) th co at_ wr no nu op pi wi he de)) w1139 w1137 w1138 w9 ⟨by decide, by decide, by show _ = some 1; decide +kernel⟩ (by omega) (by decide) hP hS hl.1 rfl (by exact Nat.le_of_ble_eq_true rfl) (fh_d d_Mo_setScripts 53 rfl) ⟨Nat.le_refl _, Nat.le_refl _⟩ (fun v9 h9 n9 H locs hq hP hS => ?_)
        obtain ⟨rfl, q74a, q74b⟩ := hq
        rw [q74a, q74b] at hP
        refine W.eq (g2 := F0 m 84 ls [.int (yS s0)]) rfl ?_
        refine lv_istore (lv' := [(4, .int (yS s0)), (3, .int (nI lo)), (2, .int (nI u)), (0, .ref x), (1, .int (nI n0))]) hx hb (fh_d d_Mo_setScripts 54 rfl) hl (by decide) rfl (fun ls hl => ?_)
        refine lv_aload_n hx hb (fh_d d_Mo_setScripts 55 rfl) rfl (lv_at hl 3 rfl) ?_
        refine fh_get (own := "FormulaSetterModel") (ref := "FormulaSetterModel") (C := "FormulaSetterModel") (T := T_Mo) (N := 53) (v := .ref (x + 21)) hx hb hT i_Mo hown hK hP mkM_o rfl 27 (by decide) (hT _ w887) (fun _ h9 => h9) rfl (fh_d d_Mo_setScripts 56 rfl) ?_
        refine lv_iload_n hx hb (fh_d d_Mo_setScripts 57 rfl) rfl (lv_at hl 4 rfl) ?_
        refine fn_iald (f := A 20) (k := n0) hx hb hK hP 0 mkM_a20 rfl (rfl) (by omega) (by decide) (fh_d d_Mo_setScripts 58 rfl) ?_
        rw [show ((A 20) n0) = nI s0 from h20]
        refine fh_callS (cc' := c_Mo_tOf) (nL' := 1) (rest := []) (av := [.int (nI s0)]) X hR (m_Mo_tO l D ct b RO hR (r - 1) (by omega) n s0 hs0 (mkM ct x g (up2 (up2 (up2 (up2 A 25 (upd (A 25) n0 ((A 22) n0))) 26 (upd (A 26) n0 ((A 23) n0))) 27 (upd (A 27) n0 ((A 24) n0))) 28 (upd (A 28) n0 0)) th co at_ wr no nu op pi wi he de)) w1174 w1172 w1173 w9 ⟨by decide, by decide, by show _ = some 1; decide +kernel⟩ (by omega) (by decide) hP hS hl.1 rfl (by exact Nat.le_of_ble_eq_true rfl) (fh_d d_Mo_setScripts 59 rfl) ⟨Nat.le_refl _, Nat.le_refl _⟩ (fun v9 h9 n9 H locs hq hP hS => ?_)
        obtain ⟨rfl, q75a, q75b⟩ := hq
        rw [q75a, q75b] at hP
        refine W.eq (g2 := F0 m 95 ls [.int (yT s0)]) rfl ?_
        refine lv_istore (lv' := [(5, .int (yT s0)), (4, .int (yS s0)), (3, .int (nI lo)), (2, .int (nI u)), (0, .ref x), (1, .int (nI n0))]) hx hb (fh_d d_Mo_setScripts 60 rfl) hl (by decide) rfl (fun ls hl => ?_)
        have J : ∀ (hlm : ¬ (A 1 n0 = 2 ∧ ¬ A 2 n0 = 73 ∧ s0 = 0)) (H : Heap) (locs : List Loc) (ls : Array Slot), fh_P D fh_cl b (mkM ct x g (up2 (up2 (up2 (up2 A 25 (upd (A 25) n0 ((A 22) n0))) 26 (upd (A 26) n0 ((A 23) n0))) 27 (upd (A 27) n0 ((A 24) n0))) 28 (upd (A 28) n0 0)) th co at_ wr no nu op pi wi he de) n H → va_S (fh_A b) s.heap H locs → lv_has ls 10 [(2, .int (nI u)), (3, .int (nI lo)), (4, .int (yS s0)), (5, .int (yT s0)), (0, .ref x), (1, .int (nI n0))] → W p l e (fh_rm r 0 0) s m args below meth c H locs 0 0 (MQ below (fh_Post D fh_cl b (fun v h' n' => v = none ∧ h' = mkM ct x g (rf_sc A n0 s0 u lo) th co at_ wr no nu op pi wi he de ∧ n' = n)) args s 0 0 (fh_A b)) (F0 m 332 ls []) := by
          intro hlm H locs ls hP hS hl
          by_cases hcr : A 21 n0 = 0
          · skip
            refine lv_iconst (v := 0) hx hb (fh_d d_Mo_setScripts 215 rfl) (by decide) ?_
            refine lv_istore (lv' := [(6, .int 0), (2, .int (nI u)), (3, .int (nI lo)), (4, .int (yS s0)), (5, .int (yT s0)), (0, .ref x), (1, .int (nI n0))]) hx hb (fh_d d_Mo_setScripts 216 rfl) hl (by decide) rfl (fun ls hl => ?_)
            refine lv_aload_n hx hb (fh_d d_Mo_setScripts 217 rfl) rfl (lv_at hl 5 rfl) ?_
            refine fh_get (own := "FormulaSetterModel") (ref := "FormulaSetterModel") (C := "FormulaSetterModel") (T := T_Mo) (N := 53) (v := .ref (x + 23)) hx hb hT i_Mo hown hK hP mkM_o rfl 29 (by decide) (hT _ w889) (fun _ h9 => h9) rfl (fh_d d_Mo_setScripts 218 rfl) ?_
            refine lv_iload_n hx hb (fh_d d_Mo_setScripts 219 rfl) rfl (lv_at hl 6 rfl) ?_
            refine fn_iald (f := A 22) (k := n0) hx hb hK hP 0 mkM_a22 rfl (rfl) (by omega) (by decide) (fh_d d_Mo_setScripts 220 rfl) ?_
            refine lv_istore (lv' := [(7, .int ((A 22) n0)), (6, .int 0), (2, .int (nI u)), (3, .int (nI lo)), (4, .int (yS s0)), (5, .int (yT s0)), (0, .ref x), (1, .int (nI n0))]) hx hb (fh_d d_Mo_setScripts 221 rfl) hl (by decide) rfl (fun ls hl => ?_)
            refine lv_iload_n hx hb (fh_d d_Mo_setScripts 222 rfl) rfl (lv_at hl 2 rfl) ?_
            refine lv_if_le (tgt := 454) hx hb (fh_d d_Mo_setScripts 223 rfl) rfl (fun c76 => absurd c76 (nI_np ⟨Nat.pos_of_ne_zero h0u, hu⟩)) (fun c76 => ?_)
            refine lv_aload_n hx hb (fh_d d_Mo_setScripts 224 rfl) rfl (lv_at hl 6 rfl) ?_
            refine fh_get (own := "FormulaSetterModel") (ref := "FormulaSetterModel") (C := "FormulaSetterModel") (T := T_Mo) (N := 53) (v := .ref (x + 22)) hx hb hT i_Mo hown hK hP mkM_o rfl 28 (by decide) (hT _ w888) (fun _ h9 => h9) rfl (fh_d d_Mo_setScripts 225 rfl) ?_
            refine lv_iload_n hx hb (fh_d d_Mo_setScripts 226 rfl) rfl (lv_at hl 7 rfl) ?_
            refine fn_zald (f := A 21) (k := n0) hx hb hK hP 3 mkM_a21 rfl (rfl) (by omega) (by decide) (fh_d d_Mo_setScripts 227 rfl) ?_
            refine lv_if_eq (tgt := 363) hx hb (fh_d d_Mo_setScripts 228 rfl) rfl (fun c77 => ?_) (fun c77 => absurd c77 (Classical.not_not.mpr (hcr)))
            refine lv_iconst (v := 4) hx hb (fh_d d_Mo_setScripts 233 rfl) (by decide) ?_
            refine lv_iload hx hb (fh_d d_Mo_setScripts 234 rfl) (lv_at hl 4 rfl) ?_
            refine lv_imul hx hb (fh_d d_Mo_setScripts 235 rfl) ?_
            refine lv_aload_n hx hb (fh_d d_Mo_setScripts 236 rfl) rfl (lv_at hl 6 rfl) ?_
            refine fh_get (own := "FormulaSetterModel") (ref := "FormulaSetterModel") (C := "FormulaSetterModel") (T := T_Mo) (N := 53) (v := .ref (x + 24)) hx hb hT i_Mo hown hK hP mkM_o rfl 30 (by decide) (hT _ w890) (fun _ h9 => h9) rfl (fh_d d_Mo_setScripts 237 rfl) ?_
            refine lv_iload_n hx hb (fh_d d_Mo_setScripts 238 rfl) rfl (lv_at hl 7 rfl) ?_
            refine fn_iald (f := A 23) (k := n0) hx hb hK hP 0 mkM_a23 rfl (rfl) (by omega) (by decide) (fh_d d_Mo_setScripts 239 rfl) ?_
            refine lv_iconst (v := 2) hx hb (fh_d d_Mo_setScripts 240 rfl) (by decide) ?_
            refine lv_iload hx hb (fh_d d_Mo_setScripts 241 rfl) (lv_at hl 4 rfl) ?_
            refine lv_imul hx hb (fh_d d_Mo_setScripts 242 rfl) ?_
            refine lv_isub hx hb (fh_d d_Mo_setScripts 243 rfl) ?_
            refine fh_callS (cc' := c_Mo_most) (nL' := 2) (rest := []) (av := [.int (4 * (yS s0)), .int (((A 23) n0) - (2 * (yS s0)))]) X hR (m_Mo_most l D ct b RO (r - 1) n (4 * (yS s0)) (((A 23) n0) - (2 * (yS s0))) (mkM ct x g (up2 (up2 (up2 (up2 A 25 (upd (A 25) n0 ((A 22) n0))) 26 (upd (A 26) n0 ((A 23) n0))) 27 (upd (A 27) n0 ((A 24) n0))) 28 (upd (A 28) n0 0)) th co at_ wr no nu op pi wi he de)) w1151 w1149 w1150 w9 ⟨by decide, by decide, by show _ = some 2; decide +kernel⟩ (by omega) (by decide) hP hS hl.1 rfl (by exact Nat.le_of_ble_eq_true rfl) (fh_d d_Mo_setScripts 244 rfl) ⟨Nat.le_refl _, Nat.le_refl _⟩ (fun v9 h9 n9 H locs hq hP hS => ?_)
            obtain ⟨rfl, q78a, q78b⟩ := hq
            rw [q78a, q78b] at hP
            refine W.eq (g2 := F0 m 381 ls [.int (ms (4 * (yS s0)) (((A 23) n0) - (2 * (yS s0))))]) rfl ?_
            refine lv_aload_n hx hb (fh_d d_Mo_setScripts 245 rfl) rfl (lv_at hl 6 rfl) ?_
            refine fh_get (own := "FormulaSetterModel") (ref := "FormulaSetterModel") (C := "FormulaSetterModel") (T := T_Mo) (N := 53) (v := .ref (x + 28)) hx hb hT i_Mo hown hK hP mkM_o rfl 34 (by decide) (hT _ w894) (fun _ h9 => h9) rfl (fh_d d_Mo_setScripts 246 rfl) ?_
            refine lv_iload_n hx hb (fh_d d_Mo_setScripts 247 rfl) rfl (lv_at hl 2 rfl) ?_
            refine fn_iald (f := upd (A 27) n0 ((A 24) n0)) (k := u) hx hb hK hP 0 mkM_a27 rfl (rfl) (by omega) (by decide) (fh_d d_Mo_setScripts 248 rfl) ?_
            rw [show ((upd (A 27) n0 ((A 24) n0)) u) = (A 27) u from by simp only [upd_n (hun h0u)]]
            refine lv_iload hx hb (fh_d d_Mo_setScripts 249 rfl) (lv_at hl 4 rfl) ?_
            refine lv_iadd hx hb (fh_d d_Mo_setScripts 250 rfl) ?_
            refine fh_callS (cc' := c_Mo_most) (nL' := 2) (rest := []) (av := [.int (ms (4 * (yS s0)) (((A 23) n0) - (2 * (yS s0)))), .int (((A 27) u) + (yS s0))]) X hR (m_Mo_most l D ct b RO (r - 1) n (ms (4 * (yS s0)) (((A 23) n0) - (2 * (yS s0)))) (((A 27) u) + (yS s0)) (mkM ct x g (up2 (up2 (up2 (up2 A 25 (upd (A 25) n0 ((A 22) n0))) 26 (upd (A 26) n0 ((A 23) n0))) 27 (upd (A 27) n0 ((A 24) n0))) 28 (upd (A 28) n0 0)) th co at_ wr no nu op pi wi he de)) w1151 w1149 w1150 w9 ⟨by decide, by decide, by show _ = some 2; decide +kernel⟩ (by omega) (by decide) hP hS hl.1 rfl (by exact Nat.le_of_ble_eq_true rfl) (fh_d d_Mo_setScripts 251 rfl) ⟨Nat.le_refl _, Nat.le_refl _⟩ (fun v9 h9 n9 H locs hq hP hS => ?_)
            obtain ⟨rfl, q79a, q79b⟩ := hq
            rw [q79a, q79b] at hP
            refine W.eq (g2 := F0 m 393 ls [.int (ms (ms (4 * (yS s0)) (((A 23) n0) - (2 * (yS s0)))) (((A 27) u) + (yS s0)))]) rfl ?_
            refine lv_istore (lv' := [(6, .int (ms (ms (4 * (yS s0)) (((A 23) n0) - (2 * (yS s0)))) (((A 27) u) + (yS s0)))), (7, .int ((A 22) n0)), (2, .int (nI u)), (3, .int (nI lo)), (4, .int (yS s0)), (5, .int (yT s0)), (0, .ref x), (1, .int (nI n0))]) hx hb (fh_d d_Mo_setScripts 252 rfl) hl (by decide) rfl (fun ls hl => ?_)
            refine lv_aload_n hx hb (fh_d d_Mo_setScripts 253 rfl) rfl (lv_at hl 6 rfl) ?_
            refine fh_get (own := "FormulaSetterModel") (ref := "FormulaSetterModel") (C := "FormulaSetterModel") (T := T_Mo) (N := 53) (v := .ref (x + 30)) hx hb hT i_Mo hown hK hP mkM_o rfl 36 (by decide) (hT _ w896) (fun _ h9 => h9) rfl (fh_d d_Mo_setScripts 254 rfl) ?_
            refine lv_iload_n hx hb (fh_d d_Mo_setScripts 255 rfl) rfl (lv_at hl 2 rfl) ?_
            refine lv_aload_n hx hb (fh_d d_Mo_setScripts 256 rfl) rfl (lv_at hl 6 rfl) ?_
            refine fh_get (own := "FormulaSetterModel") (ref := "FormulaSetterModel") (C := "FormulaSetterModel") (T := T_Mo) (N := 53) (v := .ref (x + 23)) hx hb hT i_Mo hown hK hP mkM_o rfl 29 (by decide) (hT _ w889) (fun _ h9 => h9) rfl (fh_d d_Mo_setScripts 257 rfl) ?_
            refine lv_iload_n hx hb (fh_d d_Mo_setScripts 258 rfl) rfl (lv_at hl 7 rfl) ?_
            refine fn_iald (f := A 22) (k := n0) hx hb hK hP 0 mkM_a22 rfl (rfl) (by omega) (by decide) (fh_d d_Mo_setScripts 259 rfl) ?_
            refine fn_iast (f := A 29) (k := u) hx hb hK hP hS 0 mkM_a29 rfl (rfl) (by omega) (by decide) (fh_d d_Mo_setScripts 260 rfl) (fun H locs hP hS => ?_)
            replace hP := fh_P.eq (h' := mkM ct x g (up2 (up2 (up2 (up2 (up2 A 25 (upd (A 25) n0 ((A 22) n0))) 26 (upd (A 26) n0 ((A 23) n0))) 27 (upd (A 27) n0 ((A 24) n0))) 28 (upd (A 28) n0 0)) 29 (upd (A 29) u ((A 22) n0))) th co at_ wr no nu op pi wi he de) hP mkM_u29
            refine lv_aload_n hx hb (fh_d d_Mo_setScripts 261 rfl) rfl (lv_at hl 6 rfl) ?_
            refine fh_get (own := "FormulaSetterModel") (ref := "FormulaSetterModel") (C := "FormulaSetterModel") (T := T_Mo) (N := 53) (v := .ref (x + 31)) hx hb hT i_Mo hown hK hP mkM_o rfl 37 (by decide) (hT _ w897) (fun _ h9 => h9) rfl (fh_d d_Mo_setScripts 262 rfl) ?_
            refine lv_iload_n hx hb (fh_d d_Mo_setScripts 263 rfl) rfl (lv_at hl 2 rfl) ?_
            refine lv_iload hx hb (fh_d d_Mo_setScripts 264 rfl) (lv_at hl 0 rfl) ?_
            refine fn_iast (f := A 30) (k := u) hx hb hK hP hS 0 mkM_a30 rfl (rfl) (by omega) (by decide) (fh_d d_Mo_setScripts 265 rfl) (fun H locs hP hS => ?_)
            replace hP := fh_P.eq (h' := mkM ct x g (up2 (up2 (up2 (up2 (up2 (up2 A 25 (upd (A 25) n0 ((A 22) n0))) 26 (upd (A 26) n0 ((A 23) n0))) 27 (upd (A 27) n0 ((A 24) n0))) 28 (upd (A 28) n0 0)) 29 (upd (A 29) u ((A 22) n0))) 30 (upd (A 30) u (ms (ms (4 * (yS s0)) (((A 23) n0) - (2 * (yS s0)))) (((A 27) u) + (yS s0))))) th co at_ wr no nu op pi wi he de) hP mkM_u30
            refine lv_aload_n hx hb (fh_d d_Mo_setScripts 266 rfl) rfl (lv_at hl 6 rfl) ?_
            refine fh_get (own := "FormulaSetterModel") (ref := "FormulaSetterModel") (C := "FormulaSetterModel") (T := T_Mo) (N := 53) (v := .ref (x + 23)) hx hb hT i_Mo hown hK hP mkM_o rfl 29 (by decide) (hT _ w889) (fun _ h9 => h9) rfl (fh_d d_Mo_setScripts 267 rfl) ?_
            refine lv_iload_n hx hb (fh_d d_Mo_setScripts 268 rfl) rfl (lv_at hl 7 rfl) ?_
            refine fn_iald (f := A 22) (k := n0) hx hb hK hP 0 mkM_a22 rfl (rfl) (by omega) (by decide) (fh_d d_Mo_setScripts 269 rfl) ?_
            refine lv_aload_n hx hb (fh_d d_Mo_setScripts 270 rfl) rfl (lv_at hl 6 rfl) ?_
            refine fh_get (own := "FormulaSetterModel") (ref := "FormulaSetterModel") (C := "FormulaSetterModel") (T := T_Mo) (N := 53) (v := .ref (x + 26)) hx hb hT i_Mo hown hK hP mkM_o rfl 32 (by decide) (hT _ w892) (fun _ h9 => h9) rfl (fh_d d_Mo_setScripts 271 rfl) ?_
            refine lv_iload_n hx hb (fh_d d_Mo_setScripts 272 rfl) rfl (lv_at hl 2 rfl) ?_
            refine fn_iald (f := upd (A 25) n0 ((A 22) n0)) (k := u) hx hb hK hP 0 mkM_a25 rfl (rfl) (by omega) (by decide) (fh_d d_Mo_setScripts 273 rfl) ?_
            rw [show ((upd (A 25) n0 ((A 22) n0)) u) = (A 25) u from by simp only [upd_n (hun h0u)]]
            refine lv_iadd hx hb (fh_d d_Mo_setScripts 274 rfl) ?_
            refine lv_istore (lv' := [(7, .int (((A 22) n0) + ((A 25) u))), (6, .int (ms (ms (4 * (yS s0)) (((A 23) n0) - (2 * (yS s0)))) (((A 27) u) + (yS s0)))), (2, .int (nI u)), (3, .int (nI lo)), (4, .int (yS s0)), (5, .int (yT s0)), (0, .ref x), (1, .int (nI n0))]) hx hb (fh_d d_Mo_setScripts 275 rfl) hl (by decide) rfl (fun ls hl => ?_)
            refine lv_aload_n hx hb (fh_d d_Mo_setScripts 276 rfl) rfl (lv_at hl 6 rfl) ?_
            refine fh_get (own := "FormulaSetterModel") (ref := "FormulaSetterModel") (C := "FormulaSetterModel") (T := T_Mo) (N := 53) (v := .ref (x + 27)) hx hb hT i_Mo hown hK hP mkM_o rfl 33 (by decide) (hT _ w893) (fun _ h9 => h9) rfl (fh_d d_Mo_setScripts 277 rfl) ?_
            refine lv_iload_n hx hb (fh_d d_Mo_setScripts 278 rfl) rfl (lv_at hl 7 rfl) ?_
            refine lv_aload_n hx hb (fh_d d_Mo_setScripts 279 rfl) rfl (lv_at hl 6 rfl) ?_
            refine fh_get (own := "FormulaSetterModel") (ref := "FormulaSetterModel") (C := "FormulaSetterModel") (T := T_Mo) (N := 53) (v := .ref (x + 24)) hx hb hT i_Mo hown hK hP mkM_o rfl 30 (by decide) (hT _ w890) (fun _ h9 => h9) rfl (fh_d d_Mo_setScripts 280 rfl) ?_
            refine lv_iload_n hx hb (fh_d d_Mo_setScripts 281 rfl) rfl (lv_at hl 7 rfl) ?_
            refine fn_iald (f := A 23) (k := n0) hx hb hK hP 0 mkM_a23 rfl (rfl) (by omega) (by decide) (fh_d d_Mo_setScripts 282 rfl) ?_
            refine lv_iload hx hb (fh_d d_Mo_setScripts 283 rfl) (lv_at hl 1 rfl) ?_
            refine lv_aload_n hx hb (fh_d d_Mo_setScripts 284 rfl) rfl (lv_at hl 6 rfl) ?_
            refine fh_get (own := "FormulaSetterModel") (ref := "FormulaSetterModel") (C := "FormulaSetterModel") (T := T_Mo) (N := 53) (v := .ref (x + 27)) hx hb hT i_Mo hown hK hP mkM_o rfl 33 (by decide) (hT _ w893) (fun _ h9 => h9) rfl (fh_d d_Mo_setScripts 285 rfl) ?_
            refine lv_iload_n hx hb (fh_d d_Mo_setScripts 286 rfl) rfl (lv_at hl 2 rfl) ?_
            refine fn_iald (f := upd (A 26) n0 ((A 23) n0)) (k := u) hx hb hK hP 0 mkM_a26 rfl (rfl) (by omega) (by decide) (fh_d d_Mo_setScripts 287 rfl) ?_
            rw [show ((upd (A 26) n0 ((A 23) n0)) u) = (A 26) u from by simp only [upd_n (hun h0u)]]
            refine lv_iadd hx hb (fh_d d_Mo_setScripts 288 rfl) ?_
            refine fh_callS (cc' := c_Mo_most) (nL' := 2) (rest := [.int (nI n0), .ref (x + 27)]) (av := [.int ((A 23) n0), .int ((ms (ms (4 * (yS s0)) (((A 23) n0) - (2 * (yS s0)))) (((A 27) u) + (yS s0))) + ((A 26) u))]) X hR (m_Mo_most l D ct b RO (r - 1) n ((A 23) n0) ((ms (ms (4 * (yS s0)) (((A 23) n0) - (2 * (yS s0)))) (((A 27) u) + (yS s0))) + ((A 26) u)) (mkM ct x g (up2 (up2 (up2 (up2 (up2 (up2 A 25 (upd (A 25) n0 ((A 22) n0))) 26 (upd (A 26) n0 ((A 23) n0))) 27 (upd (A 27) n0 ((A 24) n0))) 28 (upd (A 28) n0 0)) 29 (upd (A 29) u ((A 22) n0))) 30 (upd (A 30) u (ms (ms (4 * (yS s0)) (((A 23) n0) - (2 * (yS s0)))) (((A 27) u) + (yS s0))))) th co at_ wr no nu op pi wi he de)) w1151 w1149 w1150 w9 ⟨by decide, by decide, by show _ = some 2; decide +kernel⟩ (by omega) (by decide) hP hS hl.1 rfl (by exact Nat.le_of_ble_eq_true rfl) (fh_d d_Mo_setScripts 289 rfl) ⟨Nat.le_refl _, Nat.le_refl _⟩ (fun v9 h9 n9 H locs hq hP hS => ?_)
            obtain ⟨rfl, q80a, q80b⟩ := hq
            rw [q80a, q80b] at hP
            refine W.eq (g2 := F0 m 453 ls [.int (ms ((A 23) n0) ((ms (ms (4 * (yS s0)) (((A 23) n0) - (2 * (yS s0)))) (((A 27) u) + (yS s0))) + ((A 26) u))), .int (nI n0), .ref (x + 27)]) rfl ?_
            refine fn_iast (f := upd (A 26) n0 ((A 23) n0)) (k := n0) hx hb hK hP hS 0 mkM_a26 rfl (rfl) (by omega) (by decide) (fh_d d_Mo_setScripts 290 rfl) (fun H locs hP hS => ?_)
            replace hP := fh_P.eq (h' := mkM ct x g (up2 (up2 (up2 (up2 (up2 (up2 (up2 A 25 (upd (A 25) n0 ((A 22) n0))) 26 (upd (A 26) n0 ((A 23) n0))) 27 (upd (A 27) n0 ((A 24) n0))) 28 (upd (A 28) n0 0)) 29 (upd (A 29) u ((A 22) n0))) 30 (upd (A 30) u (ms (ms (4 * (yS s0)) (((A 23) n0) - (2 * (yS s0)))) (((A 27) u) + (yS s0))))) 26 (upd (upd (A 26) n0 ((A 23) n0)) n0 (ms ((A 23) n0) ((ms (ms (4 * (yS s0)) (((A 23) n0) - (2 * (yS s0)))) (((A 27) u) + (yS s0))) + ((A 26) u))))) th co at_ wr no nu op pi wi he de) hP mkM_u26
            refine lv_iload_n hx hb (fh_d d_Mo_setScripts 291 rfl) rfl (lv_at hl 3 rfl) ?_
            refine lv_if_le (tgt := 648) hx hb (fh_d d_Mo_setScripts 292 rfl) rfl (fun c81 => absurd c81 (nI_np ⟨Nat.pos_of_ne_zero h0l, hlo⟩)) (fun c81 => ?_)
            refine lv_iconst (v := 2) hx hb (fh_d d_Mo_setScripts 293 rfl) (by decide) ?_
            refine lv_iload hx hb (fh_d d_Mo_setScripts 294 rfl) (lv_at hl 4 rfl) ?_
            refine lv_imul hx hb (fh_d d_Mo_setScripts 295 rfl) ?_
            refine lv_aload_n hx hb (fh_d d_Mo_setScripts 296 rfl) rfl (lv_at hl 6 rfl) ?_
            refine fh_get (own := "FormulaSetterModel") (ref := "FormulaSetterModel") (C := "FormulaSetterModel") (T := T_Mo) (N := 53) (v := .ref (x + 25)) hx hb hT i_Mo hown hK hP mkM_o rfl 31 (by decide) (hT _ w891) (fun _ h9 => h9) rfl (fh_d d_Mo_setScripts 297 rfl) ?_
            refine lv_iload_n hx hb (fh_d d_Mo_setScripts 298 rfl) rfl (lv_at hl 7 rfl) ?_
            refine fn_iald (f := A 24) (k := n0) hx hb hK hP 0 mkM_a24 rfl (rfl) (by omega) (by decide) (fh_d d_Mo_setScripts 299 rfl) ?_
            refine lv_iload hx hb (fh_d d_Mo_setScripts 300 rfl) (lv_at hl 4 rfl) ?_
            refine lv_iconst (v := 2) hx hb (fh_d d_Mo_setScripts 301 rfl) (by decide) ?_
            refine lv_idiv hx hb (fh_d d_Mo_setScripts 302 rfl) (by decide) ?_
            refine lv_iadd hx hb (fh_d d_Mo_setScripts 303 rfl) ?_
            refine fh_callS (cc' := c_Mo_most) (nL' := 2) (rest := []) (av := [.int (2 * (yS s0)), .int (((A 24) n0) + ((yS s0) / 2))]) X hR (m_Mo_most l D ct b RO (r - 1) n (2 * (yS s0)) (((A 24) n0) + ((yS s0) / 2)) (mkM ct x g (up2 (up2 (up2 (up2 (up2 (up2 (up2 A 25 (upd (A 25) n0 ((A 22) n0))) 26 (upd (A 26) n0 ((A 23) n0))) 27 (upd (A 27) n0 ((A 24) n0))) 28 (upd (A 28) n0 0)) 29 (upd (A 29) u ((A 22) n0))) 30 (upd (A 30) u (ms (ms (4 * (yS s0)) (((A 23) n0) - (2 * (yS s0)))) (((A 27) u) + (yS s0))))) 26 (upd (upd (A 26) n0 ((A 23) n0)) n0 (ms ((A 23) n0) ((ms (ms (4 * (yS s0)) (((A 23) n0) - (2 * (yS s0)))) (((A 27) u) + (yS s0))) + ((A 26) u))))) th co at_ wr no nu op pi wi he de)) w1151 w1149 w1150 w9 ⟨by decide, by decide, by show _ = some 2; decide +kernel⟩ (by omega) (by decide) hP hS hl.1 rfl (by exact Nat.le_of_ble_eq_true rfl) (fh_d d_Mo_setScripts 304 rfl) ⟨Nat.le_refl _, Nat.le_refl _⟩ (fun v9 h9 n9 H locs hq hP hS => ?_)
            obtain ⟨rfl, q82a, q82b⟩ := hq
            rw [q82a, q82b] at hP
            refine W.eq (g2 := F0 m 476 ls [.int (ms (2 * (yS s0)) (((A 24) n0) + ((yS s0) / 2)))]) rfl ?_
            refine lv_aload_n hx hb (fh_d d_Mo_setScripts 305 rfl) rfl (lv_at hl 6 rfl) ?_
            refine fh_get (own := "FormulaSetterModel") (ref := "FormulaSetterModel") (C := "FormulaSetterModel") (T := T_Mo) (N := 53) (v := .ref (x + 27)) hx hb hT i_Mo hown hK hP mkM_o rfl 33 (by decide) (hT _ w893) (fun _ h9 => h9) rfl (fh_d d_Mo_setScripts 306 rfl) ?_
            refine lv_iload_n hx hb (fh_d d_Mo_setScripts 307 rfl) rfl (lv_at hl 3 rfl) ?_
            refine fn_iald (f := upd (upd (A 26) n0 ((A 23) n0)) n0 (ms ((A 23) n0) ((ms (ms (4 * (yS s0)) (((A 23) n0) - (2 * (yS s0)))) (((A 27) u) + (yS s0))) + ((A 26) u)))) (k := lo) hx hb hK hP 0 mkM_a26 rfl (rfl) (by omega) (by decide) (fh_d d_Mo_setScripts 308 rfl) ?_
            rw [show ((upd (upd (A 26) n0 ((A 23) n0)) n0 (ms ((A 23) n0) ((ms (ms (4 * (yS s0)) (((A 23) n0) - (2 * (yS s0)))) (((A 27) u) + (yS s0))) + ((A 26) u)))) lo) = (A 26) lo from by simp only [upd_n (hln h0l)]]
            refine lv_iconst (v := 4) hx hb (fh_d d_Mo_setScripts 309 rfl) (by decide) ?_
            refine lv_iload hx hb (fh_d d_Mo_setScripts 310 rfl) (lv_at hl 4 rfl) ?_
            refine lv_imul hx hb (fh_d d_Mo_setScripts 311 rfl) ?_
            refine lv_isub hx hb (fh_d d_Mo_setScripts 312 rfl) ?_
            refine fh_callS (cc' := c_Mo_most) (nL' := 2) (rest := []) (av := [.int (ms (2 * (yS s0)) (((A 24) n0) + ((yS s0) / 2))), .int (((A 26) lo) - (4 * (yS s0)))]) X hR (m_Mo_most l D ct b RO (r - 1) n (ms (2 * (yS s0)) (((A 24) n0) + ((yS s0) / 2))) (((A 26) lo) - (4 * (yS s0))) (mkM ct x g (up2 (up2 (up2 (up2 (up2 (up2 (up2 A 25 (upd (A 25) n0 ((A 22) n0))) 26 (upd (A 26) n0 ((A 23) n0))) 27 (upd (A 27) n0 ((A 24) n0))) 28 (upd (A 28) n0 0)) 29 (upd (A 29) u ((A 22) n0))) 30 (upd (A 30) u (ms (ms (4 * (yS s0)) (((A 23) n0) - (2 * (yS s0)))) (((A 27) u) + (yS s0))))) 26 (upd (upd (A 26) n0 ((A 23) n0)) n0 (ms ((A 23) n0) ((ms (ms (4 * (yS s0)) (((A 23) n0) - (2 * (yS s0)))) (((A 27) u) + (yS s0))) + ((A 26) u))))) th co at_ wr no nu op pi wi he de)) w1151 w1149 w1150 w9 ⟨by decide, by decide, by show _ = some 2; decide +kernel⟩ (by omega) (by decide) hP hS hl.1 rfl (by exact Nat.le_of_ble_eq_true rfl) (fh_d d_Mo_setScripts 313 rfl) ⟨Nat.le_refl _, Nat.le_refl _⟩ (fun v9 h9 n9 H locs hq hP hS => ?_)
            obtain ⟨rfl, q83a, q83b⟩ := hq
            rw [q83a, q83b] at hP
            refine W.eq (g2 := F0 m 490 ls [.int (ms (ms (2 * (yS s0)) (((A 24) n0) + ((yS s0) / 2))) (((A 26) lo) - (4 * (yS s0))))]) rfl ?_
            refine lv_istore (lv' := [(8, .int (ms (ms (2 * (yS s0)) (((A 24) n0) + ((yS s0) / 2))) (((A 26) lo) - (4 * (yS s0))))), (7, .int (((A 22) n0) + ((A 25) u))), (6, .int (ms (ms (4 * (yS s0)) (((A 23) n0) - (2 * (yS s0)))) (((A 27) u) + (yS s0)))), (2, .int (nI u)), (3, .int (nI lo)), (4, .int (yS s0)), (5, .int (yT s0)), (0, .ref x), (1, .int (nI n0))]) hx hb (fh_d d_Mo_setScripts 314 rfl) hl (by decide) rfl (fun ls hl => ?_)
            refine lv_iload_n hx hb (fh_d d_Mo_setScripts 315 rfl) rfl (lv_at hl 3 rfl) ?_
            refine lv_if_le (tgt := 518) hx hb (fh_d d_Mo_setScripts 316 rfl) rfl (fun c84 => absurd c84 (nI_np ⟨Nat.pos_of_ne_zero h0u, hu⟩)) (fun c84 => ?_)
            refine lv_iload hx hb (fh_d d_Mo_setScripts 317 rfl) (lv_at hl 2 rfl) ?_
            refine lv_aload_n hx hb (fh_d d_Mo_setScripts 318 rfl) rfl (lv_at hl 7 rfl) ?_
            refine fh_get (own := "FormulaSetterModel") (ref := "FormulaSetterModel") (C := "FormulaSetterModel") (T := T_Mo) (N := 53) (v := .ref (x + 28)) hx hb hT i_Mo hown hK hP mkM_o rfl 34 (by decide) (hT _ w894) (fun _ h9 => h9) rfl (fh_d d_Mo_setScripts 319 rfl) ?_
            refine lv_iload_n hx hb (fh_d d_Mo_setScripts 320 rfl) rfl (lv_at hl 3 rfl) ?_
            refine fn_iald (f := upd (A 27) n0 ((A 24) n0)) (k := u) hx hb hK hP 0 mkM_a27 rfl (rfl) (by omega) (by decide) (fh_d d_Mo_setScripts 321 rfl) ?_
            rw [show ((upd (A 27) n0 ((A 24) n0)) u) = (A 27) u from by simp only [upd_n (hun h0u)]]
            refine lv_isub hx hb (fh_d d_Mo_setScripts 322 rfl) ?_
            refine lv_aload_n hx hb (fh_d d_Mo_setScripts 323 rfl) rfl (lv_at hl 7 rfl) ?_
            refine fh_get (own := "FormulaSetterModel") (ref := "FormulaSetterModel") (C := "FormulaSetterModel") (T := T_Mo) (N := 53) (v := .ref (x + 27)) hx hb hT i_Mo hown hK hP mkM_o rfl 33 (by decide) (hT _ w893) (fun _ h9 => h9) rfl (fh_d d_Mo_setScripts 324 rfl) ?_
            refine lv_iload_n hx hb (fh_d d_Mo_setScripts 325 rfl) rfl (lv_at hl 4 rfl) ?_
            refine fn_iald (f := upd (upd (A 26) n0 ((A 23) n0)) n0 (ms ((A 23) n0) ((ms (ms (4 * (yS s0)) (((A 23) n0) - (2 * (yS s0)))) (((A 27) u) + (yS s0))) + ((A 26) u)))) (k := lo) hx hb hK hP 0 mkM_a26 rfl (rfl) (by omega) (by decide) (fh_d d_Mo_setScripts 326 rfl) ?_
            rw [show ((upd (upd (A 26) n0 ((A 23) n0)) n0 (ms ((A 23) n0) ((ms (ms (4 * (yS s0)) (((A 23) n0) - (2 * (yS s0)))) (((A 27) u) + (yS s0))) + ((A 26) u)))) lo) = (A 26) lo from by simp only [upd_n (hln h0l)]]
            refine lv_iload hx hb (fh_d d_Mo_setScripts 327 rfl) (lv_at hl 0 rfl) ?_
            refine lv_isub hx hb (fh_d d_Mo_setScripts 328 rfl) ?_
            refine lv_isub hx hb (fh_d d_Mo_setScripts 329 rfl) ?_
            refine lv_goto (tgt := 522) hx hb (fh_d d_Mo_setScripts 330 rfl) rfl ?_
            refine lv_istore (lv' := [(9, .int (((ms (ms (4 * (yS s0)) (((A 23) n0) - (2 * (yS s0)))) (((A 27) u) + (yS s0))) - ((A 27) u)) - (((A 26) lo) - (ms (ms (2 * (yS s0)) (((A 24) n0) + ((yS s0) / 2))) (((A 26) lo) - (4 * (yS s0))))))), (8, .int (ms (ms (2 * (yS s0)) (((A 24) n0) + ((yS s0) / 2))) (((A 26) lo) - (4 * (yS s0))))), (7, .int (((A 22) n0) + ((A 25) u))), (6, .int (ms (ms (4 * (yS s0)) (((A 23) n0) - (2 * (yS s0)))) (((A 27) u) + (yS s0)))), (2, .int (nI u)), (3, .int (nI lo)), (4, .int (yS s0)), (5, .int (yT s0)), (0, .ref x), (1, .int (nI n0))]) hx hb (fh_d d_Mo_setScripts 334 rfl) hl (by decide) rfl (fun ls hl => ?_)
            by_cases hg : ((ms (ms (4 * (yS s0)) (((A 23) n0) - (2 * (yS s0)))) (((A 27) u) + (yS s0))) - ((A 27) u)) - (((A 26) lo) - (ms (ms (2 * (yS s0)) (((A 24) n0) + ((yS s0) / 2))) (((A 26) lo) - (4 * (yS s0))))) < 4 * yT s0
            · skip
              refine lv_iload hx hb (fh_d d_Mo_setScripts 335 rfl) (lv_at hl 0 rfl) ?_
              refine lv_iconst (v := 4) hx hb (fh_d d_Mo_setScripts 336 rfl) (by decide) ?_
              refine lv_iload hx hb (fh_d d_Mo_setScripts 337 rfl) (lv_at hl 7 rfl) ?_
              refine lv_imul hx hb (fh_d d_Mo_setScripts 338 rfl) ?_
              refine lv_icmp_ge (tgt := 546) hx hb (fh_d d_Mo_setScripts 339 rfl) rfl (fun c85 => absurd c85 (Int32.not_le.mpr hg)) (fun c85 => ?_)
              refine lv_iload hx hb (fh_d d_Mo_setScripts 340 rfl) (lv_at hl 1 rfl) ?_
              refine lv_iconst (v := 4) hx hb (fh_d d_Mo_setScripts 341 rfl) (by decide) ?_
              refine lv_iload hx hb (fh_d d_Mo_setScripts 342 rfl) (lv_at hl 7 rfl) ?_
              refine lv_imul hx hb (fh_d d_Mo_setScripts 343 rfl) ?_
              refine lv_iadd hx hb (fh_d d_Mo_setScripts 344 rfl) ?_
              refine lv_iload hx hb (fh_d d_Mo_setScripts 345 rfl) (lv_at hl 0 rfl) ?_
              refine lv_isub hx hb (fh_d d_Mo_setScripts 346 rfl) ?_
              refine lv_goto (tgt := 548) hx hb (fh_d d_Mo_setScripts 347 rfl) rfl ?_
              by_cases hk2 : A 1 n0 = 2
              · skip
                by_cases hc3 : A 2 n0 = 73
                · skip
                  refine lv_istore (lv' := [(8, .int (((ms (ms (2 * (yS s0)) (((A 24) n0) + ((yS s0) / 2))) (((A 26) lo) - (4 * (yS s0)))) + (4 * (yT s0))) - (((ms (ms (4 * (yS s0)) (((A 23) n0) - (2 * (yS s0)))) (((A 27) u) + (yS s0))) - ((A 27) u)) - (((A 26) lo) - (ms (ms (2 * (yS s0)) (((A 24) n0) + ((yS s0) / 2))) (((A 26) lo) - (4 * (yS s0)))))))), (9, .int (((ms (ms (4 * (yS s0)) (((A 23) n0) - (2 * (yS s0)))) (((A 27) u) + (yS s0))) - ((A 27) u)) - (((A 26) lo) - (ms (ms (2 * (yS s0)) (((A 24) n0) + ((yS s0) / 2))) (((A 26) lo) - (4 * (yS s0))))))), (7, .int (((A 22) n0) + ((A 25) u))), (6, .int (ms (ms (4 * (yS s0)) (((A 23) n0) - (2 * (yS s0)))) (((A 27) u) + (yS s0)))), (2, .int (nI u)), (3, .int (nI lo)), (4, .int (yS s0)), (5, .int (yT s0)), (0, .ref x), (1, .int (nI n0))]) hx hb (fh_d d_Mo_setScripts 349 rfl) hl (by decide) rfl (fun ls hl => ?_)
                  refine lv_aload_n hx hb (fh_d d_Mo_setScripts 350 rfl) rfl (lv_at hl 8 rfl) ?_
                  refine fh_get (own := "FormulaSetterModel") (ref := "FormulaSetterModel") (C := "FormulaSetterModel") (T := T_Mo) (N := 53) (v := .ref (x + 30)) hx hb hT i_Mo hown hK hP mkM_o rfl 36 (by decide) (hT _ w896) (fun _ h9 => h9) rfl (fh_d d_Mo_setScripts 351 rfl) ?_
                  refine lv_iload_n hx hb (fh_d d_Mo_setScripts 352 rfl) rfl (lv_at hl 5 rfl) ?_
                  refine lv_aload_n hx hb (fh_d d_Mo_setScripts 353 rfl) rfl (lv_at hl 8 rfl) ?_
                  refine fh_get (own := "FormulaSetterModel") (ref := "FormulaSetterModel") (C := "FormulaSetterModel") (T := T_Mo) (N := 53) (v := .ref (x + 2)) hx hb hT i_Mo hown hK hP mkM_o rfl 7 (by decide) (hT _ w867) (fun _ h9 => h9) rfl (fh_d d_Mo_setScripts 354 rfl) ?_
                  refine lv_iload_n hx hb (fh_d d_Mo_setScripts 355 rfl) rfl (lv_at hl 9 rfl) ?_
                  refine fn_iald (f := A 1) (k := n0) hx hb hK hP 0 mkM_a1 rfl (rfl) (by omega) (by decide) (fh_d d_Mo_setScripts 356 rfl) ?_
                  refine lv_iconst (v := 2) hx hb (fh_d d_Mo_setScripts 357 rfl) (by decide) ?_
                  refine lv_icmp_ne (tgt := 588) hx hb (fh_d d_Mo_setScripts 358 rfl) rfl (fun c86 => absurd c86 (Classical.not_not.mpr (hk2))) (fun c86 => ?_)
                  refine lv_aload_n hx hb (fh_d d_Mo_setScripts 359 rfl) rfl (lv_at hl 8 rfl) ?_
                  refine fh_get (own := "FormulaSetterModel") (ref := "FormulaSetterModel") (C := "FormulaSetterModel") (T := T_Mo) (N := 53) (v := .ref (x + 3)) hx hb hT i_Mo hown hK hP mkM_o rfl 8 (by decide) (hT _ w868) (fun _ h9 => h9) rfl (fh_d d_Mo_setScripts 360 rfl) ?_
                  refine lv_iload_n hx hb (fh_d d_Mo_setScripts 361 rfl) rfl (lv_at hl 9 rfl) ?_
                  refine fn_iald (f := A 2) (k := n0) hx hb hK hP 0 mkM_a2 rfl (rfl) (by omega) (by decide) (fh_d d_Mo_setScripts 362 rfl) ?_
                  refine lv_bipush (v := 73) hx hb (fh_d d_Mo_setScripts 363 rfl) (by decide) ?_
                  refine lv_icmp_ne (tgt := 588) hx hb (fh_d d_Mo_setScripts 364 rfl) rfl (fun c87 => absurd c87 (Classical.not_not.mpr (hc3))) (fun c87 => ?_)
                  refine lv_aload_n hx hb (fh_d d_Mo_setScripts 365 rfl) rfl (lv_at hl 8 rfl) ?_
                  refine fh_get (own := "FormulaSetterModel") (ref := "FormulaSetterModel") (C := "FormulaSetterModel") (T := T_Mo) (N := 53) (v := .ref (x + 23)) hx hb hT i_Mo hown hK hP mkM_o rfl 29 (by decide) (hT _ w889) (fun _ h9 => h9) rfl (fh_d d_Mo_setScripts 366 rfl) ?_
                  refine lv_iload_n hx hb (fh_d d_Mo_setScripts 367 rfl) rfl (lv_at hl 9 rfl) ?_
                  refine fn_iald (f := A 22) (k := n0) hx hb hK hP 0 mkM_a22 rfl (rfl) (by omega) (by decide) (fh_d d_Mo_setScripts 368 rfl) ?_
                  refine lv_iload hx hb (fh_d d_Mo_setScripts 369 rfl) (lv_at hl 6 rfl) ?_
                  refine lv_isub hx hb (fh_d d_Mo_setScripts 370 rfl) ?_
                  refine lv_goto (tgt := 594) hx hb (fh_d d_Mo_setScripts 371 rfl) rfl ?_
                  refine fn_iast (f := upd (A 29) u ((A 22) n0)) (k := lo) hx hb hK hP hS 0 mkM_a29 rfl (rfl) (by omega) (by decide) (fh_d d_Mo_setScripts 376 rfl) (fun H locs hP hS => ?_)
                  replace hP := fh_P.eq (h' := mkM ct x g (up2 (up2 (up2 (up2 (up2 (up2 (up2 (up2 A 25 (upd (A 25) n0 ((A 22) n0))) 26 (upd (A 26) n0 ((A 23) n0))) 27 (upd (A 27) n0 ((A 24) n0))) 28 (upd (A 28) n0 0)) 29 (upd (A 29) u ((A 22) n0))) 30 (upd (A 30) u (ms (ms (4 * (yS s0)) (((A 23) n0) - (2 * (yS s0)))) (((A 27) u) + (yS s0))))) 26 (upd (upd (A 26) n0 ((A 23) n0)) n0 (ms ((A 23) n0) ((ms (ms (4 * (yS s0)) (((A 23) n0) - (2 * (yS s0)))) (((A 27) u) + (yS s0))) + ((A 26) u))))) 29 (upd (upd (A 29) u ((A 22) n0)) lo (((A 22) n0) - (yS s0)))) th co at_ wr no nu op pi wi he de) hP mkM_u29
                  refine lv_aload_n hx hb (fh_d d_Mo_setScripts 377 rfl) rfl (lv_at hl 8 rfl) ?_
                  refine fh_get (own := "FormulaSetterModel") (ref := "FormulaSetterModel") (C := "FormulaSetterModel") (T := T_Mo) (N := 53) (v := .ref (x + 31)) hx hb hT i_Mo hown hK hP mkM_o rfl 37 (by decide) (hT _ w897) (fun _ h9 => h9) rfl (fh_d d_Mo_setScripts 378 rfl) ?_
                  refine lv_iload_n hx hb (fh_d d_Mo_setScripts 379 rfl) rfl (lv_at hl 5 rfl) ?_
                  refine lv_iload hx hb (fh_d d_Mo_setScripts 380 rfl) (lv_at hl 0 rfl) ?_
                  refine lv_ineg hx hb (fh_d d_Mo_setScripts 381 rfl) ?_
                  refine fn_iast (f := upd (A 30) u (ms (ms (4 * (yS s0)) (((A 23) n0) - (2 * (yS s0)))) (((A 27) u) + (yS s0)))) (k := lo) hx hb hK hP hS 0 mkM_a30 rfl (rfl) (by omega) (by decide) (fh_d d_Mo_setScripts 382 rfl) (fun H locs hP hS => ?_)
                  replace hP := fh_P.eq (h' := mkM ct x g (up2 (up2 (up2 (up2 (up2 (up2 (up2 (up2 (up2 A 25 (upd (A 25) n0 ((A 22) n0))) 26 (upd (A 26) n0 ((A 23) n0))) 27 (upd (A 27) n0 ((A 24) n0))) 28 (upd (A 28) n0 0)) 29 (upd (A 29) u ((A 22) n0))) 30 (upd (A 30) u (ms (ms (4 * (yS s0)) (((A 23) n0) - (2 * (yS s0)))) (((A 27) u) + (yS s0))))) 26 (upd (upd (A 26) n0 ((A 23) n0)) n0 (ms ((A 23) n0) ((ms (ms (4 * (yS s0)) (((A 23) n0) - (2 * (yS s0)))) (((A 27) u) + (yS s0))) + ((A 26) u))))) 29 (upd (upd (A 29) u ((A 22) n0)) lo (((A 22) n0) - (yS s0)))) 30 (upd (upd (A 30) u (ms (ms (4 * (yS s0)) (((A 23) n0) - (2 * (yS s0)))) (((A 27) u) + (yS s0)))) lo (-(((ms (ms (2 * (yS s0)) (((A 24) n0) + ((yS s0) / 2))) (((A 26) lo) - (4 * (yS s0)))) + (4 * (yT s0))) - (((ms (ms (4 * (yS s0)) (((A 23) n0) - (2 * (yS s0)))) (((A 27) u) + (yS s0))) - ((A 27) u)) - (((A 26) lo) - (ms (ms (2 * (yS s0)) (((A 24) n0) + ((yS s0) / 2))) (((A 26) lo) - (4 * (yS s0)))))))))) th co at_ wr no nu op pi wi he de) hP mkM_u30
                  refine lv_iload hx hb (fh_d d_Mo_setScripts 383 rfl) (lv_at hl 2 rfl) ?_
                  refine lv_aload_n hx hb (fh_d d_Mo_setScripts 384 rfl) rfl (lv_at hl 8 rfl) ?_
                  refine fh_get (own := "FormulaSetterModel") (ref := "FormulaSetterModel") (C := "FormulaSetterModel") (T := T_Mo) (N := 53) (v := .ref (x + 30)) hx hb hT i_Mo hown hK hP mkM_o rfl 36 (by decide) (hT _ w896) (fun _ h9 => h9) rfl (fh_d d_Mo_setScripts 385 rfl) ?_
                  refine lv_iload_n hx hb (fh_d d_Mo_setScripts 386 rfl) rfl (lv_at hl 5 rfl) ?_
                  refine fn_iald (f := upd (upd (A 29) u ((A 22) n0)) lo (((A 22) n0) - (yS s0))) (k := lo) hx hb hK hP 0 mkM_a29 rfl (rfl) (by omega) (by decide) (fh_d d_Mo_setScripts 387 rfl) ?_
                  rw [show ((upd (upd (A 29) u ((A 22) n0)) lo (((A 22) n0) - (yS s0))) lo) = (((A 22) n0) - (yS s0)) from upd_s]
                  refine lv_aload_n hx hb (fh_d d_Mo_setScripts 388 rfl) rfl (lv_at hl 8 rfl) ?_
                  refine fh_get (own := "FormulaSetterModel") (ref := "FormulaSetterModel") (C := "FormulaSetterModel") (T := T_Mo) (N := 53) (v := .ref (x + 26)) hx hb hT i_Mo hown hK hP mkM_o rfl 32 (by decide) (hT _ w892) (fun _ h9 => h9) rfl (fh_d d_Mo_setScripts 389 rfl) ?_
                  refine lv_iload_n hx hb (fh_d d_Mo_setScripts 390 rfl) rfl (lv_at hl 5 rfl) ?_
                  refine fn_iald (f := upd (A 25) n0 ((A 22) n0)) (k := lo) hx hb hK hP 0 mkM_a25 rfl (rfl) (by omega) (by decide) (fh_d d_Mo_setScripts 391 rfl) ?_
                  rw [show ((upd (A 25) n0 ((A 22) n0)) lo) = (A 25) lo from by simp only [upd_n (hln h0l)]]
                  refine lv_iadd hx hb (fh_d d_Mo_setScripts 392 rfl) ?_
                  refine fh_callS (cc' := c_Mo_most) (nL' := 2) (rest := []) (av := [.int (((A 22) n0) + ((A 25) u)), .int ((((A 22) n0) - (yS s0)) + ((A 25) lo))]) X hR (m_Mo_most l D ct b RO (r - 1) n (((A 22) n0) + ((A 25) u)) ((((A 22) n0) - (yS s0)) + ((A 25) lo)) (mkM ct x g (up2 (up2 (up2 (up2 (up2 (up2 (up2 (up2 (up2 A 25 (upd (A 25) n0 ((A 22) n0))) 26 (upd (A 26) n0 ((A 23) n0))) 27 (upd (A 27) n0 ((A 24) n0))) 28 (upd (A 28) n0 0)) 29 (upd (A 29) u ((A 22) n0))) 30 (upd (A 30) u (ms (ms (4 * (yS s0)) (((A 23) n0) - (2 * (yS s0)))) (((A 27) u) + (yS s0))))) 26 (upd (upd (A 26) n0 ((A 23) n0)) n0 (ms ((A 23) n0) ((ms (ms (4 * (yS s0)) (((A 23) n0) - (2 * (yS s0)))) (((A 27) u) + (yS s0))) + ((A 26) u))))) 29 (upd (upd (A 29) u ((A 22) n0)) lo (((A 22) n0) - (yS s0)))) 30 (upd (upd (A 30) u (ms (ms (4 * (yS s0)) (((A 23) n0) - (2 * (yS s0)))) (((A 27) u) + (yS s0)))) lo (-(((ms (ms (2 * (yS s0)) (((A 24) n0) + ((yS s0) / 2))) (((A 26) lo) - (4 * (yS s0)))) + (4 * (yT s0))) - (((ms (ms (4 * (yS s0)) (((A 23) n0) - (2 * (yS s0)))) (((A 27) u) + (yS s0))) - ((A 27) u)) - (((A 26) lo) - (ms (ms (2 * (yS s0)) (((A 24) n0) + ((yS s0) / 2))) (((A 26) lo) - (4 * (yS s0)))))))))) th co at_ wr no nu op pi wi he de)) w1151 w1149 w1150 w9 ⟨by decide, by decide, by show _ = some 2; decide +kernel⟩ (by omega) (by decide) hP hS hl.1 rfl (by exact Nat.le_of_ble_eq_true rfl) (fh_d d_Mo_setScripts 393 rfl) ⟨Nat.le_refl _, Nat.le_refl _⟩ (fun v9 h9 n9 H locs hq hP hS => ?_)
                  obtain ⟨rfl, q88a, q88b⟩ := hq
                  rw [q88a, q88b] at hP
                  refine W.eq (g2 := F0 m 622 ls [.int (ms (((A 22) n0) + ((A 25) u)) ((((A 22) n0) - (yS s0)) + ((A 25) lo)))]) rfl ?_
                  refine lv_istore (lv' := [(7, .int (ms (((A 22) n0) + ((A 25) u)) ((((A 22) n0) - (yS s0)) + ((A 25) lo)))), (8, .int (((ms (ms (2 * (yS s0)) (((A 24) n0) + ((yS s0) / 2))) (((A 26) lo) - (4 * (yS s0)))) + (4 * (yT s0))) - (((ms (ms (4 * (yS s0)) (((A 23) n0) - (2 * (yS s0)))) (((A 27) u) + (yS s0))) - ((A 27) u)) - (((A 26) lo) - (ms (ms (2 * (yS s0)) (((A 24) n0) + ((yS s0) / 2))) (((A 26) lo) - (4 * (yS s0)))))))), (9, .int (((ms (ms (4 * (yS s0)) (((A 23) n0) - (2 * (yS s0)))) (((A 27) u) + (yS s0))) - ((A 27) u)) - (((A 26) lo) - (ms (ms (2 * (yS s0)) (((A 24) n0) + ((yS s0) / 2))) (((A 26) lo) - (4 * (yS s0))))))), (6, .int (ms (ms (4 * (yS s0)) (((A 23) n0) - (2 * (yS s0)))) (((A 27) u) + (yS s0)))), (2, .int (nI u)), (3, .int (nI lo)), (4, .int (yS s0)), (5, .int (yT s0)), (0, .ref x), (1, .int (nI n0))]) hx hb (fh_d d_Mo_setScripts 394 rfl) hl (by decide) rfl (fun ls hl => ?_)
                  refine lv_aload_n hx hb (fh_d d_Mo_setScripts 395 rfl) rfl (lv_at hl 8 rfl) ?_
                  refine fh_get (own := "FormulaSetterModel") (ref := "FormulaSetterModel") (C := "FormulaSetterModel") (T := T_Mo) (N := 53) (v := .ref (x + 28)) hx hb hT i_Mo hown hK hP mkM_o rfl 34 (by decide) (hT _ w894) (fun _ h9 => h9) rfl (fh_d d_Mo_setScripts 396 rfl) ?_
                  refine lv_iload_n hx hb (fh_d d_Mo_setScripts 397 rfl) rfl (lv_at hl 9 rfl) ?_
                  refine lv_aload_n hx hb (fh_d d_Mo_setScripts 398 rfl) rfl (lv_at hl 8 rfl) ?_
                  refine fh_get (own := "FormulaSetterModel") (ref := "FormulaSetterModel") (C := "FormulaSetterModel") (T := T_Mo) (N := 53) (v := .ref (x + 25)) hx hb hT i_Mo hown hK hP mkM_o rfl 31 (by decide) (hT _ w891) (fun _ h9 => h9) rfl (fh_d d_Mo_setScripts 399 rfl) ?_
                  refine lv_iload_n hx hb (fh_d d_Mo_setScripts 400 rfl) rfl (lv_at hl 9 rfl) ?_
                  refine fn_iald (f := A 24) (k := n0) hx hb hK hP 0 mkM_a24 rfl (rfl) (by omega) (by decide) (fh_d d_Mo_setScripts 401 rfl) ?_
                  refine lv_iload hx hb (fh_d d_Mo_setScripts 402 rfl) (lv_at hl 1 rfl) ?_
                  refine lv_aload_n hx hb (fh_d d_Mo_setScripts 403 rfl) rfl (lv_at hl 8 rfl) ?_
                  refine fh_get (own := "FormulaSetterModel") (ref := "FormulaSetterModel") (C := "FormulaSetterModel") (T := T_Mo) (N := 53) (v := .ref (x + 28)) hx hb hT i_Mo hown hK hP mkM_o rfl 34 (by decide) (hT _ w894) (fun _ h9 => h9) rfl (fh_d d_Mo_setScripts 404 rfl) ?_
                  refine lv_iload_n hx hb (fh_d d_Mo_setScripts 405 rfl) rfl (lv_at hl 5 rfl) ?_
                  refine fn_iald (f := upd (A 27) n0 ((A 24) n0)) (k := lo) hx hb hK hP 0 mkM_a27 rfl (rfl) (by omega) (by decide) (fh_d d_Mo_setScripts 406 rfl) ?_
                  rw [show ((upd (A 27) n0 ((A 24) n0)) lo) = (A 27) lo from by simp only [upd_n (hln h0l)]]
                  refine lv_iadd hx hb (fh_d d_Mo_setScripts 407 rfl) ?_
                  refine fh_callS (cc' := c_Mo_most) (nL' := 2) (rest := [.int (nI n0), .ref (x + 28)]) (av := [.int ((A 24) n0), .int ((((ms (ms (2 * (yS s0)) (((A 24) n0) + ((yS s0) / 2))) (((A 26) lo) - (4 * (yS s0)))) + (4 * (yT s0))) - (((ms (ms (4 * (yS s0)) (((A 23) n0) - (2 * (yS s0)))) (((A 27) u) + (yS s0))) - ((A 27) u)) - (((A 26) lo) - (ms (ms (2 * (yS s0)) (((A 24) n0) + ((yS s0) / 2))) (((A 26) lo) - (4 * (yS s0))))))) + ((A 27) lo))]) X hR (m_Mo_most l D ct b RO (r - 1) n ((A 24) n0) ((((ms (ms (2 * (yS s0)) (((A 24) n0) + ((yS s0) / 2))) (((A 26) lo) - (4 * (yS s0)))) + (4 * (yT s0))) - (((ms (ms (4 * (yS s0)) (((A 23) n0) - (2 * (yS s0)))) (((A 27) u) + (yS s0))) - ((A 27) u)) - (((A 26) lo) - (ms (ms (2 * (yS s0)) (((A 24) n0) + ((yS s0) / 2))) (((A 26) lo) - (4 * (yS s0))))))) + ((A 27) lo)) (mkM ct x g (up2 (up2 (up2 (up2 (up2 (up2 (up2 (up2 (up2 A 25 (upd (A 25) n0 ((A 22) n0))) 26 (upd (A 26) n0 ((A 23) n0))) 27 (upd (A 27) n0 ((A 24) n0))) 28 (upd (A 28) n0 0)) 29 (upd (A 29) u ((A 22) n0))) 30 (upd (A 30) u (ms (ms (4 * (yS s0)) (((A 23) n0) - (2 * (yS s0)))) (((A 27) u) + (yS s0))))) 26 (upd (upd (A 26) n0 ((A 23) n0)) n0 (ms ((A 23) n0) ((ms (ms (4 * (yS s0)) (((A 23) n0) - (2 * (yS s0)))) (((A 27) u) + (yS s0))) + ((A 26) u))))) 29 (upd (upd (A 29) u ((A 22) n0)) lo (((A 22) n0) - (yS s0)))) 30 (upd (upd (A 30) u (ms (ms (4 * (yS s0)) (((A 23) n0) - (2 * (yS s0)))) (((A 27) u) + (yS s0)))) lo (-(((ms (ms (2 * (yS s0)) (((A 24) n0) + ((yS s0) / 2))) (((A 26) lo) - (4 * (yS s0)))) + (4 * (yT s0))) - (((ms (ms (4 * (yS s0)) (((A 23) n0) - (2 * (yS s0)))) (((A 27) u) + (yS s0))) - ((A 27) u)) - (((A 26) lo) - (ms (ms (2 * (yS s0)) (((A 24) n0) + ((yS s0) / 2))) (((A 26) lo) - (4 * (yS s0)))))))))) th co at_ wr no nu op pi wi he de)) w1151 w1149 w1150 w9 ⟨by decide, by decide, by show _ = some 2; decide +kernel⟩ (by omega) (by decide) hP hS hl.1 rfl (by exact Nat.le_of_ble_eq_true rfl) (fh_d d_Mo_setScripts 408 rfl) ⟨Nat.le_refl _, Nat.le_refl _⟩ (fun v9 h9 n9 H locs hq hP hS => ?_)
                  obtain ⟨rfl, q89a, q89b⟩ := hq
                  rw [q89a, q89b] at hP
                  refine W.eq (g2 := F0 m 647 ls [.int (ms ((A 24) n0) ((((ms (ms (2 * (yS s0)) (((A 24) n0) + ((yS s0) / 2))) (((A 26) lo) - (4 * (yS s0)))) + (4 * (yT s0))) - (((ms (ms (4 * (yS s0)) (((A 23) n0) - (2 * (yS s0)))) (((A 27) u) + (yS s0))) - ((A 27) u)) - (((A 26) lo) - (ms (ms (2 * (yS s0)) (((A 24) n0) + ((yS s0) / 2))) (((A 26) lo) - (4 * (yS s0))))))) + ((A 27) lo))), .int (nI n0), .ref (x + 28)]) rfl ?_
                  refine fn_iast (f := upd (A 27) n0 ((A 24) n0)) (k := n0) hx hb hK hP hS 0 mkM_a27 rfl (rfl) (by omega) (by decide) (fh_d d_Mo_setScripts 409 rfl) (fun H locs hP hS => ?_)
                  replace hP := fh_P.eq (h' := mkM ct x g (up2 (up2 (up2 (up2 (up2 (up2 (up2 (up2 (up2 (up2 A 25 (upd (A 25) n0 ((A 22) n0))) 26 (upd (A 26) n0 ((A 23) n0))) 27 (upd (A 27) n0 ((A 24) n0))) 28 (upd (A 28) n0 0)) 29 (upd (A 29) u ((A 22) n0))) 30 (upd (A 30) u (ms (ms (4 * (yS s0)) (((A 23) n0) - (2 * (yS s0)))) (((A 27) u) + (yS s0))))) 26 (upd (upd (A 26) n0 ((A 23) n0)) n0 (ms ((A 23) n0) ((ms (ms (4 * (yS s0)) (((A 23) n0) - (2 * (yS s0)))) (((A 27) u) + (yS s0))) + ((A 26) u))))) 29 (upd (upd (A 29) u ((A 22) n0)) lo (((A 22) n0) - (yS s0)))) 30 (upd (upd (A 30) u (ms (ms (4 * (yS s0)) (((A 23) n0) - (2 * (yS s0)))) (((A 27) u) + (yS s0)))) lo (-(((ms (ms (2 * (yS s0)) (((A 24) n0) + ((yS s0) / 2))) (((A 26) lo) - (4 * (yS s0)))) + (4 * (yT s0))) - (((ms (ms (4 * (yS s0)) (((A 23) n0) - (2 * (yS s0)))) (((A 27) u) + (yS s0))) - ((A 27) u)) - (((A 26) lo) - (ms (ms (2 * (yS s0)) (((A 24) n0) + ((yS s0) / 2))) (((A 26) lo) - (4 * (yS s0)))))))))) 27 (upd (upd (A 27) n0 ((A 24) n0)) n0 (ms ((A 24) n0) ((((ms (ms (2 * (yS s0)) (((A 24) n0) + ((yS s0) / 2))) (((A 26) lo) - (4 * (yS s0)))) + (4 * (yT s0))) - (((ms (ms (4 * (yS s0)) (((A 23) n0) - (2 * (yS s0)))) (((A 27) u) + (yS s0))) - ((A 27) u)) - (((A 26) lo) - (ms (ms (2 * (yS s0)) (((A 24) n0) + ((yS s0) / 2))) (((A 26) lo) - (4 * (yS s0))))))) + ((A 27) lo))))) th co at_ wr no nu op pi wi he de) hP mkM_u27
                  refine lv_aload_n hx hb (fh_d d_Mo_setScripts 410 rfl) rfl (lv_at hl 8 rfl) ?_
                  refine fh_get (own := "FormulaSetterModel") (ref := "FormulaSetterModel") (C := "FormulaSetterModel") (T := T_Mo) (N := 53) (v := .ref (x + 26)) hx hb hT i_Mo hown hK hP mkM_o rfl 32 (by decide) (hT _ w892) (fun _ h9 => h9) rfl (fh_d d_Mo_setScripts 411 rfl) ?_
                  refine lv_iload_n hx hb (fh_d d_Mo_setScripts 412 rfl) rfl (lv_at hl 9 rfl) ?_
                  refine lv_iload hx hb (fh_d d_Mo_setScripts 413 rfl) (lv_at hl 0 rfl) ?_
                  refine lv_iload hx hb (fh_d d_Mo_setScripts 414 rfl) (lv_at hl 6 rfl) ?_
                  refine lv_iconst (v := 2) hx hb (fh_d d_Mo_setScripts 415 rfl) (by decide) ?_
                  refine lv_idiv hx hb (fh_d d_Mo_setScripts 416 rfl) (by decide) ?_
                  refine lv_iadd hx hb (fh_d d_Mo_setScripts 417 rfl) ?_
                  refine fn_iast (f := upd (A 25) n0 ((A 22) n0)) (k := n0) hx hb hK hP hS 0 mkM_a25 rfl (rfl) (by omega) (by decide) (fh_d d_Mo_setScripts 418 rfl) (fun H locs hP hS => ?_)
                  replace hP := fh_P.eq (h' := mkM ct x g (up2 (up2 (up2 (up2 (up2 (up2 (up2 (up2 (up2 (up2 (up2 A 25 (upd (A 25) n0 ((A 22) n0))) 26 (upd (A 26) n0 ((A 23) n0))) 27 (upd (A 27) n0 ((A 24) n0))) 28 (upd (A 28) n0 0)) 29 (upd (A 29) u ((A 22) n0))) 30 (upd (A 30) u (ms (ms (4 * (yS s0)) (((A 23) n0) - (2 * (yS s0)))) (((A 27) u) + (yS s0))))) 26 (upd (upd (A 26) n0 ((A 23) n0)) n0 (ms ((A 23) n0) ((ms (ms (4 * (yS s0)) (((A 23) n0) - (2 * (yS s0)))) (((A 27) u) + (yS s0))) + ((A 26) u))))) 29 (upd (upd (A 29) u ((A 22) n0)) lo (((A 22) n0) - (yS s0)))) 30 (upd (upd (A 30) u (ms (ms (4 * (yS s0)) (((A 23) n0) - (2 * (yS s0)))) (((A 27) u) + (yS s0)))) lo (-(((ms (ms (2 * (yS s0)) (((A 24) n0) + ((yS s0) / 2))) (((A 26) lo) - (4 * (yS s0)))) + (4 * (yT s0))) - (((ms (ms (4 * (yS s0)) (((A 23) n0) - (2 * (yS s0)))) (((A 27) u) + (yS s0))) - ((A 27) u)) - (((A 26) lo) - (ms (ms (2 * (yS s0)) (((A 24) n0) + ((yS s0) / 2))) (((A 26) lo) - (4 * (yS s0)))))))))) 27 (upd (upd (A 27) n0 ((A 24) n0)) n0 (ms ((A 24) n0) ((((ms (ms (2 * (yS s0)) (((A 24) n0) + ((yS s0) / 2))) (((A 26) lo) - (4 * (yS s0)))) + (4 * (yT s0))) - (((ms (ms (4 * (yS s0)) (((A 23) n0) - (2 * (yS s0)))) (((A 27) u) + (yS s0))) - ((A 27) u)) - (((A 26) lo) - (ms (ms (2 * (yS s0)) (((A 24) n0) + ((yS s0) / 2))) (((A 26) lo) - (4 * (yS s0))))))) + ((A 27) lo))))) 25 (upd (upd (A 25) n0 ((A 22) n0)) n0 ((ms (((A 22) n0) + ((A 25) u)) ((((A 22) n0) - (yS s0)) + ((A 25) lo))) + ((yS s0) / 2)))) th co at_ wr no nu op pi wi he de) hP mkM_u25
                  exact fh_vret X hP hS (fh_d d_Mo_setScripts 419 rfl) ⟨rfl, by unfold rf_sc; rw [if_neg h0u, if_neg h0l, if_neg hk0, if_neg hlm, if_pos hcr, if_pos hg, if_pos hk2, if_pos hc3]; (try rfl), rfl⟩
                · skip
                  refine lv_istore (lv' := [(8, .int (((ms (ms (2 * (yS s0)) (((A 24) n0) + ((yS s0) / 2))) (((A 26) lo) - (4 * (yS s0)))) + (4 * (yT s0))) - (((ms (ms (4 * (yS s0)) (((A 23) n0) - (2 * (yS s0)))) (((A 27) u) + (yS s0))) - ((A 27) u)) - (((A 26) lo) - (ms (ms (2 * (yS s0)) (((A 24) n0) + ((yS s0) / 2))) (((A 26) lo) - (4 * (yS s0)))))))), (9, .int (((ms (ms (4 * (yS s0)) (((A 23) n0) - (2 * (yS s0)))) (((A 27) u) + (yS s0))) - ((A 27) u)) - (((A 26) lo) - (ms (ms (2 * (yS s0)) (((A 24) n0) + ((yS s0) / 2))) (((A 26) lo) - (4 * (yS s0))))))), (7, .int (((A 22) n0) + ((A 25) u))), (6, .int (ms (ms (4 * (yS s0)) (((A 23) n0) - (2 * (yS s0)))) (((A 27) u) + (yS s0)))), (2, .int (nI u)), (3, .int (nI lo)), (4, .int (yS s0)), (5, .int (yT s0)), (0, .ref x), (1, .int (nI n0))]) hx hb (fh_d d_Mo_setScripts 349 rfl) hl (by decide) rfl (fun ls hl => ?_)
                  refine lv_aload_n hx hb (fh_d d_Mo_setScripts 350 rfl) rfl (lv_at hl 8 rfl) ?_
                  refine fh_get (own := "FormulaSetterModel") (ref := "FormulaSetterModel") (C := "FormulaSetterModel") (T := T_Mo) (N := 53) (v := .ref (x + 30)) hx hb hT i_Mo hown hK hP mkM_o rfl 36 (by decide) (hT _ w896) (fun _ h9 => h9) rfl (fh_d d_Mo_setScripts 351 rfl) ?_
                  refine lv_iload_n hx hb (fh_d d_Mo_setScripts 352 rfl) rfl (lv_at hl 5 rfl) ?_
                  refine lv_aload_n hx hb (fh_d d_Mo_setScripts 353 rfl) rfl (lv_at hl 8 rfl) ?_
                  refine fh_get (own := "FormulaSetterModel") (ref := "FormulaSetterModel") (C := "FormulaSetterModel") (T := T_Mo) (N := 53) (v := .ref (x + 2)) hx hb hT i_Mo hown hK hP mkM_o rfl 7 (by decide) (hT _ w867) (fun _ h9 => h9) rfl (fh_d d_Mo_setScripts 354 rfl) ?_
                  refine lv_iload_n hx hb (fh_d d_Mo_setScripts 355 rfl) rfl (lv_at hl 9 rfl) ?_
                  refine fn_iald (f := A 1) (k := n0) hx hb hK hP 0 mkM_a1 rfl (rfl) (by omega) (by decide) (fh_d d_Mo_setScripts 356 rfl) ?_
                  refine lv_iconst (v := 2) hx hb (fh_d d_Mo_setScripts 357 rfl) (by decide) ?_
                  refine lv_icmp_ne (tgt := 588) hx hb (fh_d d_Mo_setScripts 358 rfl) rfl (fun c90 => absurd c90 (Classical.not_not.mpr (hk2))) (fun c90 => ?_)
                  refine lv_aload_n hx hb (fh_d d_Mo_setScripts 359 rfl) rfl (lv_at hl 8 rfl) ?_
                  refine fh_get (own := "FormulaSetterModel") (ref := "FormulaSetterModel") (C := "FormulaSetterModel") (T := T_Mo) (N := 53) (v := .ref (x + 3)) hx hb hT i_Mo hown hK hP mkM_o rfl 8 (by decide) (hT _ w868) (fun _ h9 => h9) rfl (fh_d d_Mo_setScripts 360 rfl) ?_
                  refine lv_iload_n hx hb (fh_d d_Mo_setScripts 361 rfl) rfl (lv_at hl 9 rfl) ?_
                  refine fn_iald (f := A 2) (k := n0) hx hb hK hP 0 mkM_a2 rfl (rfl) (by omega) (by decide) (fh_d d_Mo_setScripts 362 rfl) ?_
                  refine lv_bipush (v := 73) hx hb (fh_d d_Mo_setScripts 363 rfl) (by decide) ?_
                  refine lv_icmp_ne (tgt := 588) hx hb (fh_d d_Mo_setScripts 364 rfl) rfl (fun c91 => ?_) (fun c91 => absurd c91 (hc3))
                  refine lv_aload_n hx hb (fh_d d_Mo_setScripts 372 rfl) rfl (lv_at hl 8 rfl) ?_
                  refine fh_get (own := "FormulaSetterModel") (ref := "FormulaSetterModel") (C := "FormulaSetterModel") (T := T_Mo) (N := 53) (v := .ref (x + 23)) hx hb hT i_Mo hown hK hP mkM_o rfl 29 (by decide) (hT _ w889) (fun _ h9 => h9) rfl (fh_d d_Mo_setScripts 373 rfl) ?_
                  refine lv_iload_n hx hb (fh_d d_Mo_setScripts 374 rfl) rfl (lv_at hl 9 rfl) ?_
                  refine fn_iald (f := A 22) (k := n0) hx hb hK hP 0 mkM_a22 rfl (rfl) (by omega) (by decide) (fh_d d_Mo_setScripts 375 rfl) ?_
                  refine fn_iast (f := upd (A 29) u ((A 22) n0)) (k := lo) hx hb hK hP hS 0 mkM_a29 rfl (rfl) (by omega) (by decide) (fh_d d_Mo_setScripts 376 rfl) (fun H locs hP hS => ?_)
                  replace hP := fh_P.eq (h' := mkM ct x g (up2 (up2 (up2 (up2 (up2 (up2 (up2 (up2 A 25 (upd (A 25) n0 ((A 22) n0))) 26 (upd (A 26) n0 ((A 23) n0))) 27 (upd (A 27) n0 ((A 24) n0))) 28 (upd (A 28) n0 0)) 29 (upd (A 29) u ((A 22) n0))) 30 (upd (A 30) u (ms (ms (4 * (yS s0)) (((A 23) n0) - (2 * (yS s0)))) (((A 27) u) + (yS s0))))) 26 (upd (upd (A 26) n0 ((A 23) n0)) n0 (ms ((A 23) n0) ((ms (ms (4 * (yS s0)) (((A 23) n0) - (2 * (yS s0)))) (((A 27) u) + (yS s0))) + ((A 26) u))))) 29 (upd (upd (A 29) u ((A 22) n0)) lo ((A 22) n0))) th co at_ wr no nu op pi wi he de) hP mkM_u29
                  refine lv_aload_n hx hb (fh_d d_Mo_setScripts 377 rfl) rfl (lv_at hl 8 rfl) ?_
                  refine fh_get (own := "FormulaSetterModel") (ref := "FormulaSetterModel") (C := "FormulaSetterModel") (T := T_Mo) (N := 53) (v := .ref (x + 31)) hx hb hT i_Mo hown hK hP mkM_o rfl 37 (by decide) (hT _ w897) (fun _ h9 => h9) rfl (fh_d d_Mo_setScripts 378 rfl) ?_
                  refine lv_iload_n hx hb (fh_d d_Mo_setScripts 379 rfl) rfl (lv_at hl 5 rfl) ?_
                  refine lv_iload hx hb (fh_d d_Mo_setScripts 380 rfl) (lv_at hl 0 rfl) ?_
                  refine lv_ineg hx hb (fh_d d_Mo_setScripts 381 rfl) ?_
                  refine fn_iast (f := upd (A 30) u (ms (ms (4 * (yS s0)) (((A 23) n0) - (2 * (yS s0)))) (((A 27) u) + (yS s0)))) (k := lo) hx hb hK hP hS 0 mkM_a30 rfl (rfl) (by omega) (by decide) (fh_d d_Mo_setScripts 382 rfl) (fun H locs hP hS => ?_)
                  replace hP := fh_P.eq (h' := mkM ct x g (up2 (up2 (up2 (up2 (up2 (up2 (up2 (up2 (up2 A 25 (upd (A 25) n0 ((A 22) n0))) 26 (upd (A 26) n0 ((A 23) n0))) 27 (upd (A 27) n0 ((A 24) n0))) 28 (upd (A 28) n0 0)) 29 (upd (A 29) u ((A 22) n0))) 30 (upd (A 30) u (ms (ms (4 * (yS s0)) (((A 23) n0) - (2 * (yS s0)))) (((A 27) u) + (yS s0))))) 26 (upd (upd (A 26) n0 ((A 23) n0)) n0 (ms ((A 23) n0) ((ms (ms (4 * (yS s0)) (((A 23) n0) - (2 * (yS s0)))) (((A 27) u) + (yS s0))) + ((A 26) u))))) 29 (upd (upd (A 29) u ((A 22) n0)) lo ((A 22) n0))) 30 (upd (upd (A 30) u (ms (ms (4 * (yS s0)) (((A 23) n0) - (2 * (yS s0)))) (((A 27) u) + (yS s0)))) lo (-(((ms (ms (2 * (yS s0)) (((A 24) n0) + ((yS s0) / 2))) (((A 26) lo) - (4 * (yS s0)))) + (4 * (yT s0))) - (((ms (ms (4 * (yS s0)) (((A 23) n0) - (2 * (yS s0)))) (((A 27) u) + (yS s0))) - ((A 27) u)) - (((A 26) lo) - (ms (ms (2 * (yS s0)) (((A 24) n0) + ((yS s0) / 2))) (((A 26) lo) - (4 * (yS s0)))))))))) th co at_ wr no nu op pi wi he de) hP mkM_u30
                  refine lv_iload hx hb (fh_d d_Mo_setScripts 383 rfl) (lv_at hl 2 rfl) ?_
                  refine lv_aload_n hx hb (fh_d d_Mo_setScripts 384 rfl) rfl (lv_at hl 8 rfl) ?_
                  refine fh_get (own := "FormulaSetterModel") (ref := "FormulaSetterModel") (C := "FormulaSetterModel") (T := T_Mo) (N := 53) (v := .ref (x + 30)) hx hb hT i_Mo hown hK hP mkM_o rfl 36 (by decide) (hT _ w896) (fun _ h9 => h9) rfl (fh_d d_Mo_setScripts 385 rfl) ?_
                  refine lv_iload_n hx hb (fh_d d_Mo_setScripts 386 rfl) rfl (lv_at hl 5 rfl) ?_
                  refine fn_iald (f := upd (upd (A 29) u ((A 22) n0)) lo ((A 22) n0)) (k := lo) hx hb hK hP 0 mkM_a29 rfl (rfl) (by omega) (by decide) (fh_d d_Mo_setScripts 387 rfl) ?_
                  rw [show ((upd (upd (A 29) u ((A 22) n0)) lo ((A 22) n0)) lo) = ((A 22) n0) from upd_s]
                  refine lv_aload_n hx hb (fh_d d_Mo_setScripts 388 rfl) rfl (lv_at hl 8 rfl) ?_
                  refine fh_get (own := "FormulaSetterModel") (ref := "FormulaSetterModel") (C := "FormulaSetterModel") (T := T_Mo) (N := 53) (v := .ref (x + 26)) hx hb hT i_Mo hown hK hP mkM_o rfl 32 (by decide) (hT _ w892) (fun _ h9 => h9) rfl (fh_d d_Mo_setScripts 389 rfl) ?_
                  refine lv_iload_n hx hb (fh_d d_Mo_setScripts 390 rfl) rfl (lv_at hl 5 rfl) ?_
                  refine fn_iald (f := upd (A 25) n0 ((A 22) n0)) (k := lo) hx hb hK hP 0 mkM_a25 rfl (rfl) (by omega) (by decide) (fh_d d_Mo_setScripts 391 rfl) ?_
                  rw [show ((upd (A 25) n0 ((A 22) n0)) lo) = (A 25) lo from by simp only [upd_n (hln h0l)]]
                  refine lv_iadd hx hb (fh_d d_Mo_setScripts 392 rfl) ?_
                  refine fh_callS (cc' := c_Mo_most) (nL' := 2) (rest := []) (av := [.int (((A 22) n0) + ((A 25) u)), .int (((A 22) n0) + ((A 25) lo))]) X hR (m_Mo_most l D ct b RO (r - 1) n (((A 22) n0) + ((A 25) u)) (((A 22) n0) + ((A 25) lo)) (mkM ct x g (up2 (up2 (up2 (up2 (up2 (up2 (up2 (up2 (up2 A 25 (upd (A 25) n0 ((A 22) n0))) 26 (upd (A 26) n0 ((A 23) n0))) 27 (upd (A 27) n0 ((A 24) n0))) 28 (upd (A 28) n0 0)) 29 (upd (A 29) u ((A 22) n0))) 30 (upd (A 30) u (ms (ms (4 * (yS s0)) (((A 23) n0) - (2 * (yS s0)))) (((A 27) u) + (yS s0))))) 26 (upd (upd (A 26) n0 ((A 23) n0)) n0 (ms ((A 23) n0) ((ms (ms (4 * (yS s0)) (((A 23) n0) - (2 * (yS s0)))) (((A 27) u) + (yS s0))) + ((A 26) u))))) 29 (upd (upd (A 29) u ((A 22) n0)) lo ((A 22) n0))) 30 (upd (upd (A 30) u (ms (ms (4 * (yS s0)) (((A 23) n0) - (2 * (yS s0)))) (((A 27) u) + (yS s0)))) lo (-(((ms (ms (2 * (yS s0)) (((A 24) n0) + ((yS s0) / 2))) (((A 26) lo) - (4 * (yS s0)))) + (4 * (yT s0))) - (((ms (ms (4 * (yS s0)) (((A 23) n0) - (2 * (yS s0)))) (((A 27) u) + (yS s0))) - ((A 27) u)) - (((A 26) lo) - (ms (ms (2 * (yS s0)) (((A 24) n0) + ((yS s0) / 2))) (((A 26) lo) - (4 * (yS s0)))))))))) th co at_ wr no nu op pi wi he de)) w1151 w1149 w1150 w9 ⟨by decide, by decide, by show _ = some 2; decide +kernel⟩ (by omega) (by decide) hP hS hl.1 rfl (by exact Nat.le_of_ble_eq_true rfl) (fh_d d_Mo_setScripts 393 rfl) ⟨Nat.le_refl _, Nat.le_refl _⟩ (fun v9 h9 n9 H locs hq hP hS => ?_)
                  obtain ⟨rfl, q92a, q92b⟩ := hq
                  rw [q92a, q92b] at hP
                  refine W.eq (g2 := F0 m 622 ls [.int (ms (((A 22) n0) + ((A 25) u)) (((A 22) n0) + ((A 25) lo)))]) rfl ?_
                  refine lv_istore (lv' := [(7, .int (ms (((A 22) n0) + ((A 25) u)) (((A 22) n0) + ((A 25) lo)))), (8, .int (((ms (ms (2 * (yS s0)) (((A 24) n0) + ((yS s0) / 2))) (((A 26) lo) - (4 * (yS s0)))) + (4 * (yT s0))) - (((ms (ms (4 * (yS s0)) (((A 23) n0) - (2 * (yS s0)))) (((A 27) u) + (yS s0))) - ((A 27) u)) - (((A 26) lo) - (ms (ms (2 * (yS s0)) (((A 24) n0) + ((yS s0) / 2))) (((A 26) lo) - (4 * (yS s0)))))))), (9, .int (((ms (ms (4 * (yS s0)) (((A 23) n0) - (2 * (yS s0)))) (((A 27) u) + (yS s0))) - ((A 27) u)) - (((A 26) lo) - (ms (ms (2 * (yS s0)) (((A 24) n0) + ((yS s0) / 2))) (((A 26) lo) - (4 * (yS s0))))))), (6, .int (ms (ms (4 * (yS s0)) (((A 23) n0) - (2 * (yS s0)))) (((A 27) u) + (yS s0)))), (2, .int (nI u)), (3, .int (nI lo)), (4, .int (yS s0)), (5, .int (yT s0)), (0, .ref x), (1, .int (nI n0))]) hx hb (fh_d d_Mo_setScripts 394 rfl) hl (by decide) rfl (fun ls hl => ?_)
                  refine lv_aload_n hx hb (fh_d d_Mo_setScripts 395 rfl) rfl (lv_at hl 8 rfl) ?_
                  refine fh_get (own := "FormulaSetterModel") (ref := "FormulaSetterModel") (C := "FormulaSetterModel") (T := T_Mo) (N := 53) (v := .ref (x + 28)) hx hb hT i_Mo hown hK hP mkM_o rfl 34 (by decide) (hT _ w894) (fun _ h9 => h9) rfl (fh_d d_Mo_setScripts 396 rfl) ?_
                  refine lv_iload_n hx hb (fh_d d_Mo_setScripts 397 rfl) rfl (lv_at hl 9 rfl) ?_
                  refine lv_aload_n hx hb (fh_d d_Mo_setScripts 398 rfl) rfl (lv_at hl 8 rfl) ?_
                  refine fh_get (own := "FormulaSetterModel") (ref := "FormulaSetterModel") (C := "FormulaSetterModel") (T := T_Mo) (N := 53) (v := .ref (x + 25)) hx hb hT i_Mo hown hK hP mkM_o rfl 31 (by decide) (hT _ w891) (fun _ h9 => h9) rfl (fh_d d_Mo_setScripts 399 rfl) ?_
                  refine lv_iload_n hx hb (fh_d d_Mo_setScripts 400 rfl) rfl (lv_at hl 9 rfl) ?_
                  refine fn_iald (f := A 24) (k := n0) hx hb hK hP 0 mkM_a24 rfl (rfl) (by omega) (by decide) (fh_d d_Mo_setScripts 401 rfl) ?_
                  refine lv_iload hx hb (fh_d d_Mo_setScripts 402 rfl) (lv_at hl 1 rfl) ?_
                  refine lv_aload_n hx hb (fh_d d_Mo_setScripts 403 rfl) rfl (lv_at hl 8 rfl) ?_
                  refine fh_get (own := "FormulaSetterModel") (ref := "FormulaSetterModel") (C := "FormulaSetterModel") (T := T_Mo) (N := 53) (v := .ref (x + 28)) hx hb hT i_Mo hown hK hP mkM_o rfl 34 (by decide) (hT _ w894) (fun _ h9 => h9) rfl (fh_d d_Mo_setScripts 404 rfl) ?_
                  refine lv_iload_n hx hb (fh_d d_Mo_setScripts 405 rfl) rfl (lv_at hl 5 rfl) ?_
                  refine fn_iald (f := upd (A 27) n0 ((A 24) n0)) (k := lo) hx hb hK hP 0 mkM_a27 rfl (rfl) (by omega) (by decide) (fh_d d_Mo_setScripts 406 rfl) ?_
                  rw [show ((upd (A 27) n0 ((A 24) n0)) lo) = (A 27) lo from by simp only [upd_n (hln h0l)]]
                  refine lv_iadd hx hb (fh_d d_Mo_setScripts 407 rfl) ?_
                  refine fh_callS (cc' := c_Mo_most) (nL' := 2) (rest := [.int (nI n0), .ref (x + 28)]) (av := [.int ((A 24) n0), .int ((((ms (ms (2 * (yS s0)) (((A 24) n0) + ((yS s0) / 2))) (((A 26) lo) - (4 * (yS s0)))) + (4 * (yT s0))) - (((ms (ms (4 * (yS s0)) (((A 23) n0) - (2 * (yS s0)))) (((A 27) u) + (yS s0))) - ((A 27) u)) - (((A 26) lo) - (ms (ms (2 * (yS s0)) (((A 24) n0) + ((yS s0) / 2))) (((A 26) lo) - (4 * (yS s0))))))) + ((A 27) lo))]) X hR (m_Mo_most l D ct b RO (r - 1) n ((A 24) n0) ((((ms (ms (2 * (yS s0)) (((A 24) n0) + ((yS s0) / 2))) (((A 26) lo) - (4 * (yS s0)))) + (4 * (yT s0))) - (((ms (ms (4 * (yS s0)) (((A 23) n0) - (2 * (yS s0)))) (((A 27) u) + (yS s0))) - ((A 27) u)) - (((A 26) lo) - (ms (ms (2 * (yS s0)) (((A 24) n0) + ((yS s0) / 2))) (((A 26) lo) - (4 * (yS s0))))))) + ((A 27) lo)) (mkM ct x g (up2 (up2 (up2 (up2 (up2 (up2 (up2 (up2 (up2 A 25 (upd (A 25) n0 ((A 22) n0))) 26 (upd (A 26) n0 ((A 23) n0))) 27 (upd (A 27) n0 ((A 24) n0))) 28 (upd (A 28) n0 0)) 29 (upd (A 29) u ((A 22) n0))) 30 (upd (A 30) u (ms (ms (4 * (yS s0)) (((A 23) n0) - (2 * (yS s0)))) (((A 27) u) + (yS s0))))) 26 (upd (upd (A 26) n0 ((A 23) n0)) n0 (ms ((A 23) n0) ((ms (ms (4 * (yS s0)) (((A 23) n0) - (2 * (yS s0)))) (((A 27) u) + (yS s0))) + ((A 26) u))))) 29 (upd (upd (A 29) u ((A 22) n0)) lo ((A 22) n0))) 30 (upd (upd (A 30) u (ms (ms (4 * (yS s0)) (((A 23) n0) - (2 * (yS s0)))) (((A 27) u) + (yS s0)))) lo (-(((ms (ms (2 * (yS s0)) (((A 24) n0) + ((yS s0) / 2))) (((A 26) lo) - (4 * (yS s0)))) + (4 * (yT s0))) - (((ms (ms (4 * (yS s0)) (((A 23) n0) - (2 * (yS s0)))) (((A 27) u) + (yS s0))) - ((A 27) u)) - (((A 26) lo) - (ms (ms (2 * (yS s0)) (((A 24) n0) + ((yS s0) / 2))) (((A 26) lo) - (4 * (yS s0)))))))))) th co at_ wr no nu op pi wi he de)) w1151 w1149 w1150 w9 ⟨by decide, by decide, by show _ = some 2; decide +kernel⟩ (by omega) (by decide) hP hS hl.1 rfl (by exact Nat.le_of_ble_eq_true rfl) (fh_d d_Mo_setScripts 408 rfl) ⟨Nat.le_refl _, Nat.le_refl _⟩ (fun v9 h9 n9 H locs hq hP hS => ?_)
                  obtain ⟨rfl, q93a, q93b⟩ := hq
                  rw [q93a, q93b] at hP
                  refine W.eq (g2 := F0 m 647 ls [.int (ms ((A 24) n0) ((((ms (ms (2 * (yS s0)) (((A 24) n0) + ((yS s0) / 2))) (((A 26) lo) - (4 * (yS s0)))) + (4 * (yT s0))) - (((ms (ms (4 * (yS s0)) (((A 23) n0) - (2 * (yS s0)))) (((A 27) u) + (yS s0))) - ((A 27) u)) - (((A 26) lo) - (ms (ms (2 * (yS s0)) (((A 24) n0) + ((yS s0) / 2))) (((A 26) lo) - (4 * (yS s0))))))) + ((A 27) lo))), .int (nI n0), .ref (x + 28)]) rfl ?_
                  refine fn_iast (f := upd (A 27) n0 ((A 24) n0)) (k := n0) hx hb hK hP hS 0 mkM_a27 rfl (rfl) (by omega) (by decide) (fh_d d_Mo_setScripts 409 rfl) (fun H locs hP hS => ?_)
                  replace hP := fh_P.eq (h' := mkM ct x g (up2 (up2 (up2 (up2 (up2 (up2 (up2 (up2 (up2 (up2 A 25 (upd (A 25) n0 ((A 22) n0))) 26 (upd (A 26) n0 ((A 23) n0))) 27 (upd (A 27) n0 ((A 24) n0))) 28 (upd (A 28) n0 0)) 29 (upd (A 29) u ((A 22) n0))) 30 (upd (A 30) u (ms (ms (4 * (yS s0)) (((A 23) n0) - (2 * (yS s0)))) (((A 27) u) + (yS s0))))) 26 (upd (upd (A 26) n0 ((A 23) n0)) n0 (ms ((A 23) n0) ((ms (ms (4 * (yS s0)) (((A 23) n0) - (2 * (yS s0)))) (((A 27) u) + (yS s0))) + ((A 26) u))))) 29 (upd (upd (A 29) u ((A 22) n0)) lo ((A 22) n0))) 30 (upd (upd (A 30) u (ms (ms (4 * (yS s0)) (((A 23) n0) - (2 * (yS s0)))) (((A 27) u) + (yS s0)))) lo (-(((ms (ms (2 * (yS s0)) (((A 24) n0) + ((yS s0) / 2))) (((A 26) lo) - (4 * (yS s0)))) + (4 * (yT s0))) - (((ms (ms (4 * (yS s0)) (((A 23) n0) - (2 * (yS s0)))) (((A 27) u) + (yS s0))) - ((A 27) u)) - (((A 26) lo) - (ms (ms (2 * (yS s0)) (((A 24) n0) + ((yS s0) / 2))) (((A 26) lo) - (4 * (yS s0)))))))))) 27 (upd (upd (A 27) n0 ((A 24) n0)) n0 (ms ((A 24) n0) ((((ms (ms (2 * (yS s0)) (((A 24) n0) + ((yS s0) / 2))) (((A 26) lo) - (4 * (yS s0)))) + (4 * (yT s0))) - (((ms (ms (4 * (yS s0)) (((A 23) n0) - (2 * (yS s0)))) (((A 27) u) + (yS s0))) - ((A 27) u)) - (((A 26) lo) - (ms (ms (2 * (yS s0)) (((A 24) n0) + ((yS s0) / 2))) (((A 26) lo) - (4 * (yS s0))))))) + ((A 27) lo))))) th co at_ wr no nu op pi wi he de) hP mkM_u27
                  refine lv_aload_n hx hb (fh_d d_Mo_setScripts 410 rfl) rfl (lv_at hl 8 rfl) ?_
                  refine fh_get (own := "FormulaSetterModel") (ref := "FormulaSetterModel") (C := "FormulaSetterModel") (T := T_Mo) (N := 53) (v := .ref (x + 26)) hx hb hT i_Mo hown hK hP mkM_o rfl 32 (by decide) (hT _ w892) (fun _ h9 => h9) rfl (fh_d d_Mo_setScripts 411 rfl) ?_
                  refine lv_iload_n hx hb (fh_d d_Mo_setScripts 412 rfl) rfl (lv_at hl 9 rfl) ?_
                  refine lv_iload hx hb (fh_d d_Mo_setScripts 413 rfl) (lv_at hl 0 rfl) ?_
                  refine lv_iload hx hb (fh_d d_Mo_setScripts 414 rfl) (lv_at hl 6 rfl) ?_
                  refine lv_iconst (v := 2) hx hb (fh_d d_Mo_setScripts 415 rfl) (by decide) ?_
                  refine lv_idiv hx hb (fh_d d_Mo_setScripts 416 rfl) (by decide) ?_
                  refine lv_iadd hx hb (fh_d d_Mo_setScripts 417 rfl) ?_
                  refine fn_iast (f := upd (A 25) n0 ((A 22) n0)) (k := n0) hx hb hK hP hS 0 mkM_a25 rfl (rfl) (by omega) (by decide) (fh_d d_Mo_setScripts 418 rfl) (fun H locs hP hS => ?_)
                  replace hP := fh_P.eq (h' := mkM ct x g (up2 (up2 (up2 (up2 (up2 (up2 (up2 (up2 (up2 (up2 (up2 A 25 (upd (A 25) n0 ((A 22) n0))) 26 (upd (A 26) n0 ((A 23) n0))) 27 (upd (A 27) n0 ((A 24) n0))) 28 (upd (A 28) n0 0)) 29 (upd (A 29) u ((A 22) n0))) 30 (upd (A 30) u (ms (ms (4 * (yS s0)) (((A 23) n0) - (2 * (yS s0)))) (((A 27) u) + (yS s0))))) 26 (upd (upd (A 26) n0 ((A 23) n0)) n0 (ms ((A 23) n0) ((ms (ms (4 * (yS s0)) (((A 23) n0) - (2 * (yS s0)))) (((A 27) u) + (yS s0))) + ((A 26) u))))) 29 (upd (upd (A 29) u ((A 22) n0)) lo ((A 22) n0))) 30 (upd (upd (A 30) u (ms (ms (4 * (yS s0)) (((A 23) n0) - (2 * (yS s0)))) (((A 27) u) + (yS s0)))) lo (-(((ms (ms (2 * (yS s0)) (((A 24) n0) + ((yS s0) / 2))) (((A 26) lo) - (4 * (yS s0)))) + (4 * (yT s0))) - (((ms (ms (4 * (yS s0)) (((A 23) n0) - (2 * (yS s0)))) (((A 27) u) + (yS s0))) - ((A 27) u)) - (((A 26) lo) - (ms (ms (2 * (yS s0)) (((A 24) n0) + ((yS s0) / 2))) (((A 26) lo) - (4 * (yS s0)))))))))) 27 (upd (upd (A 27) n0 ((A 24) n0)) n0 (ms ((A 24) n0) ((((ms (ms (2 * (yS s0)) (((A 24) n0) + ((yS s0) / 2))) (((A 26) lo) - (4 * (yS s0)))) + (4 * (yT s0))) - (((ms (ms (4 * (yS s0)) (((A 23) n0) - (2 * (yS s0)))) (((A 27) u) + (yS s0))) - ((A 27) u)) - (((A 26) lo) - (ms (ms (2 * (yS s0)) (((A 24) n0) + ((yS s0) / 2))) (((A 26) lo) - (4 * (yS s0))))))) + ((A 27) lo))))) 25 (upd (upd (A 25) n0 ((A 22) n0)) n0 ((ms (((A 22) n0) + ((A 25) u)) (((A 22) n0) + ((A 25) lo))) + ((yS s0) / 2)))) th co at_ wr no nu op pi wi he de) hP mkM_u25
                  exact fh_vret X hP hS (fh_d d_Mo_setScripts 419 rfl) ⟨rfl, by unfold rf_sc; rw [if_neg h0u, if_neg h0l, if_neg hk0, if_neg hlm, if_pos hcr, if_pos hg, if_pos hk2, if_neg hc3]; (try rfl), rfl⟩
              · skip
                refine lv_istore (lv' := [(8, .int (((ms (ms (2 * (yS s0)) (((A 24) n0) + ((yS s0) / 2))) (((A 26) lo) - (4 * (yS s0)))) + (4 * (yT s0))) - (((ms (ms (4 * (yS s0)) (((A 23) n0) - (2 * (yS s0)))) (((A 27) u) + (yS s0))) - ((A 27) u)) - (((A 26) lo) - (ms (ms (2 * (yS s0)) (((A 24) n0) + ((yS s0) / 2))) (((A 26) lo) - (4 * (yS s0)))))))), (9, .int (((ms (ms (4 * (yS s0)) (((A 23) n0) - (2 * (yS s0)))) (((A 27) u) + (yS s0))) - ((A 27) u)) - (((A 26) lo) - (ms (ms (2 * (yS s0)) (((A 24) n0) + ((yS s0) / 2))) (((A 26) lo) - (4 * (yS s0))))))), (7, .int (((A 22) n0) + ((A 25) u))), (6, .int (ms (ms (4 * (yS s0)) (((A 23) n0) - (2 * (yS s0)))) (((A 27) u) + (yS s0)))), (2, .int (nI u)), (3, .int (nI lo)), (4, .int (yS s0)), (5, .int (yT s0)), (0, .ref x), (1, .int (nI n0))]) hx hb (fh_d d_Mo_setScripts 349 rfl) hl (by decide) rfl (fun ls hl => ?_)
                refine lv_aload_n hx hb (fh_d d_Mo_setScripts 350 rfl) rfl (lv_at hl 8 rfl) ?_
                refine fh_get (own := "FormulaSetterModel") (ref := "FormulaSetterModel") (C := "FormulaSetterModel") (T := T_Mo) (N := 53) (v := .ref (x + 30)) hx hb hT i_Mo hown hK hP mkM_o rfl 36 (by decide) (hT _ w896) (fun _ h9 => h9) rfl (fh_d d_Mo_setScripts 351 rfl) ?_
                refine lv_iload_n hx hb (fh_d d_Mo_setScripts 352 rfl) rfl (lv_at hl 5 rfl) ?_
                refine lv_aload_n hx hb (fh_d d_Mo_setScripts 353 rfl) rfl (lv_at hl 8 rfl) ?_
                refine fh_get (own := "FormulaSetterModel") (ref := "FormulaSetterModel") (C := "FormulaSetterModel") (T := T_Mo) (N := 53) (v := .ref (x + 2)) hx hb hT i_Mo hown hK hP mkM_o rfl 7 (by decide) (hT _ w867) (fun _ h9 => h9) rfl (fh_d d_Mo_setScripts 354 rfl) ?_
                refine lv_iload_n hx hb (fh_d d_Mo_setScripts 355 rfl) rfl (lv_at hl 9 rfl) ?_
                refine fn_iald (f := A 1) (k := n0) hx hb hK hP 0 mkM_a1 rfl (rfl) (by omega) (by decide) (fh_d d_Mo_setScripts 356 rfl) ?_
                refine lv_iconst (v := 2) hx hb (fh_d d_Mo_setScripts 357 rfl) (by decide) ?_
                refine lv_icmp_ne (tgt := 588) hx hb (fh_d d_Mo_setScripts 358 rfl) rfl (fun c94 => ?_) (fun c94 => absurd c94 (hk2))
                refine lv_aload_n hx hb (fh_d d_Mo_setScripts 372 rfl) rfl (lv_at hl 8 rfl) ?_
                refine fh_get (own := "FormulaSetterModel") (ref := "FormulaSetterModel") (C := "FormulaSetterModel") (T := T_Mo) (N := 53) (v := .ref (x + 23)) hx hb hT i_Mo hown hK hP mkM_o rfl 29 (by decide) (hT _ w889) (fun _ h9 => h9) rfl (fh_d d_Mo_setScripts 373 rfl) ?_
                refine lv_iload_n hx hb (fh_d d_Mo_setScripts 374 rfl) rfl (lv_at hl 9 rfl) ?_
                refine fn_iald (f := A 22) (k := n0) hx hb hK hP 0 mkM_a22 rfl (rfl) (by omega) (by decide) (fh_d d_Mo_setScripts 375 rfl) ?_
                refine fn_iast (f := upd (A 29) u ((A 22) n0)) (k := lo) hx hb hK hP hS 0 mkM_a29 rfl (rfl) (by omega) (by decide) (fh_d d_Mo_setScripts 376 rfl) (fun H locs hP hS => ?_)
                replace hP := fh_P.eq (h' := mkM ct x g (up2 (up2 (up2 (up2 (up2 (up2 (up2 (up2 A 25 (upd (A 25) n0 ((A 22) n0))) 26 (upd (A 26) n0 ((A 23) n0))) 27 (upd (A 27) n0 ((A 24) n0))) 28 (upd (A 28) n0 0)) 29 (upd (A 29) u ((A 22) n0))) 30 (upd (A 30) u (ms (ms (4 * (yS s0)) (((A 23) n0) - (2 * (yS s0)))) (((A 27) u) + (yS s0))))) 26 (upd (upd (A 26) n0 ((A 23) n0)) n0 (ms ((A 23) n0) ((ms (ms (4 * (yS s0)) (((A 23) n0) - (2 * (yS s0)))) (((A 27) u) + (yS s0))) + ((A 26) u))))) 29 (upd (upd (A 29) u ((A 22) n0)) lo ((A 22) n0))) th co at_ wr no nu op pi wi he de) hP mkM_u29
                refine lv_aload_n hx hb (fh_d d_Mo_setScripts 377 rfl) rfl (lv_at hl 8 rfl) ?_
                refine fh_get (own := "FormulaSetterModel") (ref := "FormulaSetterModel") (C := "FormulaSetterModel") (T := T_Mo) (N := 53) (v := .ref (x + 31)) hx hb hT i_Mo hown hK hP mkM_o rfl 37 (by decide) (hT _ w897) (fun _ h9 => h9) rfl (fh_d d_Mo_setScripts 378 rfl) ?_
                refine lv_iload_n hx hb (fh_d d_Mo_setScripts 379 rfl) rfl (lv_at hl 5 rfl) ?_
                refine lv_iload hx hb (fh_d d_Mo_setScripts 380 rfl) (lv_at hl 0 rfl) ?_
                refine lv_ineg hx hb (fh_d d_Mo_setScripts 381 rfl) ?_
                refine fn_iast (f := upd (A 30) u (ms (ms (4 * (yS s0)) (((A 23) n0) - (2 * (yS s0)))) (((A 27) u) + (yS s0)))) (k := lo) hx hb hK hP hS 0 mkM_a30 rfl (rfl) (by omega) (by decide) (fh_d d_Mo_setScripts 382 rfl) (fun H locs hP hS => ?_)
                replace hP := fh_P.eq (h' := mkM ct x g (up2 (up2 (up2 (up2 (up2 (up2 (up2 (up2 (up2 A 25 (upd (A 25) n0 ((A 22) n0))) 26 (upd (A 26) n0 ((A 23) n0))) 27 (upd (A 27) n0 ((A 24) n0))) 28 (upd (A 28) n0 0)) 29 (upd (A 29) u ((A 22) n0))) 30 (upd (A 30) u (ms (ms (4 * (yS s0)) (((A 23) n0) - (2 * (yS s0)))) (((A 27) u) + (yS s0))))) 26 (upd (upd (A 26) n0 ((A 23) n0)) n0 (ms ((A 23) n0) ((ms (ms (4 * (yS s0)) (((A 23) n0) - (2 * (yS s0)))) (((A 27) u) + (yS s0))) + ((A 26) u))))) 29 (upd (upd (A 29) u ((A 22) n0)) lo ((A 22) n0))) 30 (upd (upd (A 30) u (ms (ms (4 * (yS s0)) (((A 23) n0) - (2 * (yS s0)))) (((A 27) u) + (yS s0)))) lo (-(((ms (ms (2 * (yS s0)) (((A 24) n0) + ((yS s0) / 2))) (((A 26) lo) - (4 * (yS s0)))) + (4 * (yT s0))) - (((ms (ms (4 * (yS s0)) (((A 23) n0) - (2 * (yS s0)))) (((A 27) u) + (yS s0))) - ((A 27) u)) - (((A 26) lo) - (ms (ms (2 * (yS s0)) (((A 24) n0) + ((yS s0) / 2))) (((A 26) lo) - (4 * (yS s0)))))))))) th co at_ wr no nu op pi wi he de) hP mkM_u30
                refine lv_iload hx hb (fh_d d_Mo_setScripts 383 rfl) (lv_at hl 2 rfl) ?_
                refine lv_aload_n hx hb (fh_d d_Mo_setScripts 384 rfl) rfl (lv_at hl 8 rfl) ?_
                refine fh_get (own := "FormulaSetterModel") (ref := "FormulaSetterModel") (C := "FormulaSetterModel") (T := T_Mo) (N := 53) (v := .ref (x + 30)) hx hb hT i_Mo hown hK hP mkM_o rfl 36 (by decide) (hT _ w896) (fun _ h9 => h9) rfl (fh_d d_Mo_setScripts 385 rfl) ?_
                refine lv_iload_n hx hb (fh_d d_Mo_setScripts 386 rfl) rfl (lv_at hl 5 rfl) ?_
                refine fn_iald (f := upd (upd (A 29) u ((A 22) n0)) lo ((A 22) n0)) (k := lo) hx hb hK hP 0 mkM_a29 rfl (rfl) (by omega) (by decide) (fh_d d_Mo_setScripts 387 rfl) ?_
                rw [show ((upd (upd (A 29) u ((A 22) n0)) lo ((A 22) n0)) lo) = ((A 22) n0) from upd_s]
                refine lv_aload_n hx hb (fh_d d_Mo_setScripts 388 rfl) rfl (lv_at hl 8 rfl) ?_
                refine fh_get (own := "FormulaSetterModel") (ref := "FormulaSetterModel") (C := "FormulaSetterModel") (T := T_Mo) (N := 53) (v := .ref (x + 26)) hx hb hT i_Mo hown hK hP mkM_o rfl 32 (by decide) (hT _ w892) (fun _ h9 => h9) rfl (fh_d d_Mo_setScripts 389 rfl) ?_
                refine lv_iload_n hx hb (fh_d d_Mo_setScripts 390 rfl) rfl (lv_at hl 5 rfl) ?_
                refine fn_iald (f := upd (A 25) n0 ((A 22) n0)) (k := lo) hx hb hK hP 0 mkM_a25 rfl (rfl) (by omega) (by decide) (fh_d d_Mo_setScripts 391 rfl) ?_
                rw [show ((upd (A 25) n0 ((A 22) n0)) lo) = (A 25) lo from by simp only [upd_n (hln h0l)]]
                refine lv_iadd hx hb (fh_d d_Mo_setScripts 392 rfl) ?_
                refine fh_callS (cc' := c_Mo_most) (nL' := 2) (rest := []) (av := [.int (((A 22) n0) + ((A 25) u)), .int (((A 22) n0) + ((A 25) lo))]) X hR (m_Mo_most l D ct b RO (r - 1) n (((A 22) n0) + ((A 25) u)) (((A 22) n0) + ((A 25) lo)) (mkM ct x g (up2 (up2 (up2 (up2 (up2 (up2 (up2 (up2 (up2 A 25 (upd (A 25) n0 ((A 22) n0))) 26 (upd (A 26) n0 ((A 23) n0))) 27 (upd (A 27) n0 ((A 24) n0))) 28 (upd (A 28) n0 0)) 29 (upd (A 29) u ((A 22) n0))) 30 (upd (A 30) u (ms (ms (4 * (yS s0)) (((A 23) n0) - (2 * (yS s0)))) (((A 27) u) + (yS s0))))) 26 (upd (upd (A 26) n0 ((A 23) n0)) n0 (ms ((A 23) n0) ((ms (ms (4 * (yS s0)) (((A 23) n0) - (2 * (yS s0)))) (((A 27) u) + (yS s0))) + ((A 26) u))))) 29 (upd (upd (A 29) u ((A 22) n0)) lo ((A 22) n0))) 30 (upd (upd (A 30) u (ms (ms (4 * (yS s0)) (((A 23) n0) - (2 * (yS s0)))) (((A 27) u) + (yS s0)))) lo (-(((ms (ms (2 * (yS s0)) (((A 24) n0) + ((yS s0) / 2))) (((A 26) lo) - (4 * (yS s0)))) + (4 * (yT s0))) - (((ms (ms (4 * (yS s0)) (((A 23) n0) - (2 * (yS s0)))) (((A 27) u) + (yS s0))) - ((A 27) u)) - (((A 26) lo) - (ms (ms (2 * (yS s0)) (((A 24) n0) + ((yS s0) / 2))) (((A 26) lo) - (4 * (yS s0)))))))))) th co at_ wr no nu op pi wi he de)) w1151 w1149 w1150 w9 ⟨by decide, by decide, by show _ = some 2; decide +kernel⟩ (by omega) (by decide) hP hS hl.1 rfl (by exact Nat.le_of_ble_eq_true rfl) (fh_d d_Mo_setScripts 393 rfl) ⟨Nat.le_refl _, Nat.le_refl _⟩ (fun v9 h9 n9 H locs hq hP hS => ?_)
                obtain ⟨rfl, q95a, q95b⟩ := hq
                rw [q95a, q95b] at hP
                refine W.eq (g2 := F0 m 622 ls [.int (ms (((A 22) n0) + ((A 25) u)) (((A 22) n0) + ((A 25) lo)))]) rfl ?_
                refine lv_istore (lv' := [(7, .int (ms (((A 22) n0) + ((A 25) u)) (((A 22) n0) + ((A 25) lo)))), (8, .int (((ms (ms (2 * (yS s0)) (((A 24) n0) + ((yS s0) / 2))) (((A 26) lo) - (4 * (yS s0)))) + (4 * (yT s0))) - (((ms (ms (4 * (yS s0)) (((A 23) n0) - (2 * (yS s0)))) (((A 27) u) + (yS s0))) - ((A 27) u)) - (((A 26) lo) - (ms (ms (2 * (yS s0)) (((A 24) n0) + ((yS s0) / 2))) (((A 26) lo) - (4 * (yS s0)))))))), (9, .int (((ms (ms (4 * (yS s0)) (((A 23) n0) - (2 * (yS s0)))) (((A 27) u) + (yS s0))) - ((A 27) u)) - (((A 26) lo) - (ms (ms (2 * (yS s0)) (((A 24) n0) + ((yS s0) / 2))) (((A 26) lo) - (4 * (yS s0))))))), (6, .int (ms (ms (4 * (yS s0)) (((A 23) n0) - (2 * (yS s0)))) (((A 27) u) + (yS s0)))), (2, .int (nI u)), (3, .int (nI lo)), (4, .int (yS s0)), (5, .int (yT s0)), (0, .ref x), (1, .int (nI n0))]) hx hb (fh_d d_Mo_setScripts 394 rfl) hl (by decide) rfl (fun ls hl => ?_)
                refine lv_aload_n hx hb (fh_d d_Mo_setScripts 395 rfl) rfl (lv_at hl 8 rfl) ?_
                refine fh_get (own := "FormulaSetterModel") (ref := "FormulaSetterModel") (C := "FormulaSetterModel") (T := T_Mo) (N := 53) (v := .ref (x + 28)) hx hb hT i_Mo hown hK hP mkM_o rfl 34 (by decide) (hT _ w894) (fun _ h9 => h9) rfl (fh_d d_Mo_setScripts 396 rfl) ?_
                refine lv_iload_n hx hb (fh_d d_Mo_setScripts 397 rfl) rfl (lv_at hl 9 rfl) ?_
                refine lv_aload_n hx hb (fh_d d_Mo_setScripts 398 rfl) rfl (lv_at hl 8 rfl) ?_
                refine fh_get (own := "FormulaSetterModel") (ref := "FormulaSetterModel") (C := "FormulaSetterModel") (T := T_Mo) (N := 53) (v := .ref (x + 25)) hx hb hT i_Mo hown hK hP mkM_o rfl 31 (by decide) (hT _ w891) (fun _ h9 => h9) rfl (fh_d d_Mo_setScripts 399 rfl) ?_
                refine lv_iload_n hx hb (fh_d d_Mo_setScripts 400 rfl) rfl (lv_at hl 9 rfl) ?_
                refine fn_iald (f := A 24) (k := n0) hx hb hK hP 0 mkM_a24 rfl (rfl) (by omega) (by decide) (fh_d d_Mo_setScripts 401 rfl) ?_
                refine lv_iload hx hb (fh_d d_Mo_setScripts 402 rfl) (lv_at hl 1 rfl) ?_
                refine lv_aload_n hx hb (fh_d d_Mo_setScripts 403 rfl) rfl (lv_at hl 8 rfl) ?_
                refine fh_get (own := "FormulaSetterModel") (ref := "FormulaSetterModel") (C := "FormulaSetterModel") (T := T_Mo) (N := 53) (v := .ref (x + 28)) hx hb hT i_Mo hown hK hP mkM_o rfl 34 (by decide) (hT _ w894) (fun _ h9 => h9) rfl (fh_d d_Mo_setScripts 404 rfl) ?_
                refine lv_iload_n hx hb (fh_d d_Mo_setScripts 405 rfl) rfl (lv_at hl 5 rfl) ?_
                refine fn_iald (f := upd (A 27) n0 ((A 24) n0)) (k := lo) hx hb hK hP 0 mkM_a27 rfl (rfl) (by omega) (by decide) (fh_d d_Mo_setScripts 406 rfl) ?_
                rw [show ((upd (A 27) n0 ((A 24) n0)) lo) = (A 27) lo from by simp only [upd_n (hln h0l)]]
                refine lv_iadd hx hb (fh_d d_Mo_setScripts 407 rfl) ?_
                refine fh_callS (cc' := c_Mo_most) (nL' := 2) (rest := [.int (nI n0), .ref (x + 28)]) (av := [.int ((A 24) n0), .int ((((ms (ms (2 * (yS s0)) (((A 24) n0) + ((yS s0) / 2))) (((A 26) lo) - (4 * (yS s0)))) + (4 * (yT s0))) - (((ms (ms (4 * (yS s0)) (((A 23) n0) - (2 * (yS s0)))) (((A 27) u) + (yS s0))) - ((A 27) u)) - (((A 26) lo) - (ms (ms (2 * (yS s0)) (((A 24) n0) + ((yS s0) / 2))) (((A 26) lo) - (4 * (yS s0))))))) + ((A 27) lo))]) X hR (m_Mo_most l D ct b RO (r - 1) n ((A 24) n0) ((((ms (ms (2 * (yS s0)) (((A 24) n0) + ((yS s0) / 2))) (((A 26) lo) - (4 * (yS s0)))) + (4 * (yT s0))) - (((ms (ms (4 * (yS s0)) (((A 23) n0) - (2 * (yS s0)))) (((A 27) u) + (yS s0))) - ((A 27) u)) - (((A 26) lo) - (ms (ms (2 * (yS s0)) (((A 24) n0) + ((yS s0) / 2))) (((A 26) lo) - (4 * (yS s0))))))) + ((A 27) lo)) (mkM ct x g (up2 (up2 (up2 (up2 (up2 (up2 (up2 (up2 (up2 A 25 (upd (A 25) n0 ((A 22) n0))) 26 (upd (A 26) n0 ((A 23) n0))) 27 (upd (A 27) n0 ((A 24) n0))) 28 (upd (A 28) n0 0)) 29 (upd (A 29) u ((A 22) n0))) 30 (upd (A 30) u (ms (ms (4 * (yS s0)) (((A 23) n0) - (2 * (yS s0)))) (((A 27) u) + (yS s0))))) 26 (upd (upd (A 26) n0 ((A 23) n0)) n0 (ms ((A 23) n0) ((ms (ms (4 * (yS s0)) (((A 23) n0) - (2 * (yS s0)))) (((A 27) u) + (yS s0))) + ((A 26) u))))) 29 (upd (upd (A 29) u ((A 22) n0)) lo ((A 22) n0))) 30 (upd (upd (A 30) u (ms (ms (4 * (yS s0)) (((A 23) n0) - (2 * (yS s0)))) (((A 27) u) + (yS s0)))) lo (-(((ms (ms (2 * (yS s0)) (((A 24) n0) + ((yS s0) / 2))) (((A 26) lo) - (4 * (yS s0)))) + (4 * (yT s0))) - (((ms (ms (4 * (yS s0)) (((A 23) n0) - (2 * (yS s0)))) (((A 27) u) + (yS s0))) - ((A 27) u)) - (((A 26) lo) - (ms (ms (2 * (yS s0)) (((A 24) n0) + ((yS s0) / 2))) (((A 26) lo) - (4 * (yS s0)))))))))) th co at_ wr no nu op pi wi he de)) w1151 w1149 w1150 w9 ⟨by decide, by decide, by show _ = some 2; decide +kernel⟩ (by omega) (by decide) hP hS hl.1 rfl (by exact Nat.le_of_ble_eq_true rfl) (fh_d d_Mo_setScripts 408 rfl) ⟨Nat.le_refl _, Nat.le_refl _⟩ (fun v9 h9 n9 H locs hq hP hS => ?_)
                obtain ⟨rfl, q96a, q96b⟩ := hq
                rw [q96a, q96b] at hP
                refine W.eq (g2 := F0 m 647 ls [.int (ms ((A 24) n0) ((((ms (ms (2 * (yS s0)) (((A 24) n0) + ((yS s0) / 2))) (((A 26) lo) - (4 * (yS s0)))) + (4 * (yT s0))) - (((ms (ms (4 * (yS s0)) (((A 23) n0) - (2 * (yS s0)))) (((A 27) u) + (yS s0))) - ((A 27) u)) - (((A 26) lo) - (ms (ms (2 * (yS s0)) (((A 24) n0) + ((yS s0) / 2))) (((A 26) lo) - (4 * (yS s0))))))) + ((A 27) lo))), .int (nI n0), .ref (x + 28)]) rfl ?_
                refine fn_iast (f := upd (A 27) n0 ((A 24) n0)) (k := n0) hx hb hK hP hS 0 mkM_a27 rfl (rfl) (by omega) (by decide) (fh_d d_Mo_setScripts 409 rfl) (fun H locs hP hS => ?_)
                replace hP := fh_P.eq (h' := mkM ct x g (up2 (up2 (up2 (up2 (up2 (up2 (up2 (up2 (up2 (up2 A 25 (upd (A 25) n0 ((A 22) n0))) 26 (upd (A 26) n0 ((A 23) n0))) 27 (upd (A 27) n0 ((A 24) n0))) 28 (upd (A 28) n0 0)) 29 (upd (A 29) u ((A 22) n0))) 30 (upd (A 30) u (ms (ms (4 * (yS s0)) (((A 23) n0) - (2 * (yS s0)))) (((A 27) u) + (yS s0))))) 26 (upd (upd (A 26) n0 ((A 23) n0)) n0 (ms ((A 23) n0) ((ms (ms (4 * (yS s0)) (((A 23) n0) - (2 * (yS s0)))) (((A 27) u) + (yS s0))) + ((A 26) u))))) 29 (upd (upd (A 29) u ((A 22) n0)) lo ((A 22) n0))) 30 (upd (upd (A 30) u (ms (ms (4 * (yS s0)) (((A 23) n0) - (2 * (yS s0)))) (((A 27) u) + (yS s0)))) lo (-(((ms (ms (2 * (yS s0)) (((A 24) n0) + ((yS s0) / 2))) (((A 26) lo) - (4 * (yS s0)))) + (4 * (yT s0))) - (((ms (ms (4 * (yS s0)) (((A 23) n0) - (2 * (yS s0)))) (((A 27) u) + (yS s0))) - ((A 27) u)) - (((A 26) lo) - (ms (ms (2 * (yS s0)) (((A 24) n0) + ((yS s0) / 2))) (((A 26) lo) - (4 * (yS s0)))))))))) 27 (upd (upd (A 27) n0 ((A 24) n0)) n0 (ms ((A 24) n0) ((((ms (ms (2 * (yS s0)) (((A 24) n0) + ((yS s0) / 2))) (((A 26) lo) - (4 * (yS s0)))) + (4 * (yT s0))) - (((ms (ms (4 * (yS s0)) (((A 23) n0) - (2 * (yS s0)))) (((A 27) u) + (yS s0))) - ((A 27) u)) - (((A 26) lo) - (ms (ms (2 * (yS s0)) (((A 24) n0) + ((yS s0) / 2))) (((A 26) lo) - (4 * (yS s0))))))) + ((A 27) lo))))) th co at_ wr no nu op pi wi he de) hP mkM_u27
                refine lv_aload_n hx hb (fh_d d_Mo_setScripts 410 rfl) rfl (lv_at hl 8 rfl) ?_
                refine fh_get (own := "FormulaSetterModel") (ref := "FormulaSetterModel") (C := "FormulaSetterModel") (T := T_Mo) (N := 53) (v := .ref (x + 26)) hx hb hT i_Mo hown hK hP mkM_o rfl 32 (by decide) (hT _ w892) (fun _ h9 => h9) rfl (fh_d d_Mo_setScripts 411 rfl) ?_
                refine lv_iload_n hx hb (fh_d d_Mo_setScripts 412 rfl) rfl (lv_at hl 9 rfl) ?_
                refine lv_iload hx hb (fh_d d_Mo_setScripts 413 rfl) (lv_at hl 0 rfl) ?_
                refine lv_iload hx hb (fh_d d_Mo_setScripts 414 rfl) (lv_at hl 6 rfl) ?_
                refine lv_iconst (v := 2) hx hb (fh_d d_Mo_setScripts 415 rfl) (by decide) ?_
                refine lv_idiv hx hb (fh_d d_Mo_setScripts 416 rfl) (by decide) ?_
                refine lv_iadd hx hb (fh_d d_Mo_setScripts 417 rfl) ?_
                refine fn_iast (f := upd (A 25) n0 ((A 22) n0)) (k := n0) hx hb hK hP hS 0 mkM_a25 rfl (rfl) (by omega) (by decide) (fh_d d_Mo_setScripts 418 rfl) (fun H locs hP hS => ?_)
                replace hP := fh_P.eq (h' := mkM ct x g (up2 (up2 (up2 (up2 (up2 (up2 (up2 (up2 (up2 (up2 (up2 A 25 (upd (A 25) n0 ((A 22) n0))) 26 (upd (A 26) n0 ((A 23) n0))) 27 (upd (A 27) n0 ((A 24) n0))) 28 (upd (A 28) n0 0)) 29 (upd (A 29) u ((A 22) n0))) 30 (upd (A 30) u (ms (ms (4 * (yS s0)) (((A 23) n0) - (2 * (yS s0)))) (((A 27) u) + (yS s0))))) 26 (upd (upd (A 26) n0 ((A 23) n0)) n0 (ms ((A 23) n0) ((ms (ms (4 * (yS s0)) (((A 23) n0) - (2 * (yS s0)))) (((A 27) u) + (yS s0))) + ((A 26) u))))) 29 (upd (upd (A 29) u ((A 22) n0)) lo ((A 22) n0))) 30 (upd (upd (A 30) u (ms (ms (4 * (yS s0)) (((A 23) n0) - (2 * (yS s0)))) (((A 27) u) + (yS s0)))) lo (-(((ms (ms (2 * (yS s0)) (((A 24) n0) + ((yS s0) / 2))) (((A 26) lo) - (4 * (yS s0)))) + (4 * (yT s0))) - (((ms (ms (4 * (yS s0)) (((A 23) n0) - (2 * (yS s0)))) (((A 27) u) + (yS s0))) - ((A 27) u)) - (((A 26) lo) - (ms (ms (2 * (yS s0)) (((A 24) n0) + ((yS s0) / 2))) (((A 26) lo) - (4 * (yS s0)))))))))) 27 (upd (upd (A 27) n0 ((A 24) n0)) n0 (ms ((A 24) n0) ((((ms (ms (2 * (yS s0)) (((A 24) n0) + ((yS s0) / 2))) (((A 26) lo) - (4 * (yS s0)))) + (4 * (yT s0))) - (((ms (ms (4 * (yS s0)) (((A 23) n0) - (2 * (yS s0)))) (((A 27) u) + (yS s0))) - ((A 27) u)) - (((A 26) lo) - (ms (ms (2 * (yS s0)) (((A 24) n0) + ((yS s0) / 2))) (((A 26) lo) - (4 * (yS s0))))))) + ((A 27) lo))))) 25 (upd (upd (A 25) n0 ((A 22) n0)) n0 ((ms (((A 22) n0) + ((A 25) u)) (((A 22) n0) + ((A 25) lo))) + ((yS s0) / 2)))) th co at_ wr no nu op pi wi he de) hP mkM_u25
                exact fh_vret X hP hS (fh_d d_Mo_setScripts 419 rfl) ⟨rfl, by unfold rf_sc; rw [if_neg h0u, if_neg h0l, if_neg hk0, if_neg hlm, if_pos hcr, if_pos hg, if_neg hk2]; (try rfl), rfl⟩
            · skip
              refine lv_iload hx hb (fh_d d_Mo_setScripts 335 rfl) (lv_at hl 0 rfl) ?_
              refine lv_iconst (v := 4) hx hb (fh_d d_Mo_setScripts 336 rfl) (by decide) ?_
              refine lv_iload hx hb (fh_d d_Mo_setScripts 337 rfl) (lv_at hl 7 rfl) ?_
              refine lv_imul hx hb (fh_d d_Mo_setScripts 338 rfl) ?_
              refine lv_icmp_ge (tgt := 546) hx hb (fh_d d_Mo_setScripts 339 rfl) rfl (fun c97 => ?_) (fun c97 => absurd c97 (Classical.not_not.mpr (Int32.not_lt.mp hg)))
              refine lv_iload hx hb (fh_d d_Mo_setScripts 348 rfl) (lv_at hl 1 rfl) ?_
              by_cases hk2 : A 1 n0 = 2
              · skip
                by_cases hc3 : A 2 n0 = 73
                · skip
                  refine lv_istore (lv' := [(8, .int (ms (ms (2 * (yS s0)) (((A 24) n0) + ((yS s0) / 2))) (((A 26) lo) - (4 * (yS s0))))), (9, .int (((ms (ms (4 * (yS s0)) (((A 23) n0) - (2 * (yS s0)))) (((A 27) u) + (yS s0))) - ((A 27) u)) - (((A 26) lo) - (ms (ms (2 * (yS s0)) (((A 24) n0) + ((yS s0) / 2))) (((A 26) lo) - (4 * (yS s0))))))), (7, .int (((A 22) n0) + ((A 25) u))), (6, .int (ms (ms (4 * (yS s0)) (((A 23) n0) - (2 * (yS s0)))) (((A 27) u) + (yS s0)))), (2, .int (nI u)), (3, .int (nI lo)), (4, .int (yS s0)), (5, .int (yT s0)), (0, .ref x), (1, .int (nI n0))]) hx hb (fh_d d_Mo_setScripts 349 rfl) hl (by decide) rfl (fun ls hl => ?_)
                  refine lv_aload_n hx hb (fh_d d_Mo_setScripts 350 rfl) rfl (lv_at hl 8 rfl) ?_
                  refine fh_get (own := "FormulaSetterModel") (ref := "FormulaSetterModel") (C := "FormulaSetterModel") (T := T_Mo) (N := 53) (v := .ref (x + 30)) hx hb hT i_Mo hown hK hP mkM_o rfl 36 (by decide) (hT _ w896) (fun _ h9 => h9) rfl (fh_d d_Mo_setScripts 351 rfl) ?_
                  refine lv_iload_n hx hb (fh_d d_Mo_setScripts 352 rfl) rfl (lv_at hl 5 rfl) ?_
                  refine lv_aload_n hx hb (fh_d d_Mo_setScripts 353 rfl) rfl (lv_at hl 8 rfl) ?_
                  refine fh_get (own := "FormulaSetterModel") (ref := "FormulaSetterModel") (C := "FormulaSetterModel") (T := T_Mo) (N := 53) (v := .ref (x + 2)) hx hb hT i_Mo hown hK hP mkM_o rfl 7 (by decide) (hT _ w867) (fun _ h9 => h9) rfl (fh_d d_Mo_setScripts 354 rfl) ?_
                  refine lv_iload_n hx hb (fh_d d_Mo_setScripts 355 rfl) rfl (lv_at hl 9 rfl) ?_
                  refine fn_iald (f := A 1) (k := n0) hx hb hK hP 0 mkM_a1 rfl (rfl) (by omega) (by decide) (fh_d d_Mo_setScripts 356 rfl) ?_
                  refine lv_iconst (v := 2) hx hb (fh_d d_Mo_setScripts 357 rfl) (by decide) ?_
                  refine lv_icmp_ne (tgt := 588) hx hb (fh_d d_Mo_setScripts 358 rfl) rfl (fun c98 => absurd c98 (Classical.not_not.mpr (hk2))) (fun c98 => ?_)
                  refine lv_aload_n hx hb (fh_d d_Mo_setScripts 359 rfl) rfl (lv_at hl 8 rfl) ?_
                  refine fh_get (own := "FormulaSetterModel") (ref := "FormulaSetterModel") (C := "FormulaSetterModel") (T := T_Mo) (N := 53) (v := .ref (x + 3)) hx hb hT i_Mo hown hK hP mkM_o rfl 8 (by decide) (hT _ w868) (fun _ h9 => h9) rfl (fh_d d_Mo_setScripts 360 rfl) ?_
                  refine lv_iload_n hx hb (fh_d d_Mo_setScripts 361 rfl) rfl (lv_at hl 9 rfl) ?_
                  refine fn_iald (f := A 2) (k := n0) hx hb hK hP 0 mkM_a2 rfl (rfl) (by omega) (by decide) (fh_d d_Mo_setScripts 362 rfl) ?_
                  refine lv_bipush (v := 73) hx hb (fh_d d_Mo_setScripts 363 rfl) (by decide) ?_
                  refine lv_icmp_ne (tgt := 588) hx hb (fh_d d_Mo_setScripts 364 rfl) rfl (fun c99 => absurd c99 (Classical.not_not.mpr (hc3))) (fun c99 => ?_)
                  refine lv_aload_n hx hb (fh_d d_Mo_setScripts 365 rfl) rfl (lv_at hl 8 rfl) ?_
                  refine fh_get (own := "FormulaSetterModel") (ref := "FormulaSetterModel") (C := "FormulaSetterModel") (T := T_Mo) (N := 53) (v := .ref (x + 23)) hx hb hT i_Mo hown hK hP mkM_o rfl 29 (by decide) (hT _ w889) (fun _ h9 => h9) rfl (fh_d d_Mo_setScripts 366 rfl) ?_
                  refine lv_iload_n hx hb (fh_d d_Mo_setScripts 367 rfl) rfl (lv_at hl 9 rfl) ?_
                  refine fn_iald (f := A 22) (k := n0) hx hb hK hP 0 mkM_a22 rfl (rfl) (by omega) (by decide) (fh_d d_Mo_setScripts 368 rfl) ?_
                  refine lv_iload hx hb (fh_d d_Mo_setScripts 369 rfl) (lv_at hl 6 rfl) ?_
                  refine lv_isub hx hb (fh_d d_Mo_setScripts 370 rfl) ?_
                  refine lv_goto (tgt := 594) hx hb (fh_d d_Mo_setScripts 371 rfl) rfl ?_
                  refine fn_iast (f := upd (A 29) u ((A 22) n0)) (k := lo) hx hb hK hP hS 0 mkM_a29 rfl (rfl) (by omega) (by decide) (fh_d d_Mo_setScripts 376 rfl) (fun H locs hP hS => ?_)
                  replace hP := fh_P.eq (h' := mkM ct x g (up2 (up2 (up2 (up2 (up2 (up2 (up2 (up2 A 25 (upd (A 25) n0 ((A 22) n0))) 26 (upd (A 26) n0 ((A 23) n0))) 27 (upd (A 27) n0 ((A 24) n0))) 28 (upd (A 28) n0 0)) 29 (upd (A 29) u ((A 22) n0))) 30 (upd (A 30) u (ms (ms (4 * (yS s0)) (((A 23) n0) - (2 * (yS s0)))) (((A 27) u) + (yS s0))))) 26 (upd (upd (A 26) n0 ((A 23) n0)) n0 (ms ((A 23) n0) ((ms (ms (4 * (yS s0)) (((A 23) n0) - (2 * (yS s0)))) (((A 27) u) + (yS s0))) + ((A 26) u))))) 29 (upd (upd (A 29) u ((A 22) n0)) lo (((A 22) n0) - (yS s0)))) th co at_ wr no nu op pi wi he de) hP mkM_u29
                  refine lv_aload_n hx hb (fh_d d_Mo_setScripts 377 rfl) rfl (lv_at hl 8 rfl) ?_
                  refine fh_get (own := "FormulaSetterModel") (ref := "FormulaSetterModel") (C := "FormulaSetterModel") (T := T_Mo) (N := 53) (v := .ref (x + 31)) hx hb hT i_Mo hown hK hP mkM_o rfl 37 (by decide) (hT _ w897) (fun _ h9 => h9) rfl (fh_d d_Mo_setScripts 378 rfl) ?_
                  refine lv_iload_n hx hb (fh_d d_Mo_setScripts 379 rfl) rfl (lv_at hl 5 rfl) ?_
                  refine lv_iload hx hb (fh_d d_Mo_setScripts 380 rfl) (lv_at hl 0 rfl) ?_
                  refine lv_ineg hx hb (fh_d d_Mo_setScripts 381 rfl) ?_
                  refine fn_iast (f := upd (A 30) u (ms (ms (4 * (yS s0)) (((A 23) n0) - (2 * (yS s0)))) (((A 27) u) + (yS s0)))) (k := lo) hx hb hK hP hS 0 mkM_a30 rfl (rfl) (by omega) (by decide) (fh_d d_Mo_setScripts 382 rfl) (fun H locs hP hS => ?_)
                  replace hP := fh_P.eq (h' := mkM ct x g (up2 (up2 (up2 (up2 (up2 (up2 (up2 (up2 (up2 A 25 (upd (A 25) n0 ((A 22) n0))) 26 (upd (A 26) n0 ((A 23) n0))) 27 (upd (A 27) n0 ((A 24) n0))) 28 (upd (A 28) n0 0)) 29 (upd (A 29) u ((A 22) n0))) 30 (upd (A 30) u (ms (ms (4 * (yS s0)) (((A 23) n0) - (2 * (yS s0)))) (((A 27) u) + (yS s0))))) 26 (upd (upd (A 26) n0 ((A 23) n0)) n0 (ms ((A 23) n0) ((ms (ms (4 * (yS s0)) (((A 23) n0) - (2 * (yS s0)))) (((A 27) u) + (yS s0))) + ((A 26) u))))) 29 (upd (upd (A 29) u ((A 22) n0)) lo (((A 22) n0) - (yS s0)))) 30 (upd (upd (A 30) u (ms (ms (4 * (yS s0)) (((A 23) n0) - (2 * (yS s0)))) (((A 27) u) + (yS s0)))) lo (-(ms (ms (2 * (yS s0)) (((A 24) n0) + ((yS s0) / 2))) (((A 26) lo) - (4 * (yS s0))))))) th co at_ wr no nu op pi wi he de) hP mkM_u30
                  refine lv_iload hx hb (fh_d d_Mo_setScripts 383 rfl) (lv_at hl 2 rfl) ?_
                  refine lv_aload_n hx hb (fh_d d_Mo_setScripts 384 rfl) rfl (lv_at hl 8 rfl) ?_
                  refine fh_get (own := "FormulaSetterModel") (ref := "FormulaSetterModel") (C := "FormulaSetterModel") (T := T_Mo) (N := 53) (v := .ref (x + 30)) hx hb hT i_Mo hown hK hP mkM_o rfl 36 (by decide) (hT _ w896) (fun _ h9 => h9) rfl (fh_d d_Mo_setScripts 385 rfl) ?_
                  refine lv_iload_n hx hb (fh_d d_Mo_setScripts 386 rfl) rfl (lv_at hl 5 rfl) ?_
                  refine fn_iald (f := upd (upd (A 29) u ((A 22) n0)) lo (((A 22) n0) - (yS s0))) (k := lo) hx hb hK hP 0 mkM_a29 rfl (rfl) (by omega) (by decide) (fh_d d_Mo_setScripts 387 rfl) ?_
                  rw [show ((upd (upd (A 29) u ((A 22) n0)) lo (((A 22) n0) - (yS s0))) lo) = (((A 22) n0) - (yS s0)) from upd_s]
                  refine lv_aload_n hx hb (fh_d d_Mo_setScripts 388 rfl) rfl (lv_at hl 8 rfl) ?_
                  refine fh_get (own := "FormulaSetterModel") (ref := "FormulaSetterModel") (C := "FormulaSetterModel") (T := T_Mo) (N := 53) (v := .ref (x + 26)) hx hb hT i_Mo hown hK hP mkM_o rfl 32 (by decide) (hT _ w892) (fun _ h9 => h9) rfl (fh_d d_Mo_setScripts 389 rfl) ?_
                  refine lv_iload_n hx hb (fh_d d_Mo_setScripts 390 rfl) rfl (lv_at hl 5 rfl) ?_
                  refine fn_iald (f := upd (A 25) n0 ((A 22) n0)) (k := lo) hx hb hK hP 0 mkM_a25 rfl (rfl) (by omega) (by decide) (fh_d d_Mo_setScripts 391 rfl) ?_
                  rw [show ((upd (A 25) n0 ((A 22) n0)) lo) = (A 25) lo from by simp only [upd_n (hln h0l)]]
                  refine lv_iadd hx hb (fh_d d_Mo_setScripts 392 rfl) ?_
                  refine fh_callS (cc' := c_Mo_most) (nL' := 2) (rest := []) (av := [.int (((A 22) n0) + ((A 25) u)), .int ((((A 22) n0) - (yS s0)) + ((A 25) lo))]) X hR (m_Mo_most l D ct b RO (r - 1) n (((A 22) n0) + ((A 25) u)) ((((A 22) n0) - (yS s0)) + ((A 25) lo)) (mkM ct x g (up2 (up2 (up2 (up2 (up2 (up2 (up2 (up2 (up2 A 25 (upd (A 25) n0 ((A 22) n0))) 26 (upd (A 26) n0 ((A 23) n0))) 27 (upd (A 27) n0 ((A 24) n0))) 28 (upd (A 28) n0 0)) 29 (upd (A 29) u ((A 22) n0))) 30 (upd (A 30) u (ms (ms (4 * (yS s0)) (((A 23) n0) - (2 * (yS s0)))) (((A 27) u) + (yS s0))))) 26 (upd (upd (A 26) n0 ((A 23) n0)) n0 (ms ((A 23) n0) ((ms (ms (4 * (yS s0)) (((A 23) n0) - (2 * (yS s0)))) (((A 27) u) + (yS s0))) + ((A 26) u))))) 29 (upd (upd (A 29) u ((A 22) n0)) lo (((A 22) n0) - (yS s0)))) 30 (upd (upd (A 30) u (ms (ms (4 * (yS s0)) (((A 23) n0) - (2 * (yS s0)))) (((A 27) u) + (yS s0)))) lo (-(ms (ms (2 * (yS s0)) (((A 24) n0) + ((yS s0) / 2))) (((A 26) lo) - (4 * (yS s0))))))) th co at_ wr no nu op pi wi he de)) w1151 w1149 w1150 w9 ⟨by decide, by decide, by show _ = some 2; decide +kernel⟩ (by omega) (by decide) hP hS hl.1 rfl (by exact Nat.le_of_ble_eq_true rfl) (fh_d d_Mo_setScripts 393 rfl) ⟨Nat.le_refl _, Nat.le_refl _⟩ (fun v9 h9 n9 H locs hq hP hS => ?_)
                  obtain ⟨rfl, q100a, q100b⟩ := hq
                  rw [q100a, q100b] at hP
                  refine W.eq (g2 := F0 m 622 ls [.int (ms (((A 22) n0) + ((A 25) u)) ((((A 22) n0) - (yS s0)) + ((A 25) lo)))]) rfl ?_
                  refine lv_istore (lv' := [(7, .int (ms (((A 22) n0) + ((A 25) u)) ((((A 22) n0) - (yS s0)) + ((A 25) lo)))), (8, .int (ms (ms (2 * (yS s0)) (((A 24) n0) + ((yS s0) / 2))) (((A 26) lo) - (4 * (yS s0))))), (9, .int (((ms (ms (4 * (yS s0)) (((A 23) n0) - (2 * (yS s0)))) (((A 27) u) + (yS s0))) - ((A 27) u)) - (((A 26) lo) - (ms (ms (2 * (yS s0)) (((A 24) n0) + ((yS s0) / 2))) (((A 26) lo) - (4 * (yS s0))))))), (6, .int (ms (ms (4 * (yS s0)) (((A 23) n0) - (2 * (yS s0)))) (((A 27) u) + (yS s0)))), (2, .int (nI u)), (3, .int (nI lo)), (4, .int (yS s0)), (5, .int (yT s0)), (0, .ref x), (1, .int (nI n0))]) hx hb (fh_d d_Mo_setScripts 394 rfl) hl (by decide) rfl (fun ls hl => ?_)
                  refine lv_aload_n hx hb (fh_d d_Mo_setScripts 395 rfl) rfl (lv_at hl 8 rfl) ?_
                  refine fh_get (own := "FormulaSetterModel") (ref := "FormulaSetterModel") (C := "FormulaSetterModel") (T := T_Mo) (N := 53) (v := .ref (x + 28)) hx hb hT i_Mo hown hK hP mkM_o rfl 34 (by decide) (hT _ w894) (fun _ h9 => h9) rfl (fh_d d_Mo_setScripts 396 rfl) ?_
                  refine lv_iload_n hx hb (fh_d d_Mo_setScripts 397 rfl) rfl (lv_at hl 9 rfl) ?_
                  refine lv_aload_n hx hb (fh_d d_Mo_setScripts 398 rfl) rfl (lv_at hl 8 rfl) ?_
                  refine fh_get (own := "FormulaSetterModel") (ref := "FormulaSetterModel") (C := "FormulaSetterModel") (T := T_Mo) (N := 53) (v := .ref (x + 25)) hx hb hT i_Mo hown hK hP mkM_o rfl 31 (by decide) (hT _ w891) (fun _ h9 => h9) rfl (fh_d d_Mo_setScripts 399 rfl) ?_
                  refine lv_iload_n hx hb (fh_d d_Mo_setScripts 400 rfl) rfl (lv_at hl 9 rfl) ?_
                  refine fn_iald (f := A 24) (k := n0) hx hb hK hP 0 mkM_a24 rfl (rfl) (by omega) (by decide) (fh_d d_Mo_setScripts 401 rfl) ?_
                  refine lv_iload hx hb (fh_d d_Mo_setScripts 402 rfl) (lv_at hl 1 rfl) ?_
                  refine lv_aload_n hx hb (fh_d d_Mo_setScripts 403 rfl) rfl (lv_at hl 8 rfl) ?_
                  refine fh_get (own := "FormulaSetterModel") (ref := "FormulaSetterModel") (C := "FormulaSetterModel") (T := T_Mo) (N := 53) (v := .ref (x + 28)) hx hb hT i_Mo hown hK hP mkM_o rfl 34 (by decide) (hT _ w894) (fun _ h9 => h9) rfl (fh_d d_Mo_setScripts 404 rfl) ?_
                  refine lv_iload_n hx hb (fh_d d_Mo_setScripts 405 rfl) rfl (lv_at hl 5 rfl) ?_
                  refine fn_iald (f := upd (A 27) n0 ((A 24) n0)) (k := lo) hx hb hK hP 0 mkM_a27 rfl (rfl) (by omega) (by decide) (fh_d d_Mo_setScripts 406 rfl) ?_
                  rw [show ((upd (A 27) n0 ((A 24) n0)) lo) = (A 27) lo from by simp only [upd_n (hln h0l)]]
                  refine lv_iadd hx hb (fh_d d_Mo_setScripts 407 rfl) ?_
                  refine fh_callS (cc' := c_Mo_most) (nL' := 2) (rest := [.int (nI n0), .ref (x + 28)]) (av := [.int ((A 24) n0), .int ((ms (ms (2 * (yS s0)) (((A 24) n0) + ((yS s0) / 2))) (((A 26) lo) - (4 * (yS s0)))) + ((A 27) lo))]) X hR (m_Mo_most l D ct b RO (r - 1) n ((A 24) n0) ((ms (ms (2 * (yS s0)) (((A 24) n0) + ((yS s0) / 2))) (((A 26) lo) - (4 * (yS s0)))) + ((A 27) lo)) (mkM ct x g (up2 (up2 (up2 (up2 (up2 (up2 (up2 (up2 (up2 A 25 (upd (A 25) n0 ((A 22) n0))) 26 (upd (A 26) n0 ((A 23) n0))) 27 (upd (A 27) n0 ((A 24) n0))) 28 (upd (A 28) n0 0)) 29 (upd (A 29) u ((A 22) n0))) 30 (upd (A 30) u (ms (ms (4 * (yS s0)) (((A 23) n0) - (2 * (yS s0)))) (((A 27) u) + (yS s0))))) 26 (upd (upd (A 26) n0 ((A 23) n0)) n0 (ms ((A 23) n0) ((ms (ms (4 * (yS s0)) (((A 23) n0) - (2 * (yS s0)))) (((A 27) u) + (yS s0))) + ((A 26) u))))) 29 (upd (upd (A 29) u ((A 22) n0)) lo (((A 22) n0) - (yS s0)))) 30 (upd (upd (A 30) u (ms (ms (4 * (yS s0)) (((A 23) n0) - (2 * (yS s0)))) (((A 27) u) + (yS s0)))) lo (-(ms (ms (2 * (yS s0)) (((A 24) n0) + ((yS s0) / 2))) (((A 26) lo) - (4 * (yS s0))))))) th co at_ wr no nu op pi wi he de)) w1151 w1149 w1150 w9 ⟨by decide, by decide, by show _ = some 2; decide +kernel⟩ (by omega) (by decide) hP hS hl.1 rfl (by exact Nat.le_of_ble_eq_true rfl) (fh_d d_Mo_setScripts 408 rfl) ⟨Nat.le_refl _, Nat.le_refl _⟩ (fun v9 h9 n9 H locs hq hP hS => ?_)
                  obtain ⟨rfl, q101a, q101b⟩ := hq
                  rw [q101a, q101b] at hP
                  refine W.eq (g2 := F0 m 647 ls [.int (ms ((A 24) n0) ((ms (ms (2 * (yS s0)) (((A 24) n0) + ((yS s0) / 2))) (((A 26) lo) - (4 * (yS s0)))) + ((A 27) lo))), .int (nI n0), .ref (x + 28)]) rfl ?_
                  refine fn_iast (f := upd (A 27) n0 ((A 24) n0)) (k := n0) hx hb hK hP hS 0 mkM_a27 rfl (rfl) (by omega) (by decide) (fh_d d_Mo_setScripts 409 rfl) (fun H locs hP hS => ?_)
                  replace hP := fh_P.eq (h' := mkM ct x g (up2 (up2 (up2 (up2 (up2 (up2 (up2 (up2 (up2 (up2 A 25 (upd (A 25) n0 ((A 22) n0))) 26 (upd (A 26) n0 ((A 23) n0))) 27 (upd (A 27) n0 ((A 24) n0))) 28 (upd (A 28) n0 0)) 29 (upd (A 29) u ((A 22) n0))) 30 (upd (A 30) u (ms (ms (4 * (yS s0)) (((A 23) n0) - (2 * (yS s0)))) (((A 27) u) + (yS s0))))) 26 (upd (upd (A 26) n0 ((A 23) n0)) n0 (ms ((A 23) n0) ((ms (ms (4 * (yS s0)) (((A 23) n0) - (2 * (yS s0)))) (((A 27) u) + (yS s0))) + ((A 26) u))))) 29 (upd (upd (A 29) u ((A 22) n0)) lo (((A 22) n0) - (yS s0)))) 30 (upd (upd (A 30) u (ms (ms (4 * (yS s0)) (((A 23) n0) - (2 * (yS s0)))) (((A 27) u) + (yS s0)))) lo (-(ms (ms (2 * (yS s0)) (((A 24) n0) + ((yS s0) / 2))) (((A 26) lo) - (4 * (yS s0))))))) 27 (upd (upd (A 27) n0 ((A 24) n0)) n0 (ms ((A 24) n0) ((ms (ms (2 * (yS s0)) (((A 24) n0) + ((yS s0) / 2))) (((A 26) lo) - (4 * (yS s0)))) + ((A 27) lo))))) th co at_ wr no nu op pi wi he de) hP mkM_u27
                  refine lv_aload_n hx hb (fh_d d_Mo_setScripts 410 rfl) rfl (lv_at hl 8 rfl) ?_
                  refine fh_get (own := "FormulaSetterModel") (ref := "FormulaSetterModel") (C := "FormulaSetterModel") (T := T_Mo) (N := 53) (v := .ref (x + 26)) hx hb hT i_Mo hown hK hP mkM_o rfl 32 (by decide) (hT _ w892) (fun _ h9 => h9) rfl (fh_d d_Mo_setScripts 411 rfl) ?_
                  refine lv_iload_n hx hb (fh_d d_Mo_setScripts 412 rfl) rfl (lv_at hl 9 rfl) ?_
                  refine lv_iload hx hb (fh_d d_Mo_setScripts 413 rfl) (lv_at hl 0 rfl) ?_
                  refine lv_iload hx hb (fh_d d_Mo_setScripts 414 rfl) (lv_at hl 6 rfl) ?_
                  refine lv_iconst (v := 2) hx hb (fh_d d_Mo_setScripts 415 rfl) (by decide) ?_
                  refine lv_idiv hx hb (fh_d d_Mo_setScripts 416 rfl) (by decide) ?_
                  refine lv_iadd hx hb (fh_d d_Mo_setScripts 417 rfl) ?_
                  refine fn_iast (f := upd (A 25) n0 ((A 22) n0)) (k := n0) hx hb hK hP hS 0 mkM_a25 rfl (rfl) (by omega) (by decide) (fh_d d_Mo_setScripts 418 rfl) (fun H locs hP hS => ?_)
                  replace hP := fh_P.eq (h' := mkM ct x g (up2 (up2 (up2 (up2 (up2 (up2 (up2 (up2 (up2 (up2 (up2 A 25 (upd (A 25) n0 ((A 22) n0))) 26 (upd (A 26) n0 ((A 23) n0))) 27 (upd (A 27) n0 ((A 24) n0))) 28 (upd (A 28) n0 0)) 29 (upd (A 29) u ((A 22) n0))) 30 (upd (A 30) u (ms (ms (4 * (yS s0)) (((A 23) n0) - (2 * (yS s0)))) (((A 27) u) + (yS s0))))) 26 (upd (upd (A 26) n0 ((A 23) n0)) n0 (ms ((A 23) n0) ((ms (ms (4 * (yS s0)) (((A 23) n0) - (2 * (yS s0)))) (((A 27) u) + (yS s0))) + ((A 26) u))))) 29 (upd (upd (A 29) u ((A 22) n0)) lo (((A 22) n0) - (yS s0)))) 30 (upd (upd (A 30) u (ms (ms (4 * (yS s0)) (((A 23) n0) - (2 * (yS s0)))) (((A 27) u) + (yS s0)))) lo (-(ms (ms (2 * (yS s0)) (((A 24) n0) + ((yS s0) / 2))) (((A 26) lo) - (4 * (yS s0))))))) 27 (upd (upd (A 27) n0 ((A 24) n0)) n0 (ms ((A 24) n0) ((ms (ms (2 * (yS s0)) (((A 24) n0) + ((yS s0) / 2))) (((A 26) lo) - (4 * (yS s0)))) + ((A 27) lo))))) 25 (upd (upd (A 25) n0 ((A 22) n0)) n0 ((ms (((A 22) n0) + ((A 25) u)) ((((A 22) n0) - (yS s0)) + ((A 25) lo))) + ((yS s0) / 2)))) th co at_ wr no nu op pi wi he de) hP mkM_u25
                  exact fh_vret X hP hS (fh_d d_Mo_setScripts 419 rfl) ⟨rfl, by unfold rf_sc; rw [if_neg h0u, if_neg h0l, if_neg hk0, if_neg hlm, if_pos hcr, if_neg hg, if_pos hk2, if_pos hc3]; (try rfl), rfl⟩
                · skip
                  refine lv_istore (lv' := [(8, .int (ms (ms (2 * (yS s0)) (((A 24) n0) + ((yS s0) / 2))) (((A 26) lo) - (4 * (yS s0))))), (9, .int (((ms (ms (4 * (yS s0)) (((A 23) n0) - (2 * (yS s0)))) (((A 27) u) + (yS s0))) - ((A 27) u)) - (((A 26) lo) - (ms (ms (2 * (yS s0)) (((A 24) n0) + ((yS s0) / 2))) (((A 26) lo) - (4 * (yS s0))))))), (7, .int (((A 22) n0) + ((A 25) u))), (6, .int (ms (ms (4 * (yS s0)) (((A 23) n0) - (2 * (yS s0)))) (((A 27) u) + (yS s0)))), (2, .int (nI u)), (3, .int (nI lo)), (4, .int (yS s0)), (5, .int (yT s0)), (0, .ref x), (1, .int (nI n0))]) hx hb (fh_d d_Mo_setScripts 349 rfl) hl (by decide) rfl (fun ls hl => ?_)
                  refine lv_aload_n hx hb (fh_d d_Mo_setScripts 350 rfl) rfl (lv_at hl 8 rfl) ?_
                  refine fh_get (own := "FormulaSetterModel") (ref := "FormulaSetterModel") (C := "FormulaSetterModel") (T := T_Mo) (N := 53) (v := .ref (x + 30)) hx hb hT i_Mo hown hK hP mkM_o rfl 36 (by decide) (hT _ w896) (fun _ h9 => h9) rfl (fh_d d_Mo_setScripts 351 rfl) ?_
                  refine lv_iload_n hx hb (fh_d d_Mo_setScripts 352 rfl) rfl (lv_at hl 5 rfl) ?_
                  refine lv_aload_n hx hb (fh_d d_Mo_setScripts 353 rfl) rfl (lv_at hl 8 rfl) ?_
                  refine fh_get (own := "FormulaSetterModel") (ref := "FormulaSetterModel") (C := "FormulaSetterModel") (T := T_Mo) (N := 53) (v := .ref (x + 2)) hx hb hT i_Mo hown hK hP mkM_o rfl 7 (by decide) (hT _ w867) (fun _ h9 => h9) rfl (fh_d d_Mo_setScripts 354 rfl) ?_
                  refine lv_iload_n hx hb (fh_d d_Mo_setScripts 355 rfl) rfl (lv_at hl 9 rfl) ?_
                  refine fn_iald (f := A 1) (k := n0) hx hb hK hP 0 mkM_a1 rfl (rfl) (by omega) (by decide) (fh_d d_Mo_setScripts 356 rfl) ?_
                  refine lv_iconst (v := 2) hx hb (fh_d d_Mo_setScripts 357 rfl) (by decide) ?_
                  refine lv_icmp_ne (tgt := 588) hx hb (fh_d d_Mo_setScripts 358 rfl) rfl (fun c102 => absurd c102 (Classical.not_not.mpr (hk2))) (fun c102 => ?_)
                  refine lv_aload_n hx hb (fh_d d_Mo_setScripts 359 rfl) rfl (lv_at hl 8 rfl) ?_
                  refine fh_get (own := "FormulaSetterModel") (ref := "FormulaSetterModel") (C := "FormulaSetterModel") (T := T_Mo) (N := 53) (v := .ref (x + 3)) hx hb hT i_Mo hown hK hP mkM_o rfl 8 (by decide) (hT _ w868) (fun _ h9 => h9) rfl (fh_d d_Mo_setScripts 360 rfl) ?_
                  refine lv_iload_n hx hb (fh_d d_Mo_setScripts 361 rfl) rfl (lv_at hl 9 rfl) ?_
                  refine fn_iald (f := A 2) (k := n0) hx hb hK hP 0 mkM_a2 rfl (rfl) (by omega) (by decide) (fh_d d_Mo_setScripts 362 rfl) ?_
                  refine lv_bipush (v := 73) hx hb (fh_d d_Mo_setScripts 363 rfl) (by decide) ?_
                  refine lv_icmp_ne (tgt := 588) hx hb (fh_d d_Mo_setScripts 364 rfl) rfl (fun c103 => ?_) (fun c103 => absurd c103 (hc3))
                  refine lv_aload_n hx hb (fh_d d_Mo_setScripts 372 rfl) rfl (lv_at hl 8 rfl) ?_
                  refine fh_get (own := "FormulaSetterModel") (ref := "FormulaSetterModel") (C := "FormulaSetterModel") (T := T_Mo) (N := 53) (v := .ref (x + 23)) hx hb hT i_Mo hown hK hP mkM_o rfl 29 (by decide) (hT _ w889) (fun _ h9 => h9) rfl (fh_d d_Mo_setScripts 373 rfl) ?_
                  refine lv_iload_n hx hb (fh_d d_Mo_setScripts 374 rfl) rfl (lv_at hl 9 rfl) ?_
                  refine fn_iald (f := A 22) (k := n0) hx hb hK hP 0 mkM_a22 rfl (rfl) (by omega) (by decide) (fh_d d_Mo_setScripts 375 rfl) ?_
                  refine fn_iast (f := upd (A 29) u ((A 22) n0)) (k := lo) hx hb hK hP hS 0 mkM_a29 rfl (rfl) (by omega) (by decide) (fh_d d_Mo_setScripts 376 rfl) (fun H locs hP hS => ?_)
                  replace hP := fh_P.eq (h' := mkM ct x g (up2 (up2 (up2 (up2 (up2 (up2 (up2 (up2 A 25 (upd (A 25) n0 ((A 22) n0))) 26 (upd (A 26) n0 ((A 23) n0))) 27 (upd (A 27) n0 ((A 24) n0))) 28 (upd (A 28) n0 0)) 29 (upd (A 29) u ((A 22) n0))) 30 (upd (A 30) u (ms (ms (4 * (yS s0)) (((A 23) n0) - (2 * (yS s0)))) (((A 27) u) + (yS s0))))) 26 (upd (upd (A 26) n0 ((A 23) n0)) n0 (ms ((A 23) n0) ((ms (ms (4 * (yS s0)) (((A 23) n0) - (2 * (yS s0)))) (((A 27) u) + (yS s0))) + ((A 26) u))))) 29 (upd (upd (A 29) u ((A 22) n0)) lo ((A 22) n0))) th co at_ wr no nu op pi wi he de) hP mkM_u29
                  refine lv_aload_n hx hb (fh_d d_Mo_setScripts 377 rfl) rfl (lv_at hl 8 rfl) ?_
                  refine fh_get (own := "FormulaSetterModel") (ref := "FormulaSetterModel") (C := "FormulaSetterModel") (T := T_Mo) (N := 53) (v := .ref (x + 31)) hx hb hT i_Mo hown hK hP mkM_o rfl 37 (by decide) (hT _ w897) (fun _ h9 => h9) rfl (fh_d d_Mo_setScripts 378 rfl) ?_
                  refine lv_iload_n hx hb (fh_d d_Mo_setScripts 379 rfl) rfl (lv_at hl 5 rfl) ?_
                  refine lv_iload hx hb (fh_d d_Mo_setScripts 380 rfl) (lv_at hl 0 rfl) ?_
                  refine lv_ineg hx hb (fh_d d_Mo_setScripts 381 rfl) ?_
                  refine fn_iast (f := upd (A 30) u (ms (ms (4 * (yS s0)) (((A 23) n0) - (2 * (yS s0)))) (((A 27) u) + (yS s0)))) (k := lo) hx hb hK hP hS 0 mkM_a30 rfl (rfl) (by omega) (by decide) (fh_d d_Mo_setScripts 382 rfl) (fun H locs hP hS => ?_)
                  replace hP := fh_P.eq (h' := mkM ct x g (up2 (up2 (up2 (up2 (up2 (up2 (up2 (up2 (up2 A 25 (upd (A 25) n0 ((A 22) n0))) 26 (upd (A 26) n0 ((A 23) n0))) 27 (upd (A 27) n0 ((A 24) n0))) 28 (upd (A 28) n0 0)) 29 (upd (A 29) u ((A 22) n0))) 30 (upd (A 30) u (ms (ms (4 * (yS s0)) (((A 23) n0) - (2 * (yS s0)))) (((A 27) u) + (yS s0))))) 26 (upd (upd (A 26) n0 ((A 23) n0)) n0 (ms ((A 23) n0) ((ms (ms (4 * (yS s0)) (((A 23) n0) - (2 * (yS s0)))) (((A 27) u) + (yS s0))) + ((A 26) u))))) 29 (upd (upd (A 29) u ((A 22) n0)) lo ((A 22) n0))) 30 (upd (upd (A 30) u (ms (ms (4 * (yS s0)) (((A 23) n0) - (2 * (yS s0)))) (((A 27) u) + (yS s0)))) lo (-(ms (ms (2 * (yS s0)) (((A 24) n0) + ((yS s0) / 2))) (((A 26) lo) - (4 * (yS s0))))))) th co at_ wr no nu op pi wi he de) hP mkM_u30
                  refine lv_iload hx hb (fh_d d_Mo_setScripts 383 rfl) (lv_at hl 2 rfl) ?_
                  refine lv_aload_n hx hb (fh_d d_Mo_setScripts 384 rfl) rfl (lv_at hl 8 rfl) ?_
                  refine fh_get (own := "FormulaSetterModel") (ref := "FormulaSetterModel") (C := "FormulaSetterModel") (T := T_Mo) (N := 53) (v := .ref (x + 30)) hx hb hT i_Mo hown hK hP mkM_o rfl 36 (by decide) (hT _ w896) (fun _ h9 => h9) rfl (fh_d d_Mo_setScripts 385 rfl) ?_
                  refine lv_iload_n hx hb (fh_d d_Mo_setScripts 386 rfl) rfl (lv_at hl 5 rfl) ?_
                  refine fn_iald (f := upd (upd (A 29) u ((A 22) n0)) lo ((A 22) n0)) (k := lo) hx hb hK hP 0 mkM_a29 rfl (rfl) (by omega) (by decide) (fh_d d_Mo_setScripts 387 rfl) ?_
                  rw [show ((upd (upd (A 29) u ((A 22) n0)) lo ((A 22) n0)) lo) = ((A 22) n0) from upd_s]
                  refine lv_aload_n hx hb (fh_d d_Mo_setScripts 388 rfl) rfl (lv_at hl 8 rfl) ?_
                  refine fh_get (own := "FormulaSetterModel") (ref := "FormulaSetterModel") (C := "FormulaSetterModel") (T := T_Mo) (N := 53) (v := .ref (x + 26)) hx hb hT i_Mo hown hK hP mkM_o rfl 32 (by decide) (hT _ w892) (fun _ h9 => h9) rfl (fh_d d_Mo_setScripts 389 rfl) ?_
                  refine lv_iload_n hx hb (fh_d d_Mo_setScripts 390 rfl) rfl (lv_at hl 5 rfl) ?_
                  refine fn_iald (f := upd (A 25) n0 ((A 22) n0)) (k := lo) hx hb hK hP 0 mkM_a25 rfl (rfl) (by omega) (by decide) (fh_d d_Mo_setScripts 391 rfl) ?_
                  rw [show ((upd (A 25) n0 ((A 22) n0)) lo) = (A 25) lo from by simp only [upd_n (hln h0l)]]
                  refine lv_iadd hx hb (fh_d d_Mo_setScripts 392 rfl) ?_
                  refine fh_callS (cc' := c_Mo_most) (nL' := 2) (rest := []) (av := [.int (((A 22) n0) + ((A 25) u)), .int (((A 22) n0) + ((A 25) lo))]) X hR (m_Mo_most l D ct b RO (r - 1) n (((A 22) n0) + ((A 25) u)) (((A 22) n0) + ((A 25) lo)) (mkM ct x g (up2 (up2 (up2 (up2 (up2 (up2 (up2 (up2 (up2 A 25 (upd (A 25) n0 ((A 22) n0))) 26 (upd (A 26) n0 ((A 23) n0))) 27 (upd (A 27) n0 ((A 24) n0))) 28 (upd (A 28) n0 0)) 29 (upd (A 29) u ((A 22) n0))) 30 (upd (A 30) u (ms (ms (4 * (yS s0)) (((A 23) n0) - (2 * (yS s0)))) (((A 27) u) + (yS s0))))) 26 (upd (upd (A 26) n0 ((A 23) n0)) n0 (ms ((A 23) n0) ((ms (ms (4 * (yS s0)) (((A 23) n0) - (2 * (yS s0)))) (((A 27) u) + (yS s0))) + ((A 26) u))))) 29 (upd (upd (A 29) u ((A 22) n0)) lo ((A 22) n0))) 30 (upd (upd (A 30) u (ms (ms (4 * (yS s0)) (((A 23) n0) - (2 * (yS s0)))) (((A 27) u) + (yS s0)))) lo (-(ms (ms (2 * (yS s0)) (((A 24) n0) + ((yS s0) / 2))) (((A 26) lo) - (4 * (yS s0))))))) th co at_ wr no nu op pi wi he de)) w1151 w1149 w1150 w9 ⟨by decide, by decide, by show _ = some 2; decide +kernel⟩ (by omega) (by decide) hP hS hl.1 rfl (by exact Nat.le_of_ble_eq_true rfl) (fh_d d_Mo_setScripts 393 rfl) ⟨Nat.le_refl _, Nat.le_refl _⟩ (fun v9 h9 n9 H locs hq hP hS => ?_)
                  obtain ⟨rfl, q104a, q104b⟩ := hq
                  rw [q104a, q104b] at hP
                  refine W.eq (g2 := F0 m 622 ls [.int (ms (((A 22) n0) + ((A 25) u)) (((A 22) n0) + ((A 25) lo)))]) rfl ?_
                  refine lv_istore (lv' := [(7, .int (ms (((A 22) n0) + ((A 25) u)) (((A 22) n0) + ((A 25) lo)))), (8, .int (ms (ms (2 * (yS s0)) (((A 24) n0) + ((yS s0) / 2))) (((A 26) lo) - (4 * (yS s0))))), (9, .int (((ms (ms (4 * (yS s0)) (((A 23) n0) - (2 * (yS s0)))) (((A 27) u) + (yS s0))) - ((A 27) u)) - (((A 26) lo) - (ms (ms (2 * (yS s0)) (((A 24) n0) + ((yS s0) / 2))) (((A 26) lo) - (4 * (yS s0))))))), (6, .int (ms (ms (4 * (yS s0)) (((A 23) n0) - (2 * (yS s0)))) (((A 27) u) + (yS s0)))), (2, .int (nI u)), (3, .int (nI lo)), (4, .int (yS s0)), (5, .int (yT s0)), (0, .ref x), (1, .int (nI n0))]) hx hb (fh_d d_Mo_setScripts 394 rfl) hl (by decide) rfl (fun ls hl => ?_)
                  refine lv_aload_n hx hb (fh_d d_Mo_setScripts 395 rfl) rfl (lv_at hl 8 rfl) ?_
                  refine fh_get (own := "FormulaSetterModel") (ref := "FormulaSetterModel") (C := "FormulaSetterModel") (T := T_Mo) (N := 53) (v := .ref (x + 28)) hx hb hT i_Mo hown hK hP mkM_o rfl 34 (by decide) (hT _ w894) (fun _ h9 => h9) rfl (fh_d d_Mo_setScripts 396 rfl) ?_
                  refine lv_iload_n hx hb (fh_d d_Mo_setScripts 397 rfl) rfl (lv_at hl 9 rfl) ?_
                  refine lv_aload_n hx hb (fh_d d_Mo_setScripts 398 rfl) rfl (lv_at hl 8 rfl) ?_
                  refine fh_get (own := "FormulaSetterModel") (ref := "FormulaSetterModel") (C := "FormulaSetterModel") (T := T_Mo) (N := 53) (v := .ref (x + 25)) hx hb hT i_Mo hown hK hP mkM_o rfl 31 (by decide) (hT _ w891) (fun _ h9 => h9) rfl (fh_d d_Mo_setScripts 399 rfl) ?_
                  refine lv_iload_n hx hb (fh_d d_Mo_setScripts 400 rfl) rfl (lv_at hl 9 rfl) ?_
                  refine fn_iald (f := A 24) (k := n0) hx hb hK hP 0 mkM_a24 rfl (rfl) (by omega) (by decide) (fh_d d_Mo_setScripts 401 rfl) ?_
                  refine lv_iload hx hb (fh_d d_Mo_setScripts 402 rfl) (lv_at hl 1 rfl) ?_
                  refine lv_aload_n hx hb (fh_d d_Mo_setScripts 403 rfl) rfl (lv_at hl 8 rfl) ?_
                  refine fh_get (own := "FormulaSetterModel") (ref := "FormulaSetterModel") (C := "FormulaSetterModel") (T := T_Mo) (N := 53) (v := .ref (x + 28)) hx hb hT i_Mo hown hK hP mkM_o rfl 34 (by decide) (hT _ w894) (fun _ h9 => h9) rfl (fh_d d_Mo_setScripts 404 rfl) ?_
                  refine lv_iload_n hx hb (fh_d d_Mo_setScripts 405 rfl) rfl (lv_at hl 5 rfl) ?_
                  refine fn_iald (f := upd (A 27) n0 ((A 24) n0)) (k := lo) hx hb hK hP 0 mkM_a27 rfl (rfl) (by omega) (by decide) (fh_d d_Mo_setScripts 406 rfl) ?_
                  rw [show ((upd (A 27) n0 ((A 24) n0)) lo) = (A 27) lo from by simp only [upd_n (hln h0l)]]
                  refine lv_iadd hx hb (fh_d d_Mo_setScripts 407 rfl) ?_
                  refine fh_callS (cc' := c_Mo_most) (nL' := 2) (rest := [.int (nI n0), .ref (x + 28)]) (av := [.int ((A 24) n0), .int ((ms (ms (2 * (yS s0)) (((A 24) n0) + ((yS s0) / 2))) (((A 26) lo) - (4 * (yS s0)))) + ((A 27) lo))]) X hR (m_Mo_most l D ct b RO (r - 1) n ((A 24) n0) ((ms (ms (2 * (yS s0)) (((A 24) n0) + ((yS s0) / 2))) (((A 26) lo) - (4 * (yS s0)))) + ((A 27) lo)) (mkM ct x g (up2 (up2 (up2 (up2 (up2 (up2 (up2 (up2 (up2 A 25 (upd (A 25) n0 ((A 22) n0))) 26 (upd (A 26) n0 ((A 23) n0))) 27 (upd (A 27) n0 ((A 24) n0))) 28 (upd (A 28) n0 0)) 29 (upd (A 29) u ((A 22) n0))) 30 (upd (A 30) u (ms (ms (4 * (yS s0)) (((A 23) n0) - (2 * (yS s0)))) (((A 27) u) + (yS s0))))) 26 (upd (upd (A 26) n0 ((A 23) n0)) n0 (ms ((A 23) n0) ((ms (ms (4 * (yS s0)) (((A 23) n0) - (2 * (yS s0)))) (((A 27) u) + (yS s0))) + ((A 26) u))))) 29 (upd (upd (A 29) u ((A 22) n0)) lo ((A 22) n0))) 30 (upd (upd (A 30) u (ms (ms (4 * (yS s0)) (((A 23) n0) - (2 * (yS s0)))) (((A 27) u) + (yS s0)))) lo (-(ms (ms (2 * (yS s0)) (((A 24) n0) + ((yS s0) / 2))) (((A 26) lo) - (4 * (yS s0))))))) th co at_ wr no nu op pi wi he de)) w1151 w1149 w1150 w9 ⟨by decide, by decide, by show _ = some 2; decide +kernel⟩ (by omega) (by decide) hP hS hl.1 rfl (by exact Nat.le_of_ble_eq_true rfl) (fh_d d_Mo_setScripts 408 rfl) ⟨Nat.le_refl _, Nat.le_refl _⟩ (fun v9 h9 n9 H locs hq hP hS => ?_)
                  obtain ⟨rfl, q105a, q105b⟩ := hq
                  rw [q105a, q105b] at hP
                  refine W.eq (g2 := F0 m 647 ls [.int (ms ((A 24) n0) ((ms (ms (2 * (yS s0)) (((A 24) n0) + ((yS s0) / 2))) (((A 26) lo) - (4 * (yS s0)))) + ((A 27) lo))), .int (nI n0), .ref (x + 28)]) rfl ?_
                  refine fn_iast (f := upd (A 27) n0 ((A 24) n0)) (k := n0) hx hb hK hP hS 0 mkM_a27 rfl (rfl) (by omega) (by decide) (fh_d d_Mo_setScripts 409 rfl) (fun H locs hP hS => ?_)
                  replace hP := fh_P.eq (h' := mkM ct x g (up2 (up2 (up2 (up2 (up2 (up2 (up2 (up2 (up2 (up2 A 25 (upd (A 25) n0 ((A 22) n0))) 26 (upd (A 26) n0 ((A 23) n0))) 27 (upd (A 27) n0 ((A 24) n0))) 28 (upd (A 28) n0 0)) 29 (upd (A 29) u ((A 22) n0))) 30 (upd (A 30) u (ms (ms (4 * (yS s0)) (((A 23) n0) - (2 * (yS s0)))) (((A 27) u) + (yS s0))))) 26 (upd (upd (A 26) n0 ((A 23) n0)) n0 (ms ((A 23) n0) ((ms (ms (4 * (yS s0)) (((A 23) n0) - (2 * (yS s0)))) (((A 27) u) + (yS s0))) + ((A 26) u))))) 29 (upd (upd (A 29) u ((A 22) n0)) lo ((A 22) n0))) 30 (upd (upd (A 30) u (ms (ms (4 * (yS s0)) (((A 23) n0) - (2 * (yS s0)))) (((A 27) u) + (yS s0)))) lo (-(ms (ms (2 * (yS s0)) (((A 24) n0) + ((yS s0) / 2))) (((A 26) lo) - (4 * (yS s0))))))) 27 (upd (upd (A 27) n0 ((A 24) n0)) n0 (ms ((A 24) n0) ((ms (ms (2 * (yS s0)) (((A 24) n0) + ((yS s0) / 2))) (((A 26) lo) - (4 * (yS s0)))) + ((A 27) lo))))) th co at_ wr no nu op pi wi he de) hP mkM_u27
                  refine lv_aload_n hx hb (fh_d d_Mo_setScripts 410 rfl) rfl (lv_at hl 8 rfl) ?_
                  refine fh_get (own := "FormulaSetterModel") (ref := "FormulaSetterModel") (C := "FormulaSetterModel") (T := T_Mo) (N := 53) (v := .ref (x + 26)) hx hb hT i_Mo hown hK hP mkM_o rfl 32 (by decide) (hT _ w892) (fun _ h9 => h9) rfl (fh_d d_Mo_setScripts 411 rfl) ?_
                  refine lv_iload_n hx hb (fh_d d_Mo_setScripts 412 rfl) rfl (lv_at hl 9 rfl) ?_
                  refine lv_iload hx hb (fh_d d_Mo_setScripts 413 rfl) (lv_at hl 0 rfl) ?_
                  refine lv_iload hx hb (fh_d d_Mo_setScripts 414 rfl) (lv_at hl 6 rfl) ?_
                  refine lv_iconst (v := 2) hx hb (fh_d d_Mo_setScripts 415 rfl) (by decide) ?_
                  refine lv_idiv hx hb (fh_d d_Mo_setScripts 416 rfl) (by decide) ?_
                  refine lv_iadd hx hb (fh_d d_Mo_setScripts 417 rfl) ?_
                  refine fn_iast (f := upd (A 25) n0 ((A 22) n0)) (k := n0) hx hb hK hP hS 0 mkM_a25 rfl (rfl) (by omega) (by decide) (fh_d d_Mo_setScripts 418 rfl) (fun H locs hP hS => ?_)
                  replace hP := fh_P.eq (h' := mkM ct x g (up2 (up2 (up2 (up2 (up2 (up2 (up2 (up2 (up2 (up2 (up2 A 25 (upd (A 25) n0 ((A 22) n0))) 26 (upd (A 26) n0 ((A 23) n0))) 27 (upd (A 27) n0 ((A 24) n0))) 28 (upd (A 28) n0 0)) 29 (upd (A 29) u ((A 22) n0))) 30 (upd (A 30) u (ms (ms (4 * (yS s0)) (((A 23) n0) - (2 * (yS s0)))) (((A 27) u) + (yS s0))))) 26 (upd (upd (A 26) n0 ((A 23) n0)) n0 (ms ((A 23) n0) ((ms (ms (4 * (yS s0)) (((A 23) n0) - (2 * (yS s0)))) (((A 27) u) + (yS s0))) + ((A 26) u))))) 29 (upd (upd (A 29) u ((A 22) n0)) lo ((A 22) n0))) 30 (upd (upd (A 30) u (ms (ms (4 * (yS s0)) (((A 23) n0) - (2 * (yS s0)))) (((A 27) u) + (yS s0)))) lo (-(ms (ms (2 * (yS s0)) (((A 24) n0) + ((yS s0) / 2))) (((A 26) lo) - (4 * (yS s0))))))) 27 (upd (upd (A 27) n0 ((A 24) n0)) n0 (ms ((A 24) n0) ((ms (ms (2 * (yS s0)) (((A 24) n0) + ((yS s0) / 2))) (((A 26) lo) - (4 * (yS s0)))) + ((A 27) lo))))) 25 (upd (upd (A 25) n0 ((A 22) n0)) n0 ((ms (((A 22) n0) + ((A 25) u)) (((A 22) n0) + ((A 25) lo))) + ((yS s0) / 2)))) th co at_ wr no nu op pi wi he de) hP mkM_u25
                  exact fh_vret X hP hS (fh_d d_Mo_setScripts 419 rfl) ⟨rfl, by unfold rf_sc; rw [if_neg h0u, if_neg h0l, if_neg hk0, if_neg hlm, if_pos hcr, if_neg hg, if_pos hk2, if_neg hc3]; (try rfl), rfl⟩
              · skip
                refine lv_istore (lv' := [(8, .int (ms (ms (2 * (yS s0)) (((A 24) n0) + ((yS s0) / 2))) (((A 26) lo) - (4 * (yS s0))))), (9, .int (((ms (ms (4 * (yS s0)) (((A 23) n0) - (2 * (yS s0)))) (((A 27) u) + (yS s0))) - ((A 27) u)) - (((A 26) lo) - (ms (ms (2 * (yS s0)) (((A 24) n0) + ((yS s0) / 2))) (((A 26) lo) - (4 * (yS s0))))))), (7, .int (((A 22) n0) + ((A 25) u))), (6, .int (ms (ms (4 * (yS s0)) (((A 23) n0) - (2 * (yS s0)))) (((A 27) u) + (yS s0)))), (2, .int (nI u)), (3, .int (nI lo)), (4, .int (yS s0)), (5, .int (yT s0)), (0, .ref x), (1, .int (nI n0))]) hx hb (fh_d d_Mo_setScripts 349 rfl) hl (by decide) rfl (fun ls hl => ?_)
                refine lv_aload_n hx hb (fh_d d_Mo_setScripts 350 rfl) rfl (lv_at hl 8 rfl) ?_
                refine fh_get (own := "FormulaSetterModel") (ref := "FormulaSetterModel") (C := "FormulaSetterModel") (T := T_Mo) (N := 53) (v := .ref (x + 30)) hx hb hT i_Mo hown hK hP mkM_o rfl 36 (by decide) (hT _ w896) (fun _ h9 => h9) rfl (fh_d d_Mo_setScripts 351 rfl) ?_
                refine lv_iload_n hx hb (fh_d d_Mo_setScripts 352 rfl) rfl (lv_at hl 5 rfl) ?_
                refine lv_aload_n hx hb (fh_d d_Mo_setScripts 353 rfl) rfl (lv_at hl 8 rfl) ?_
                refine fh_get (own := "FormulaSetterModel") (ref := "FormulaSetterModel") (C := "FormulaSetterModel") (T := T_Mo) (N := 53) (v := .ref (x + 2)) hx hb hT i_Mo hown hK hP mkM_o rfl 7 (by decide) (hT _ w867) (fun _ h9 => h9) rfl (fh_d d_Mo_setScripts 354 rfl) ?_
                refine lv_iload_n hx hb (fh_d d_Mo_setScripts 355 rfl) rfl (lv_at hl 9 rfl) ?_
                refine fn_iald (f := A 1) (k := n0) hx hb hK hP 0 mkM_a1 rfl (rfl) (by omega) (by decide) (fh_d d_Mo_setScripts 356 rfl) ?_
                refine lv_iconst (v := 2) hx hb (fh_d d_Mo_setScripts 357 rfl) (by decide) ?_
                refine lv_icmp_ne (tgt := 588) hx hb (fh_d d_Mo_setScripts 358 rfl) rfl (fun c106 => ?_) (fun c106 => absurd c106 (hk2))
                refine lv_aload_n hx hb (fh_d d_Mo_setScripts 372 rfl) rfl (lv_at hl 8 rfl) ?_
                refine fh_get (own := "FormulaSetterModel") (ref := "FormulaSetterModel") (C := "FormulaSetterModel") (T := T_Mo) (N := 53) (v := .ref (x + 23)) hx hb hT i_Mo hown hK hP mkM_o rfl 29 (by decide) (hT _ w889) (fun _ h9 => h9) rfl (fh_d d_Mo_setScripts 373 rfl) ?_
                refine lv_iload_n hx hb (fh_d d_Mo_setScripts 374 rfl) rfl (lv_at hl 9 rfl) ?_
                refine fn_iald (f := A 22) (k := n0) hx hb hK hP 0 mkM_a22 rfl (rfl) (by omega) (by decide) (fh_d d_Mo_setScripts 375 rfl) ?_
                refine fn_iast (f := upd (A 29) u ((A 22) n0)) (k := lo) hx hb hK hP hS 0 mkM_a29 rfl (rfl) (by omega) (by decide) (fh_d d_Mo_setScripts 376 rfl) (fun H locs hP hS => ?_)
                replace hP := fh_P.eq (h' := mkM ct x g (up2 (up2 (up2 (up2 (up2 (up2 (up2 (up2 A 25 (upd (A 25) n0 ((A 22) n0))) 26 (upd (A 26) n0 ((A 23) n0))) 27 (upd (A 27) n0 ((A 24) n0))) 28 (upd (A 28) n0 0)) 29 (upd (A 29) u ((A 22) n0))) 30 (upd (A 30) u (ms (ms (4 * (yS s0)) (((A 23) n0) - (2 * (yS s0)))) (((A 27) u) + (yS s0))))) 26 (upd (upd (A 26) n0 ((A 23) n0)) n0 (ms ((A 23) n0) ((ms (ms (4 * (yS s0)) (((A 23) n0) - (2 * (yS s0)))) (((A 27) u) + (yS s0))) + ((A 26) u))))) 29 (upd (upd (A 29) u ((A 22) n0)) lo ((A 22) n0))) th co at_ wr no nu op pi wi he de) hP mkM_u29
                refine lv_aload_n hx hb (fh_d d_Mo_setScripts 377 rfl) rfl (lv_at hl 8 rfl) ?_
                refine fh_get (own := "FormulaSetterModel") (ref := "FormulaSetterModel") (C := "FormulaSetterModel") (T := T_Mo) (N := 53) (v := .ref (x + 31)) hx hb hT i_Mo hown hK hP mkM_o rfl 37 (by decide) (hT _ w897) (fun _ h9 => h9) rfl (fh_d d_Mo_setScripts 378 rfl) ?_
                refine lv_iload_n hx hb (fh_d d_Mo_setScripts 379 rfl) rfl (lv_at hl 5 rfl) ?_
                refine lv_iload hx hb (fh_d d_Mo_setScripts 380 rfl) (lv_at hl 0 rfl) ?_
                refine lv_ineg hx hb (fh_d d_Mo_setScripts 381 rfl) ?_
                refine fn_iast (f := upd (A 30) u (ms (ms (4 * (yS s0)) (((A 23) n0) - (2 * (yS s0)))) (((A 27) u) + (yS s0)))) (k := lo) hx hb hK hP hS 0 mkM_a30 rfl (rfl) (by omega) (by decide) (fh_d d_Mo_setScripts 382 rfl) (fun H locs hP hS => ?_)
                replace hP := fh_P.eq (h' := mkM ct x g (up2 (up2 (up2 (up2 (up2 (up2 (up2 (up2 (up2 A 25 (upd (A 25) n0 ((A 22) n0))) 26 (upd (A 26) n0 ((A 23) n0))) 27 (upd (A 27) n0 ((A 24) n0))) 28 (upd (A 28) n0 0)) 29 (upd (A 29) u ((A 22) n0))) 30 (upd (A 30) u (ms (ms (4 * (yS s0)) (((A 23) n0) - (2 * (yS s0)))) (((A 27) u) + (yS s0))))) 26 (upd (upd (A 26) n0 ((A 23) n0)) n0 (ms ((A 23) n0) ((ms (ms (4 * (yS s0)) (((A 23) n0) - (2 * (yS s0)))) (((A 27) u) + (yS s0))) + ((A 26) u))))) 29 (upd (upd (A 29) u ((A 22) n0)) lo ((A 22) n0))) 30 (upd (upd (A 30) u (ms (ms (4 * (yS s0)) (((A 23) n0) - (2 * (yS s0)))) (((A 27) u) + (yS s0)))) lo (-(ms (ms (2 * (yS s0)) (((A 24) n0) + ((yS s0) / 2))) (((A 26) lo) - (4 * (yS s0))))))) th co at_ wr no nu op pi wi he de) hP mkM_u30
                refine lv_iload hx hb (fh_d d_Mo_setScripts 383 rfl) (lv_at hl 2 rfl) ?_
                refine lv_aload_n hx hb (fh_d d_Mo_setScripts 384 rfl) rfl (lv_at hl 8 rfl) ?_
                refine fh_get (own := "FormulaSetterModel") (ref := "FormulaSetterModel") (C := "FormulaSetterModel") (T := T_Mo) (N := 53) (v := .ref (x + 30)) hx hb hT i_Mo hown hK hP mkM_o rfl 36 (by decide) (hT _ w896) (fun _ h9 => h9) rfl (fh_d d_Mo_setScripts 385 rfl) ?_
                refine lv_iload_n hx hb (fh_d d_Mo_setScripts 386 rfl) rfl (lv_at hl 5 rfl) ?_
                refine fn_iald (f := upd (upd (A 29) u ((A 22) n0)) lo ((A 22) n0)) (k := lo) hx hb hK hP 0 mkM_a29 rfl (rfl) (by omega) (by decide) (fh_d d_Mo_setScripts 387 rfl) ?_
                rw [show ((upd (upd (A 29) u ((A 22) n0)) lo ((A 22) n0)) lo) = ((A 22) n0) from upd_s]
                refine lv_aload_n hx hb (fh_d d_Mo_setScripts 388 rfl) rfl (lv_at hl 8 rfl) ?_
                refine fh_get (own := "FormulaSetterModel") (ref := "FormulaSetterModel") (C := "FormulaSetterModel") (T := T_Mo) (N := 53) (v := .ref (x + 26)) hx hb hT i_Mo hown hK hP mkM_o rfl 32 (by decide) (hT _ w892) (fun _ h9 => h9) rfl (fh_d d_Mo_setScripts 389 rfl) ?_
                refine lv_iload_n hx hb (fh_d d_Mo_setScripts 390 rfl) rfl (lv_at hl 5 rfl) ?_
                refine fn_iald (f := upd (A 25) n0 ((A 22) n0)) (k := lo) hx hb hK hP 0 mkM_a25 rfl (rfl) (by omega) (by decide) (fh_d d_Mo_setScripts 391 rfl) ?_
                rw [show ((upd (A 25) n0 ((A 22) n0)) lo) = (A 25) lo from by simp only [upd_n (hln h0l)]]
                refine lv_iadd hx hb (fh_d d_Mo_setScripts 392 rfl) ?_
                refine fh_callS (cc' := c_Mo_most) (nL' := 2) (rest := []) (av := [.int (((A 22) n0) + ((A 25) u)), .int (((A 22) n0) + ((A 25) lo))]) X hR (m_Mo_most l D ct b RO (r - 1) n (((A 22) n0) + ((A 25) u)) (((A 22) n0) + ((A 25) lo)) (mkM ct x g (up2 (up2 (up2 (up2 (up2 (up2 (up2 (up2 (up2 A 25 (upd (A 25) n0 ((A 22) n0))) 26 (upd (A 26) n0 ((A 23) n0))) 27 (upd (A 27) n0 ((A 24) n0))) 28 (upd (A 28) n0 0)) 29 (upd (A 29) u ((A 22) n0))) 30 (upd (A 30) u (ms (ms (4 * (yS s0)) (((A 23) n0) - (2 * (yS s0)))) (((A 27) u) + (yS s0))))) 26 (upd (upd (A 26) n0 ((A 23) n0)) n0 (ms ((A 23) n0) ((ms (ms (4 * (yS s0)) (((A 23) n0) - (2 * (yS s0)))) (((A 27) u) + (yS s0))) + ((A 26) u))))) 29 (upd (upd (A 29) u ((A 22) n0)) lo ((A 22) n0))) 30 (upd (upd (A 30) u (ms (ms (4 * (yS s0)) (((A 23) n0) - (2 * (yS s0)))) (((A 27) u) + (yS s0)))) lo (-(ms (ms (2 * (yS s0)) (((A 24) n0) + ((yS s0) / 2))) (((A 26) lo) - (4 * (yS s0))))))) th co at_ wr no nu op pi wi he de)) w1151 w1149 w1150 w9 ⟨by decide, by decide, by show _ = some 2; decide +kernel⟩ (by omega) (by decide) hP hS hl.1 rfl (by exact Nat.le_of_ble_eq_true rfl) (fh_d d_Mo_setScripts 393 rfl) ⟨Nat.le_refl _, Nat.le_refl _⟩ (fun v9 h9 n9 H locs hq hP hS => ?_)
                obtain ⟨rfl, q107a, q107b⟩ := hq
                rw [q107a, q107b] at hP
                refine W.eq (g2 := F0 m 622 ls [.int (ms (((A 22) n0) + ((A 25) u)) (((A 22) n0) + ((A 25) lo)))]) rfl ?_
                refine lv_istore (lv' := [(7, .int (ms (((A 22) n0) + ((A 25) u)) (((A 22) n0) + ((A 25) lo)))), (8, .int (ms (ms (2 * (yS s0)) (((A 24) n0) + ((yS s0) / 2))) (((A 26) lo) - (4 * (yS s0))))), (9, .int (((ms (ms (4 * (yS s0)) (((A 23) n0) - (2 * (yS s0)))) (((A 27) u) + (yS s0))) - ((A 27) u)) - (((A 26) lo) - (ms (ms (2 * (yS s0)) (((A 24) n0) + ((yS s0) / 2))) (((A 26) lo) - (4 * (yS s0))))))), (6, .int (ms (ms (4 * (yS s0)) (((A 23) n0) - (2 * (yS s0)))) (((A 27) u) + (yS s0)))), (2, .int (nI u)), (3, .int (nI lo)), (4, .int (yS s0)), (5, .int (yT s0)), (0, .ref x), (1, .int (nI n0))]) hx hb (fh_d d_Mo_setScripts 394 rfl) hl (by decide) rfl (fun ls hl => ?_)
                refine lv_aload_n hx hb (fh_d d_Mo_setScripts 395 rfl) rfl (lv_at hl 8 rfl) ?_
                refine fh_get (own := "FormulaSetterModel") (ref := "FormulaSetterModel") (C := "FormulaSetterModel") (T := T_Mo) (N := 53) (v := .ref (x + 28)) hx hb hT i_Mo hown hK hP mkM_o rfl 34 (by decide) (hT _ w894) (fun _ h9 => h9) rfl (fh_d d_Mo_setScripts 396 rfl) ?_
                refine lv_iload_n hx hb (fh_d d_Mo_setScripts 397 rfl) rfl (lv_at hl 9 rfl) ?_
                refine lv_aload_n hx hb (fh_d d_Mo_setScripts 398 rfl) rfl (lv_at hl 8 rfl) ?_
                refine fh_get (own := "FormulaSetterModel") (ref := "FormulaSetterModel") (C := "FormulaSetterModel") (T := T_Mo) (N := 53) (v := .ref (x + 25)) hx hb hT i_Mo hown hK hP mkM_o rfl 31 (by decide) (hT _ w891) (fun _ h9 => h9) rfl (fh_d d_Mo_setScripts 399 rfl) ?_
                refine lv_iload_n hx hb (fh_d d_Mo_setScripts 400 rfl) rfl (lv_at hl 9 rfl) ?_
                refine fn_iald (f := A 24) (k := n0) hx hb hK hP 0 mkM_a24 rfl (rfl) (by omega) (by decide) (fh_d d_Mo_setScripts 401 rfl) ?_
                refine lv_iload hx hb (fh_d d_Mo_setScripts 402 rfl) (lv_at hl 1 rfl) ?_
                refine lv_aload_n hx hb (fh_d d_Mo_setScripts 403 rfl) rfl (lv_at hl 8 rfl) ?_
                refine fh_get (own := "FormulaSetterModel") (ref := "FormulaSetterModel") (C := "FormulaSetterModel") (T := T_Mo) (N := 53) (v := .ref (x + 28)) hx hb hT i_Mo hown hK hP mkM_o rfl 34 (by decide) (hT _ w894) (fun _ h9 => h9) rfl (fh_d d_Mo_setScripts 404 rfl) ?_
                refine lv_iload_n hx hb (fh_d d_Mo_setScripts 405 rfl) rfl (lv_at hl 5 rfl) ?_
                refine fn_iald (f := upd (A 27) n0 ((A 24) n0)) (k := lo) hx hb hK hP 0 mkM_a27 rfl (rfl) (by omega) (by decide) (fh_d d_Mo_setScripts 406 rfl) ?_
                rw [show ((upd (A 27) n0 ((A 24) n0)) lo) = (A 27) lo from by simp only [upd_n (hln h0l)]]
                refine lv_iadd hx hb (fh_d d_Mo_setScripts 407 rfl) ?_
                refine fh_callS (cc' := c_Mo_most) (nL' := 2) (rest := [.int (nI n0), .ref (x + 28)]) (av := [.int ((A 24) n0), .int ((ms (ms (2 * (yS s0)) (((A 24) n0) + ((yS s0) / 2))) (((A 26) lo) - (4 * (yS s0)))) + ((A 27) lo))]) X hR (m_Mo_most l D ct b RO (r - 1) n ((A 24) n0) ((ms (ms (2 * (yS s0)) (((A 24) n0) + ((yS s0) / 2))) (((A 26) lo) - (4 * (yS s0)))) + ((A 27) lo)) (mkM ct x g (up2 (up2 (up2 (up2 (up2 (up2 (up2 (up2 (up2 A 25 (upd (A 25) n0 ((A 22) n0))) 26 (upd (A 26) n0 ((A 23) n0))) 27 (upd (A 27) n0 ((A 24) n0))) 28 (upd (A 28) n0 0)) 29 (upd (A 29) u ((A 22) n0))) 30 (upd (A 30) u (ms (ms (4 * (yS s0)) (((A 23) n0) - (2 * (yS s0)))) (((A 27) u) + (yS s0))))) 26 (upd (upd (A 26) n0 ((A 23) n0)) n0 (ms ((A 23) n0) ((ms (ms (4 * (yS s0)) (((A 23) n0) - (2 * (yS s0)))) (((A 27) u) + (yS s0))) + ((A 26) u))))) 29 (upd (upd (A 29) u ((A 22) n0)) lo ((A 22) n0))) 30 (upd (upd (A 30) u (ms (ms (4 * (yS s0)) (((A 23) n0) - (2 * (yS s0)))) (((A 27) u) + (yS s0)))) lo (-(ms (ms (2 * (yS s0)) (((A 24) n0) + ((yS s0) / 2))) (((A 26) lo) - (4 * (yS s0))))))) th co at_ wr no nu op pi wi he de)) w1151 w1149 w1150 w9 ⟨by decide, by decide, by show _ = some 2; decide +kernel⟩ (by omega) (by decide) hP hS hl.1 rfl (by exact Nat.le_of_ble_eq_true rfl) (fh_d d_Mo_setScripts 408 rfl) ⟨Nat.le_refl _, Nat.le_refl _⟩ (fun v9 h9 n9 H locs hq hP hS => ?_)
                obtain ⟨rfl, q108a, q108b⟩ := hq
                rw [q108a, q108b] at hP
                refine W.eq (g2 := F0 m 647 ls [.int (ms ((A 24) n0) ((ms (ms (2 * (yS s0)) (((A 24) n0) + ((yS s0) / 2))) (((A 26) lo) - (4 * (yS s0)))) + ((A 27) lo))), .int (nI n0), .ref (x + 28)]) rfl ?_
                refine fn_iast (f := upd (A 27) n0 ((A 24) n0)) (k := n0) hx hb hK hP hS 0 mkM_a27 rfl (rfl) (by omega) (by decide) (fh_d d_Mo_setScripts 409 rfl) (fun H locs hP hS => ?_)
                replace hP := fh_P.eq (h' := mkM ct x g (up2 (up2 (up2 (up2 (up2 (up2 (up2 (up2 (up2 (up2 A 25 (upd (A 25) n0 ((A 22) n0))) 26 (upd (A 26) n0 ((A 23) n0))) 27 (upd (A 27) n0 ((A 24) n0))) 28 (upd (A 28) n0 0)) 29 (upd (A 29) u ((A 22) n0))) 30 (upd (A 30) u (ms (ms (4 * (yS s0)) (((A 23) n0) - (2 * (yS s0)))) (((A 27) u) + (yS s0))))) 26 (upd (upd (A 26) n0 ((A 23) n0)) n0 (ms ((A 23) n0) ((ms (ms (4 * (yS s0)) (((A 23) n0) - (2 * (yS s0)))) (((A 27) u) + (yS s0))) + ((A 26) u))))) 29 (upd (upd (A 29) u ((A 22) n0)) lo ((A 22) n0))) 30 (upd (upd (A 30) u (ms (ms (4 * (yS s0)) (((A 23) n0) - (2 * (yS s0)))) (((A 27) u) + (yS s0)))) lo (-(ms (ms (2 * (yS s0)) (((A 24) n0) + ((yS s0) / 2))) (((A 26) lo) - (4 * (yS s0))))))) 27 (upd (upd (A 27) n0 ((A 24) n0)) n0 (ms ((A 24) n0) ((ms (ms (2 * (yS s0)) (((A 24) n0) + ((yS s0) / 2))) (((A 26) lo) - (4 * (yS s0)))) + ((A 27) lo))))) th co at_ wr no nu op pi wi he de) hP mkM_u27
                refine lv_aload_n hx hb (fh_d d_Mo_setScripts 410 rfl) rfl (lv_at hl 8 rfl) ?_
                refine fh_get (own := "FormulaSetterModel") (ref := "FormulaSetterModel") (C := "FormulaSetterModel") (T := T_Mo) (N := 53) (v := .ref (x + 26)) hx hb hT i_Mo hown hK hP mkM_o rfl 32 (by decide) (hT _ w892) (fun _ h9 => h9) rfl (fh_d d_Mo_setScripts 411 rfl) ?_
                refine lv_iload_n hx hb (fh_d d_Mo_setScripts 412 rfl) rfl (lv_at hl 9 rfl) ?_
                refine lv_iload hx hb (fh_d d_Mo_setScripts 413 rfl) (lv_at hl 0 rfl) ?_
                refine lv_iload hx hb (fh_d d_Mo_setScripts 414 rfl) (lv_at hl 6 rfl) ?_
                refine lv_iconst (v := 2) hx hb (fh_d d_Mo_setScripts 415 rfl) (by decide) ?_
                refine lv_idiv hx hb (fh_d d_Mo_setScripts 416 rfl) (by decide) ?_
                refine lv_iadd hx hb (fh_d d_Mo_setScripts 417 rfl) ?_
                refine fn_iast (f := upd (A 25) n0 ((A 22) n0)) (k := n0) hx hb hK hP hS 0 mkM_a25 rfl (rfl) (by omega) (by decide) (fh_d d_Mo_setScripts 418 rfl) (fun H locs hP hS => ?_)
                replace hP := fh_P.eq (h' := mkM ct x g (up2 (up2 (up2 (up2 (up2 (up2 (up2 (up2 (up2 (up2 (up2 A 25 (upd (A 25) n0 ((A 22) n0))) 26 (upd (A 26) n0 ((A 23) n0))) 27 (upd (A 27) n0 ((A 24) n0))) 28 (upd (A 28) n0 0)) 29 (upd (A 29) u ((A 22) n0))) 30 (upd (A 30) u (ms (ms (4 * (yS s0)) (((A 23) n0) - (2 * (yS s0)))) (((A 27) u) + (yS s0))))) 26 (upd (upd (A 26) n0 ((A 23) n0)) n0 (ms ((A 23) n0) ((ms (ms (4 * (yS s0)) (((A 23) n0) - (2 * (yS s0)))) (((A 27) u) + (yS s0))) + ((A 26) u))))) 29 (upd (upd (A 29) u ((A 22) n0)) lo ((A 22) n0))) 30 (upd (upd (A 30) u (ms (ms (4 * (yS s0)) (((A 23) n0) - (2 * (yS s0)))) (((A 27) u) + (yS s0)))) lo (-(ms (ms (2 * (yS s0)) (((A 24) n0) + ((yS s0) / 2))) (((A 26) lo) - (4 * (yS s0))))))) 27 (upd (upd (A 27) n0 ((A 24) n0)) n0 (ms ((A 24) n0) ((ms (ms (2 * (yS s0)) (((A 24) n0) + ((yS s0) / 2))) (((A 26) lo) - (4 * (yS s0)))) + ((A 27) lo))))) 25 (upd (upd (A 25) n0 ((A 22) n0)) n0 ((ms (((A 22) n0) + ((A 25) u)) (((A 22) n0) + ((A 25) lo))) + ((yS s0) / 2)))) th co at_ wr no nu op pi wi he de) hP mkM_u25
                exact fh_vret X hP hS (fh_d d_Mo_setScripts 419 rfl) ⟨rfl, by unfold rf_sc; rw [if_neg h0u, if_neg h0l, if_neg hk0, if_neg hlm, if_pos hcr, if_neg hg, if_neg hk2]; (try rfl), rfl⟩
          · skip
            refine lv_iconst (v := 0) hx hb (fh_d d_Mo_setScripts 215 rfl) (by decide) ?_
            refine lv_istore (lv' := [(6, .int 0), (2, .int (nI u)), (3, .int (nI lo)), (4, .int (yS s0)), (5, .int (yT s0)), (0, .ref x), (1, .int (nI n0))]) hx hb (fh_d d_Mo_setScripts 216 rfl) hl (by decide) rfl (fun ls hl => ?_)
            refine lv_aload_n hx hb (fh_d d_Mo_setScripts 217 rfl) rfl (lv_at hl 5 rfl) ?_
            refine fh_get (own := "FormulaSetterModel") (ref := "FormulaSetterModel") (C := "FormulaSetterModel") (T := T_Mo) (N := 53) (v := .ref (x + 23)) hx hb hT i_Mo hown hK hP mkM_o rfl 29 (by decide) (hT _ w889) (fun _ h9 => h9) rfl (fh_d d_Mo_setScripts 218 rfl) ?_
            refine lv_iload_n hx hb (fh_d d_Mo_setScripts 219 rfl) rfl (lv_at hl 6 rfl) ?_
            refine fn_iald (f := A 22) (k := n0) hx hb hK hP 0 mkM_a22 rfl (rfl) (by omega) (by decide) (fh_d d_Mo_setScripts 220 rfl) ?_
            refine lv_istore (lv' := [(7, .int ((A 22) n0)), (6, .int 0), (2, .int (nI u)), (3, .int (nI lo)), (4, .int (yS s0)), (5, .int (yT s0)), (0, .ref x), (1, .int (nI n0))]) hx hb (fh_d d_Mo_setScripts 221 rfl) hl (by decide) rfl (fun ls hl => ?_)
            refine lv_iload_n hx hb (fh_d d_Mo_setScripts 222 rfl) rfl (lv_at hl 2 rfl) ?_
            refine lv_if_le (tgt := 454) hx hb (fh_d d_Mo_setScripts 223 rfl) rfl (fun c109 => absurd c109 (nI_np ⟨Nat.pos_of_ne_zero h0u, hu⟩)) (fun c109 => ?_)
            refine lv_aload_n hx hb (fh_d d_Mo_setScripts 224 rfl) rfl (lv_at hl 6 rfl) ?_
            refine fh_get (own := "FormulaSetterModel") (ref := "FormulaSetterModel") (C := "FormulaSetterModel") (T := T_Mo) (N := 53) (v := .ref (x + 22)) hx hb hT i_Mo hown hK hP mkM_o rfl 28 (by decide) (hT _ w888) (fun _ h9 => h9) rfl (fh_d d_Mo_setScripts 225 rfl) ?_
            refine lv_iload_n hx hb (fh_d d_Mo_setScripts 226 rfl) rfl (lv_at hl 7 rfl) ?_
            refine fn_zald (f := A 21) (k := n0) hx hb hK hP 3 mkM_a21 rfl (rfl) (by omega) (by decide) (fh_d d_Mo_setScripts 227 rfl) ?_
            refine lv_if_eq (tgt := 363) hx hb (fh_d d_Mo_setScripts 228 rfl) rfl (fun c110 => absurd c110 (hcr)) (fun c110 => ?_)
            refine lv_iconst (v := 3) hx hb (fh_d d_Mo_setScripts 229 rfl) (by decide) ?_
            refine lv_iload hx hb (fh_d d_Mo_setScripts 230 rfl) (lv_at hl 4 rfl) ?_
            refine lv_imul hx hb (fh_d d_Mo_setScripts 231 rfl) ?_
            refine lv_goto (tgt := 367) hx hb (fh_d d_Mo_setScripts 232 rfl) rfl ?_
            refine lv_aload_n hx hb (fh_d d_Mo_setScripts 236 rfl) rfl (lv_at hl 6 rfl) ?_
            refine fh_get (own := "FormulaSetterModel") (ref := "FormulaSetterModel") (C := "FormulaSetterModel") (T := T_Mo) (N := 53) (v := .ref (x + 24)) hx hb hT i_Mo hown hK hP mkM_o rfl 30 (by decide) (hT _ w890) (fun _ h9 => h9) rfl (fh_d d_Mo_setScripts 237 rfl) ?_
            refine lv_iload_n hx hb (fh_d d_Mo_setScripts 238 rfl) rfl (lv_at hl 7 rfl) ?_
            refine fn_iald (f := A 23) (k := n0) hx hb hK hP 0 mkM_a23 rfl (rfl) (by omega) (by decide) (fh_d d_Mo_setScripts 239 rfl) ?_
            refine lv_iconst (v := 2) hx hb (fh_d d_Mo_setScripts 240 rfl) (by decide) ?_
            refine lv_iload hx hb (fh_d d_Mo_setScripts 241 rfl) (lv_at hl 4 rfl) ?_
            refine lv_imul hx hb (fh_d d_Mo_setScripts 242 rfl) ?_
            refine lv_isub hx hb (fh_d d_Mo_setScripts 243 rfl) ?_
            refine fh_callS (cc' := c_Mo_most) (nL' := 2) (rest := []) (av := [.int (3 * (yS s0)), .int (((A 23) n0) - (2 * (yS s0)))]) X hR (m_Mo_most l D ct b RO (r - 1) n (3 * (yS s0)) (((A 23) n0) - (2 * (yS s0))) (mkM ct x g (up2 (up2 (up2 (up2 A 25 (upd (A 25) n0 ((A 22) n0))) 26 (upd (A 26) n0 ((A 23) n0))) 27 (upd (A 27) n0 ((A 24) n0))) 28 (upd (A 28) n0 0)) th co at_ wr no nu op pi wi he de)) w1151 w1149 w1150 w9 ⟨by decide, by decide, by show _ = some 2; decide +kernel⟩ (by omega) (by decide) hP hS hl.1 rfl (by exact Nat.le_of_ble_eq_true rfl) (fh_d d_Mo_setScripts 244 rfl) ⟨Nat.le_refl _, Nat.le_refl _⟩ (fun v9 h9 n9 H locs hq hP hS => ?_)
            obtain ⟨rfl, q111a, q111b⟩ := hq
            rw [q111a, q111b] at hP
            refine W.eq (g2 := F0 m 381 ls [.int (ms (3 * (yS s0)) (((A 23) n0) - (2 * (yS s0))))]) rfl ?_
            refine lv_aload_n hx hb (fh_d d_Mo_setScripts 245 rfl) rfl (lv_at hl 6 rfl) ?_
            refine fh_get (own := "FormulaSetterModel") (ref := "FormulaSetterModel") (C := "FormulaSetterModel") (T := T_Mo) (N := 53) (v := .ref (x + 28)) hx hb hT i_Mo hown hK hP mkM_o rfl 34 (by decide) (hT _ w894) (fun _ h9 => h9) rfl (fh_d d_Mo_setScripts 246 rfl) ?_
            refine lv_iload_n hx hb (fh_d d_Mo_setScripts 247 rfl) rfl (lv_at hl 2 rfl) ?_
            refine fn_iald (f := upd (A 27) n0 ((A 24) n0)) (k := u) hx hb hK hP 0 mkM_a27 rfl (rfl) (by omega) (by decide) (fh_d d_Mo_setScripts 248 rfl) ?_
            rw [show ((upd (A 27) n0 ((A 24) n0)) u) = (A 27) u from by simp only [upd_n (hun h0u)]]
            refine lv_iload hx hb (fh_d d_Mo_setScripts 249 rfl) (lv_at hl 4 rfl) ?_
            refine lv_iadd hx hb (fh_d d_Mo_setScripts 250 rfl) ?_
            refine fh_callS (cc' := c_Mo_most) (nL' := 2) (rest := []) (av := [.int (ms (3 * (yS s0)) (((A 23) n0) - (2 * (yS s0)))), .int (((A 27) u) + (yS s0))]) X hR (m_Mo_most l D ct b RO (r - 1) n (ms (3 * (yS s0)) (((A 23) n0) - (2 * (yS s0)))) (((A 27) u) + (yS s0)) (mkM ct x g (up2 (up2 (up2 (up2 A 25 (upd (A 25) n0 ((A 22) n0))) 26 (upd (A 26) n0 ((A 23) n0))) 27 (upd (A 27) n0 ((A 24) n0))) 28 (upd (A 28) n0 0)) th co at_ wr no nu op pi wi he de)) w1151 w1149 w1150 w9 ⟨by decide, by decide, by show _ = some 2; decide +kernel⟩ (by omega) (by decide) hP hS hl.1 rfl (by exact Nat.le_of_ble_eq_true rfl) (fh_d d_Mo_setScripts 251 rfl) ⟨Nat.le_refl _, Nat.le_refl _⟩ (fun v9 h9 n9 H locs hq hP hS => ?_)
            obtain ⟨rfl, q112a, q112b⟩ := hq
            rw [q112a, q112b] at hP
            refine W.eq (g2 := F0 m 393 ls [.int (ms (ms (3 * (yS s0)) (((A 23) n0) - (2 * (yS s0)))) (((A 27) u) + (yS s0)))]) rfl ?_
            refine lv_istore (lv' := [(6, .int (ms (ms (3 * (yS s0)) (((A 23) n0) - (2 * (yS s0)))) (((A 27) u) + (yS s0)))), (7, .int ((A 22) n0)), (2, .int (nI u)), (3, .int (nI lo)), (4, .int (yS s0)), (5, .int (yT s0)), (0, .ref x), (1, .int (nI n0))]) hx hb (fh_d d_Mo_setScripts 252 rfl) hl (by decide) rfl (fun ls hl => ?_)
            refine lv_aload_n hx hb (fh_d d_Mo_setScripts 253 rfl) rfl (lv_at hl 6 rfl) ?_
            refine fh_get (own := "FormulaSetterModel") (ref := "FormulaSetterModel") (C := "FormulaSetterModel") (T := T_Mo) (N := 53) (v := .ref (x + 30)) hx hb hT i_Mo hown hK hP mkM_o rfl 36 (by decide) (hT _ w896) (fun _ h9 => h9) rfl (fh_d d_Mo_setScripts 254 rfl) ?_
            refine lv_iload_n hx hb (fh_d d_Mo_setScripts 255 rfl) rfl (lv_at hl 2 rfl) ?_
            refine lv_aload_n hx hb (fh_d d_Mo_setScripts 256 rfl) rfl (lv_at hl 6 rfl) ?_
            refine fh_get (own := "FormulaSetterModel") (ref := "FormulaSetterModel") (C := "FormulaSetterModel") (T := T_Mo) (N := 53) (v := .ref (x + 23)) hx hb hT i_Mo hown hK hP mkM_o rfl 29 (by decide) (hT _ w889) (fun _ h9 => h9) rfl (fh_d d_Mo_setScripts 257 rfl) ?_
            refine lv_iload_n hx hb (fh_d d_Mo_setScripts 258 rfl) rfl (lv_at hl 7 rfl) ?_
            refine fn_iald (f := A 22) (k := n0) hx hb hK hP 0 mkM_a22 rfl (rfl) (by omega) (by decide) (fh_d d_Mo_setScripts 259 rfl) ?_
            refine fn_iast (f := A 29) (k := u) hx hb hK hP hS 0 mkM_a29 rfl (rfl) (by omega) (by decide) (fh_d d_Mo_setScripts 260 rfl) (fun H locs hP hS => ?_)
            replace hP := fh_P.eq (h' := mkM ct x g (up2 (up2 (up2 (up2 (up2 A 25 (upd (A 25) n0 ((A 22) n0))) 26 (upd (A 26) n0 ((A 23) n0))) 27 (upd (A 27) n0 ((A 24) n0))) 28 (upd (A 28) n0 0)) 29 (upd (A 29) u ((A 22) n0))) th co at_ wr no nu op pi wi he de) hP mkM_u29
            refine lv_aload_n hx hb (fh_d d_Mo_setScripts 261 rfl) rfl (lv_at hl 6 rfl) ?_
            refine fh_get (own := "FormulaSetterModel") (ref := "FormulaSetterModel") (C := "FormulaSetterModel") (T := T_Mo) (N := 53) (v := .ref (x + 31)) hx hb hT i_Mo hown hK hP mkM_o rfl 37 (by decide) (hT _ w897) (fun _ h9 => h9) rfl (fh_d d_Mo_setScripts 262 rfl) ?_
            refine lv_iload_n hx hb (fh_d d_Mo_setScripts 263 rfl) rfl (lv_at hl 2 rfl) ?_
            refine lv_iload hx hb (fh_d d_Mo_setScripts 264 rfl) (lv_at hl 0 rfl) ?_
            refine fn_iast (f := A 30) (k := u) hx hb hK hP hS 0 mkM_a30 rfl (rfl) (by omega) (by decide) (fh_d d_Mo_setScripts 265 rfl) (fun H locs hP hS => ?_)
            replace hP := fh_P.eq (h' := mkM ct x g (up2 (up2 (up2 (up2 (up2 (up2 A 25 (upd (A 25) n0 ((A 22) n0))) 26 (upd (A 26) n0 ((A 23) n0))) 27 (upd (A 27) n0 ((A 24) n0))) 28 (upd (A 28) n0 0)) 29 (upd (A 29) u ((A 22) n0))) 30 (upd (A 30) u (ms (ms (3 * (yS s0)) (((A 23) n0) - (2 * (yS s0)))) (((A 27) u) + (yS s0))))) th co at_ wr no nu op pi wi he de) hP mkM_u30
            refine lv_aload_n hx hb (fh_d d_Mo_setScripts 266 rfl) rfl (lv_at hl 6 rfl) ?_
            refine fh_get (own := "FormulaSetterModel") (ref := "FormulaSetterModel") (C := "FormulaSetterModel") (T := T_Mo) (N := 53) (v := .ref (x + 23)) hx hb hT i_Mo hown hK hP mkM_o rfl 29 (by decide) (hT _ w889) (fun _ h9 => h9) rfl (fh_d d_Mo_setScripts 267 rfl) ?_
            refine lv_iload_n hx hb (fh_d d_Mo_setScripts 268 rfl) rfl (lv_at hl 7 rfl) ?_
            refine fn_iald (f := A 22) (k := n0) hx hb hK hP 0 mkM_a22 rfl (rfl) (by omega) (by decide) (fh_d d_Mo_setScripts 269 rfl) ?_
            refine lv_aload_n hx hb (fh_d d_Mo_setScripts 270 rfl) rfl (lv_at hl 6 rfl) ?_
            refine fh_get (own := "FormulaSetterModel") (ref := "FormulaSetterModel") (C := "FormulaSetterModel") (T := T_Mo) (N := 53) (v := .ref (x + 26)) hx hb hT i_Mo hown hK hP mkM_o rfl 32 (by decide) (hT _ w892) (fun _ h9 => h9) rfl (fh_d d_Mo_setScripts 271 rfl) ?_
            refine lv_iload_n hx hb (fh_d d_Mo_setScripts 272 rfl) rfl (lv_at hl 2 rfl) ?_
            refine fn_iald (f := upd (A 25) n0 ((A 22) n0)) (k := u) hx hb hK hP 0 mkM_a25 rfl (rfl) (by omega) (by decide) (fh_d d_Mo_setScripts 273 rfl) ?_
            rw [show ((upd (A 25) n0 ((A 22) n0)) u) = (A 25) u from by simp only [upd_n (hun h0u)]]
            refine lv_iadd hx hb (fh_d d_Mo_setScripts 274 rfl) ?_
            refine lv_istore (lv' := [(7, .int (((A 22) n0) + ((A 25) u))), (6, .int (ms (ms (3 * (yS s0)) (((A 23) n0) - (2 * (yS s0)))) (((A 27) u) + (yS s0)))), (2, .int (nI u)), (3, .int (nI lo)), (4, .int (yS s0)), (5, .int (yT s0)), (0, .ref x), (1, .int (nI n0))]) hx hb (fh_d d_Mo_setScripts 275 rfl) hl (by decide) rfl (fun ls hl => ?_)
            refine lv_aload_n hx hb (fh_d d_Mo_setScripts 276 rfl) rfl (lv_at hl 6 rfl) ?_
            refine fh_get (own := "FormulaSetterModel") (ref := "FormulaSetterModel") (C := "FormulaSetterModel") (T := T_Mo) (N := 53) (v := .ref (x + 27)) hx hb hT i_Mo hown hK hP mkM_o rfl 33 (by decide) (hT _ w893) (fun _ h9 => h9) rfl (fh_d d_Mo_setScripts 277 rfl) ?_
            refine lv_iload_n hx hb (fh_d d_Mo_setScripts 278 rfl) rfl (lv_at hl 7 rfl) ?_
            refine lv_aload_n hx hb (fh_d d_Mo_setScripts 279 rfl) rfl (lv_at hl 6 rfl) ?_
            refine fh_get (own := "FormulaSetterModel") (ref := "FormulaSetterModel") (C := "FormulaSetterModel") (T := T_Mo) (N := 53) (v := .ref (x + 24)) hx hb hT i_Mo hown hK hP mkM_o rfl 30 (by decide) (hT _ w890) (fun _ h9 => h9) rfl (fh_d d_Mo_setScripts 280 rfl) ?_
            refine lv_iload_n hx hb (fh_d d_Mo_setScripts 281 rfl) rfl (lv_at hl 7 rfl) ?_
            refine fn_iald (f := A 23) (k := n0) hx hb hK hP 0 mkM_a23 rfl (rfl) (by omega) (by decide) (fh_d d_Mo_setScripts 282 rfl) ?_
            refine lv_iload hx hb (fh_d d_Mo_setScripts 283 rfl) (lv_at hl 1 rfl) ?_
            refine lv_aload_n hx hb (fh_d d_Mo_setScripts 284 rfl) rfl (lv_at hl 6 rfl) ?_
            refine fh_get (own := "FormulaSetterModel") (ref := "FormulaSetterModel") (C := "FormulaSetterModel") (T := T_Mo) (N := 53) (v := .ref (x + 27)) hx hb hT i_Mo hown hK hP mkM_o rfl 33 (by decide) (hT _ w893) (fun _ h9 => h9) rfl (fh_d d_Mo_setScripts 285 rfl) ?_
            refine lv_iload_n hx hb (fh_d d_Mo_setScripts 286 rfl) rfl (lv_at hl 2 rfl) ?_
            refine fn_iald (f := upd (A 26) n0 ((A 23) n0)) (k := u) hx hb hK hP 0 mkM_a26 rfl (rfl) (by omega) (by decide) (fh_d d_Mo_setScripts 287 rfl) ?_
            rw [show ((upd (A 26) n0 ((A 23) n0)) u) = (A 26) u from by simp only [upd_n (hun h0u)]]
            refine lv_iadd hx hb (fh_d d_Mo_setScripts 288 rfl) ?_
            refine fh_callS (cc' := c_Mo_most) (nL' := 2) (rest := [.int (nI n0), .ref (x + 27)]) (av := [.int ((A 23) n0), .int ((ms (ms (3 * (yS s0)) (((A 23) n0) - (2 * (yS s0)))) (((A 27) u) + (yS s0))) + ((A 26) u))]) X hR (m_Mo_most l D ct b RO (r - 1) n ((A 23) n0) ((ms (ms (3 * (yS s0)) (((A 23) n0) - (2 * (yS s0)))) (((A 27) u) + (yS s0))) + ((A 26) u)) (mkM ct x g (up2 (up2 (up2 (up2 (up2 (up2 A 25 (upd (A 25) n0 ((A 22) n0))) 26 (upd (A 26) n0 ((A 23) n0))) 27 (upd (A 27) n0 ((A 24) n0))) 28 (upd (A 28) n0 0)) 29 (upd (A 29) u ((A 22) n0))) 30 (upd (A 30) u (ms (ms (3 * (yS s0)) (((A 23) n0) - (2 * (yS s0)))) (((A 27) u) + (yS s0))))) th co at_ wr no nu op pi wi he de)) w1151 w1149 w1150 w9 ⟨by decide, by decide, by show _ = some 2; decide +kernel⟩ (by omega) (by decide) hP hS hl.1 rfl (by exact Nat.le_of_ble_eq_true rfl) (fh_d d_Mo_setScripts 289 rfl) ⟨Nat.le_refl _, Nat.le_refl _⟩ (fun v9 h9 n9 H locs hq hP hS => ?_)
            obtain ⟨rfl, q113a, q113b⟩ := hq
            rw [q113a, q113b] at hP
            refine W.eq (g2 := F0 m 453 ls [.int (ms ((A 23) n0) ((ms (ms (3 * (yS s0)) (((A 23) n0) - (2 * (yS s0)))) (((A 27) u) + (yS s0))) + ((A 26) u))), .int (nI n0), .ref (x + 27)]) rfl ?_
            refine fn_iast (f := upd (A 26) n0 ((A 23) n0)) (k := n0) hx hb hK hP hS 0 mkM_a26 rfl (rfl) (by omega) (by decide) (fh_d d_Mo_setScripts 290 rfl) (fun H locs hP hS => ?_)
            replace hP := fh_P.eq (h' := mkM ct x g (up2 (up2 (up2 (up2 (up2 (up2 (up2 A 25 (upd (A 25) n0 ((A 22) n0))) 26 (upd (A 26) n0 ((A 23) n0))) 27 (upd (A 27) n0 ((A 24) n0))) 28 (upd (A 28) n0 0)) 29 (upd (A 29) u ((A 22) n0))) 30 (upd (A 30) u (ms (ms (3 * (yS s0)) (((A 23) n0) - (2 * (yS s0)))) (((A 27) u) + (yS s0))))) 26 (upd (upd (A 26) n0 ((A 23) n0)) n0 (ms ((A 23) n0) ((ms (ms (3 * (yS s0)) (((A 23) n0) - (2 * (yS s0)))) (((A 27) u) + (yS s0))) + ((A 26) u))))) th co at_ wr no nu op pi wi he de) hP mkM_u26
            refine lv_iload_n hx hb (fh_d d_Mo_setScripts 291 rfl) rfl (lv_at hl 3 rfl) ?_
            refine lv_if_le (tgt := 648) hx hb (fh_d d_Mo_setScripts 292 rfl) rfl (fun c114 => absurd c114 (nI_np ⟨Nat.pos_of_ne_zero h0l, hlo⟩)) (fun c114 => ?_)
            refine lv_iconst (v := 2) hx hb (fh_d d_Mo_setScripts 293 rfl) (by decide) ?_
            refine lv_iload hx hb (fh_d d_Mo_setScripts 294 rfl) (lv_at hl 4 rfl) ?_
            refine lv_imul hx hb (fh_d d_Mo_setScripts 295 rfl) ?_
            refine lv_aload_n hx hb (fh_d d_Mo_setScripts 296 rfl) rfl (lv_at hl 6 rfl) ?_
            refine fh_get (own := "FormulaSetterModel") (ref := "FormulaSetterModel") (C := "FormulaSetterModel") (T := T_Mo) (N := 53) (v := .ref (x + 25)) hx hb hT i_Mo hown hK hP mkM_o rfl 31 (by decide) (hT _ w891) (fun _ h9 => h9) rfl (fh_d d_Mo_setScripts 297 rfl) ?_
            refine lv_iload_n hx hb (fh_d d_Mo_setScripts 298 rfl) rfl (lv_at hl 7 rfl) ?_
            refine fn_iald (f := A 24) (k := n0) hx hb hK hP 0 mkM_a24 rfl (rfl) (by omega) (by decide) (fh_d d_Mo_setScripts 299 rfl) ?_
            refine lv_iload hx hb (fh_d d_Mo_setScripts 300 rfl) (lv_at hl 4 rfl) ?_
            refine lv_iconst (v := 2) hx hb (fh_d d_Mo_setScripts 301 rfl) (by decide) ?_
            refine lv_idiv hx hb (fh_d d_Mo_setScripts 302 rfl) (by decide) ?_
            refine lv_iadd hx hb (fh_d d_Mo_setScripts 303 rfl) ?_
            refine fh_callS (cc' := c_Mo_most) (nL' := 2) (rest := []) (av := [.int (2 * (yS s0)), .int (((A 24) n0) + ((yS s0) / 2))]) X hR (m_Mo_most l D ct b RO (r - 1) n (2 * (yS s0)) (((A 24) n0) + ((yS s0) / 2)) (mkM ct x g (up2 (up2 (up2 (up2 (up2 (up2 (up2 A 25 (upd (A 25) n0 ((A 22) n0))) 26 (upd (A 26) n0 ((A 23) n0))) 27 (upd (A 27) n0 ((A 24) n0))) 28 (upd (A 28) n0 0)) 29 (upd (A 29) u ((A 22) n0))) 30 (upd (A 30) u (ms (ms (3 * (yS s0)) (((A 23) n0) - (2 * (yS s0)))) (((A 27) u) + (yS s0))))) 26 (upd (upd (A 26) n0 ((A 23) n0)) n0 (ms ((A 23) n0) ((ms (ms (3 * (yS s0)) (((A 23) n0) - (2 * (yS s0)))) (((A 27) u) + (yS s0))) + ((A 26) u))))) th co at_ wr no nu op pi wi he de)) w1151 w1149 w1150 w9 ⟨by decide, by decide, by show _ = some 2; decide +kernel⟩ (by omega) (by decide) hP hS hl.1 rfl (by exact Nat.le_of_ble_eq_true rfl) (fh_d d_Mo_setScripts 304 rfl) ⟨Nat.le_refl _, Nat.le_refl _⟩ (fun v9 h9 n9 H locs hq hP hS => ?_)
            obtain ⟨rfl, q115a, q115b⟩ := hq
            rw [q115a, q115b] at hP
            refine W.eq (g2 := F0 m 476 ls [.int (ms (2 * (yS s0)) (((A 24) n0) + ((yS s0) / 2)))]) rfl ?_
            refine lv_aload_n hx hb (fh_d d_Mo_setScripts 305 rfl) rfl (lv_at hl 6 rfl) ?_
            refine fh_get (own := "FormulaSetterModel") (ref := "FormulaSetterModel") (C := "FormulaSetterModel") (T := T_Mo) (N := 53) (v := .ref (x + 27)) hx hb hT i_Mo hown hK hP mkM_o rfl 33 (by decide) (hT _ w893) (fun _ h9 => h9) rfl (fh_d d_Mo_setScripts 306 rfl) ?_
            refine lv_iload_n hx hb (fh_d d_Mo_setScripts 307 rfl) rfl (lv_at hl 3 rfl) ?_
            refine fn_iald (f := upd (upd (A 26) n0 ((A 23) n0)) n0 (ms ((A 23) n0) ((ms (ms (3 * (yS s0)) (((A 23) n0) - (2 * (yS s0)))) (((A 27) u) + (yS s0))) + ((A 26) u)))) (k := lo) hx hb hK hP 0 mkM_a26 rfl (rfl) (by omega) (by decide) (fh_d d_Mo_setScripts 308 rfl) ?_
            rw [show ((upd (upd (A 26) n0 ((A 23) n0)) n0 (ms ((A 23) n0) ((ms (ms (3 * (yS s0)) (((A 23) n0) - (2 * (yS s0)))) (((A 27) u) + (yS s0))) + ((A 26) u)))) lo) = (A 26) lo from by simp only [upd_n (hln h0l)]]
            refine lv_iconst (v := 4) hx hb (fh_d d_Mo_setScripts 309 rfl) (by decide) ?_
            refine lv_iload hx hb (fh_d d_Mo_setScripts 310 rfl) (lv_at hl 4 rfl) ?_
            refine lv_imul hx hb (fh_d d_Mo_setScripts 311 rfl) ?_
            refine lv_isub hx hb (fh_d d_Mo_setScripts 312 rfl) ?_
            refine fh_callS (cc' := c_Mo_most) (nL' := 2) (rest := []) (av := [.int (ms (2 * (yS s0)) (((A 24) n0) + ((yS s0) / 2))), .int (((A 26) lo) - (4 * (yS s0)))]) X hR (m_Mo_most l D ct b RO (r - 1) n (ms (2 * (yS s0)) (((A 24) n0) + ((yS s0) / 2))) (((A 26) lo) - (4 * (yS s0))) (mkM ct x g (up2 (up2 (up2 (up2 (up2 (up2 (up2 A 25 (upd (A 25) n0 ((A 22) n0))) 26 (upd (A 26) n0 ((A 23) n0))) 27 (upd (A 27) n0 ((A 24) n0))) 28 (upd (A 28) n0 0)) 29 (upd (A 29) u ((A 22) n0))) 30 (upd (A 30) u (ms (ms (3 * (yS s0)) (((A 23) n0) - (2 * (yS s0)))) (((A 27) u) + (yS s0))))) 26 (upd (upd (A 26) n0 ((A 23) n0)) n0 (ms ((A 23) n0) ((ms (ms (3 * (yS s0)) (((A 23) n0) - (2 * (yS s0)))) (((A 27) u) + (yS s0))) + ((A 26) u))))) th co at_ wr no nu op pi wi he de)) w1151 w1149 w1150 w9 ⟨by decide, by decide, by show _ = some 2; decide +kernel⟩ (by omega) (by decide) hP hS hl.1 rfl (by exact Nat.le_of_ble_eq_true rfl) (fh_d d_Mo_setScripts 313 rfl) ⟨Nat.le_refl _, Nat.le_refl _⟩ (fun v9 h9 n9 H locs hq hP hS => ?_)
            obtain ⟨rfl, q116a, q116b⟩ := hq
            rw [q116a, q116b] at hP
            refine W.eq (g2 := F0 m 490 ls [.int (ms (ms (2 * (yS s0)) (((A 24) n0) + ((yS s0) / 2))) (((A 26) lo) - (4 * (yS s0))))]) rfl ?_
            refine lv_istore (lv' := [(8, .int (ms (ms (2 * (yS s0)) (((A 24) n0) + ((yS s0) / 2))) (((A 26) lo) - (4 * (yS s0))))), (7, .int (((A 22) n0) + ((A 25) u))), (6, .int (ms (ms (3 * (yS s0)) (((A 23) n0) - (2 * (yS s0)))) (((A 27) u) + (yS s0)))), (2, .int (nI u)), (3, .int (nI lo)), (4, .int (yS s0)), (5, .int (yT s0)), (0, .ref x), (1, .int (nI n0))]) hx hb (fh_d d_Mo_setScripts 314 rfl) hl (by decide) rfl (fun ls hl => ?_)
            refine lv_iload_n hx hb (fh_d d_Mo_setScripts 315 rfl) rfl (lv_at hl 3 rfl) ?_
            refine lv_if_le (tgt := 518) hx hb (fh_d d_Mo_setScripts 316 rfl) rfl (fun c117 => absurd c117 (nI_np ⟨Nat.pos_of_ne_zero h0u, hu⟩)) (fun c117 => ?_)
            refine lv_iload hx hb (fh_d d_Mo_setScripts 317 rfl) (lv_at hl 2 rfl) ?_
            refine lv_aload_n hx hb (fh_d d_Mo_setScripts 318 rfl) rfl (lv_at hl 7 rfl) ?_
            refine fh_get (own := "FormulaSetterModel") (ref := "FormulaSetterModel") (C := "FormulaSetterModel") (T := T_Mo) (N := 53) (v := .ref (x + 28)) hx hb hT i_Mo hown hK hP mkM_o rfl 34 (by decide) (hT _ w894) (fun _ h9 => h9) rfl (fh_d d_Mo_setScripts 319 rfl) ?_
            refine lv_iload_n hx hb (fh_d d_Mo_setScripts 320 rfl) rfl (lv_at hl 3 rfl) ?_
            refine fn_iald (f := upd (A 27) n0 ((A 24) n0)) (k := u) hx hb hK hP 0 mkM_a27 rfl (rfl) (by omega) (by decide) (fh_d d_Mo_setScripts 321 rfl) ?_
            rw [show ((upd (A 27) n0 ((A 24) n0)) u) = (A 27) u from by simp only [upd_n (hun h0u)]]
            refine lv_isub hx hb (fh_d d_Mo_setScripts 322 rfl) ?_
            refine lv_aload_n hx hb (fh_d d_Mo_setScripts 323 rfl) rfl (lv_at hl 7 rfl) ?_
            refine fh_get (own := "FormulaSetterModel") (ref := "FormulaSetterModel") (C := "FormulaSetterModel") (T := T_Mo) (N := 53) (v := .ref (x + 27)) hx hb hT i_Mo hown hK hP mkM_o rfl 33 (by decide) (hT _ w893) (fun _ h9 => h9) rfl (fh_d d_Mo_setScripts 324 rfl) ?_
            refine lv_iload_n hx hb (fh_d d_Mo_setScripts 325 rfl) rfl (lv_at hl 4 rfl) ?_
            refine fn_iald (f := upd (upd (A 26) n0 ((A 23) n0)) n0 (ms ((A 23) n0) ((ms (ms (3 * (yS s0)) (((A 23) n0) - (2 * (yS s0)))) (((A 27) u) + (yS s0))) + ((A 26) u)))) (k := lo) hx hb hK hP 0 mkM_a26 rfl (rfl) (by omega) (by decide) (fh_d d_Mo_setScripts 326 rfl) ?_
            rw [show ((upd (upd (A 26) n0 ((A 23) n0)) n0 (ms ((A 23) n0) ((ms (ms (3 * (yS s0)) (((A 23) n0) - (2 * (yS s0)))) (((A 27) u) + (yS s0))) + ((A 26) u)))) lo) = (A 26) lo from by simp only [upd_n (hln h0l)]]
            refine lv_iload hx hb (fh_d d_Mo_setScripts 327 rfl) (lv_at hl 0 rfl) ?_
            refine lv_isub hx hb (fh_d d_Mo_setScripts 328 rfl) ?_
            refine lv_isub hx hb (fh_d d_Mo_setScripts 329 rfl) ?_
            refine lv_goto (tgt := 522) hx hb (fh_d d_Mo_setScripts 330 rfl) rfl ?_
            refine lv_istore (lv' := [(9, .int (((ms (ms (3 * (yS s0)) (((A 23) n0) - (2 * (yS s0)))) (((A 27) u) + (yS s0))) - ((A 27) u)) - (((A 26) lo) - (ms (ms (2 * (yS s0)) (((A 24) n0) + ((yS s0) / 2))) (((A 26) lo) - (4 * (yS s0))))))), (8, .int (ms (ms (2 * (yS s0)) (((A 24) n0) + ((yS s0) / 2))) (((A 26) lo) - (4 * (yS s0))))), (7, .int (((A 22) n0) + ((A 25) u))), (6, .int (ms (ms (3 * (yS s0)) (((A 23) n0) - (2 * (yS s0)))) (((A 27) u) + (yS s0)))), (2, .int (nI u)), (3, .int (nI lo)), (4, .int (yS s0)), (5, .int (yT s0)), (0, .ref x), (1, .int (nI n0))]) hx hb (fh_d d_Mo_setScripts 334 rfl) hl (by decide) rfl (fun ls hl => ?_)
            by_cases hg : ((ms (ms (3 * (yS s0)) (((A 23) n0) - (2 * (yS s0)))) (((A 27) u) + (yS s0))) - ((A 27) u)) - (((A 26) lo) - (ms (ms (2 * (yS s0)) (((A 24) n0) + ((yS s0) / 2))) (((A 26) lo) - (4 * (yS s0))))) < 4 * yT s0
            · skip
              refine lv_iload hx hb (fh_d d_Mo_setScripts 335 rfl) (lv_at hl 0 rfl) ?_
              refine lv_iconst (v := 4) hx hb (fh_d d_Mo_setScripts 336 rfl) (by decide) ?_
              refine lv_iload hx hb (fh_d d_Mo_setScripts 337 rfl) (lv_at hl 7 rfl) ?_
              refine lv_imul hx hb (fh_d d_Mo_setScripts 338 rfl) ?_
              refine lv_icmp_ge (tgt := 546) hx hb (fh_d d_Mo_setScripts 339 rfl) rfl (fun c118 => absurd c118 (Int32.not_le.mpr hg)) (fun c118 => ?_)
              refine lv_iload hx hb (fh_d d_Mo_setScripts 340 rfl) (lv_at hl 1 rfl) ?_
              refine lv_iconst (v := 4) hx hb (fh_d d_Mo_setScripts 341 rfl) (by decide) ?_
              refine lv_iload hx hb (fh_d d_Mo_setScripts 342 rfl) (lv_at hl 7 rfl) ?_
              refine lv_imul hx hb (fh_d d_Mo_setScripts 343 rfl) ?_
              refine lv_iadd hx hb (fh_d d_Mo_setScripts 344 rfl) ?_
              refine lv_iload hx hb (fh_d d_Mo_setScripts 345 rfl) (lv_at hl 0 rfl) ?_
              refine lv_isub hx hb (fh_d d_Mo_setScripts 346 rfl) ?_
              refine lv_goto (tgt := 548) hx hb (fh_d d_Mo_setScripts 347 rfl) rfl ?_
              by_cases hk2 : A 1 n0 = 2
              · skip
                by_cases hc3 : A 2 n0 = 73
                · skip
                  refine lv_istore (lv' := [(8, .int (((ms (ms (2 * (yS s0)) (((A 24) n0) + ((yS s0) / 2))) (((A 26) lo) - (4 * (yS s0)))) + (4 * (yT s0))) - (((ms (ms (3 * (yS s0)) (((A 23) n0) - (2 * (yS s0)))) (((A 27) u) + (yS s0))) - ((A 27) u)) - (((A 26) lo) - (ms (ms (2 * (yS s0)) (((A 24) n0) + ((yS s0) / 2))) (((A 26) lo) - (4 * (yS s0)))))))), (9, .int (((ms (ms (3 * (yS s0)) (((A 23) n0) - (2 * (yS s0)))) (((A 27) u) + (yS s0))) - ((A 27) u)) - (((A 26) lo) - (ms (ms (2 * (yS s0)) (((A 24) n0) + ((yS s0) / 2))) (((A 26) lo) - (4 * (yS s0))))))), (7, .int (((A 22) n0) + ((A 25) u))), (6, .int (ms (ms (3 * (yS s0)) (((A 23) n0) - (2 * (yS s0)))) (((A 27) u) + (yS s0)))), (2, .int (nI u)), (3, .int (nI lo)), (4, .int (yS s0)), (5, .int (yT s0)), (0, .ref x), (1, .int (nI n0))]) hx hb (fh_d d_Mo_setScripts 349 rfl) hl (by decide) rfl (fun ls hl => ?_)
                  refine lv_aload_n hx hb (fh_d d_Mo_setScripts 350 rfl) rfl (lv_at hl 8 rfl) ?_
                  refine fh_get (own := "FormulaSetterModel") (ref := "FormulaSetterModel") (C := "FormulaSetterModel") (T := T_Mo) (N := 53) (v := .ref (x + 30)) hx hb hT i_Mo hown hK hP mkM_o rfl 36 (by decide) (hT _ w896) (fun _ h9 => h9) rfl (fh_d d_Mo_setScripts 351 rfl) ?_
                  refine lv_iload_n hx hb (fh_d d_Mo_setScripts 352 rfl) rfl (lv_at hl 5 rfl) ?_
                  refine lv_aload_n hx hb (fh_d d_Mo_setScripts 353 rfl) rfl (lv_at hl 8 rfl) ?_
                  refine fh_get (own := "FormulaSetterModel") (ref := "FormulaSetterModel") (C := "FormulaSetterModel") (T := T_Mo) (N := 53) (v := .ref (x + 2)) hx hb hT i_Mo hown hK hP mkM_o rfl 7 (by decide) (hT _ w867) (fun _ h9 => h9) rfl (fh_d d_Mo_setScripts 354 rfl) ?_
                  refine lv_iload_n hx hb (fh_d d_Mo_setScripts 355 rfl) rfl (lv_at hl 9 rfl) ?_
                  refine fn_iald (f := A 1) (k := n0) hx hb hK hP 0 mkM_a1 rfl (rfl) (by omega) (by decide) (fh_d d_Mo_setScripts 356 rfl) ?_
                  refine lv_iconst (v := 2) hx hb (fh_d d_Mo_setScripts 357 rfl) (by decide) ?_
                  refine lv_icmp_ne (tgt := 588) hx hb (fh_d d_Mo_setScripts 358 rfl) rfl (fun c119 => absurd c119 (Classical.not_not.mpr (hk2))) (fun c119 => ?_)
                  refine lv_aload_n hx hb (fh_d d_Mo_setScripts 359 rfl) rfl (lv_at hl 8 rfl) ?_
                  refine fh_get (own := "FormulaSetterModel") (ref := "FormulaSetterModel") (C := "FormulaSetterModel") (T := T_Mo) (N := 53) (v := .ref (x + 3)) hx hb hT i_Mo hown hK hP mkM_o rfl 8 (by decide) (hT _ w868) (fun _ h9 => h9) rfl (fh_d d_Mo_setScripts 360 rfl) ?_
                  refine lv_iload_n hx hb (fh_d d_Mo_setScripts 361 rfl) rfl (lv_at hl 9 rfl) ?_
                  refine fn_iald (f := A 2) (k := n0) hx hb hK hP 0 mkM_a2 rfl (rfl) (by omega) (by decide) (fh_d d_Mo_setScripts 362 rfl) ?_
                  refine lv_bipush (v := 73) hx hb (fh_d d_Mo_setScripts 363 rfl) (by decide) ?_
                  refine lv_icmp_ne (tgt := 588) hx hb (fh_d d_Mo_setScripts 364 rfl) rfl (fun c120 => absurd c120 (Classical.not_not.mpr (hc3))) (fun c120 => ?_)
                  refine lv_aload_n hx hb (fh_d d_Mo_setScripts 365 rfl) rfl (lv_at hl 8 rfl) ?_
                  refine fh_get (own := "FormulaSetterModel") (ref := "FormulaSetterModel") (C := "FormulaSetterModel") (T := T_Mo) (N := 53) (v := .ref (x + 23)) hx hb hT i_Mo hown hK hP mkM_o rfl 29 (by decide) (hT _ w889) (fun _ h9 => h9) rfl (fh_d d_Mo_setScripts 366 rfl) ?_
                  refine lv_iload_n hx hb (fh_d d_Mo_setScripts 367 rfl) rfl (lv_at hl 9 rfl) ?_
                  refine fn_iald (f := A 22) (k := n0) hx hb hK hP 0 mkM_a22 rfl (rfl) (by omega) (by decide) (fh_d d_Mo_setScripts 368 rfl) ?_
                  refine lv_iload hx hb (fh_d d_Mo_setScripts 369 rfl) (lv_at hl 6 rfl) ?_
                  refine lv_isub hx hb (fh_d d_Mo_setScripts 370 rfl) ?_
                  refine lv_goto (tgt := 594) hx hb (fh_d d_Mo_setScripts 371 rfl) rfl ?_
                  refine fn_iast (f := upd (A 29) u ((A 22) n0)) (k := lo) hx hb hK hP hS 0 mkM_a29 rfl (rfl) (by omega) (by decide) (fh_d d_Mo_setScripts 376 rfl) (fun H locs hP hS => ?_)
                  replace hP := fh_P.eq (h' := mkM ct x g (up2 (up2 (up2 (up2 (up2 (up2 (up2 (up2 A 25 (upd (A 25) n0 ((A 22) n0))) 26 (upd (A 26) n0 ((A 23) n0))) 27 (upd (A 27) n0 ((A 24) n0))) 28 (upd (A 28) n0 0)) 29 (upd (A 29) u ((A 22) n0))) 30 (upd (A 30) u (ms (ms (3 * (yS s0)) (((A 23) n0) - (2 * (yS s0)))) (((A 27) u) + (yS s0))))) 26 (upd (upd (A 26) n0 ((A 23) n0)) n0 (ms ((A 23) n0) ((ms (ms (3 * (yS s0)) (((A 23) n0) - (2 * (yS s0)))) (((A 27) u) + (yS s0))) + ((A 26) u))))) 29 (upd (upd (A 29) u ((A 22) n0)) lo (((A 22) n0) - (yS s0)))) th co at_ wr no nu op pi wi he de) hP mkM_u29
                  refine lv_aload_n hx hb (fh_d d_Mo_setScripts 377 rfl) rfl (lv_at hl 8 rfl) ?_
                  refine fh_get (own := "FormulaSetterModel") (ref := "FormulaSetterModel") (C := "FormulaSetterModel") (T := T_Mo) (N := 53) (v := .ref (x + 31)) hx hb hT i_Mo hown hK hP mkM_o rfl 37 (by decide) (hT _ w897) (fun _ h9 => h9) rfl (fh_d d_Mo_setScripts 378 rfl) ?_
                  refine lv_iload_n hx hb (fh_d d_Mo_setScripts 379 rfl) rfl (lv_at hl 5 rfl) ?_
                  refine lv_iload hx hb (fh_d d_Mo_setScripts 380 rfl) (lv_at hl 0 rfl) ?_
                  refine lv_ineg hx hb (fh_d d_Mo_setScripts 381 rfl) ?_
                  refine fn_iast (f := upd (A 30) u (ms (ms (3 * (yS s0)) (((A 23) n0) - (2 * (yS s0)))) (((A 27) u) + (yS s0)))) (k := lo) hx hb hK hP hS 0 mkM_a30 rfl (rfl) (by omega) (by decide) (fh_d d_Mo_setScripts 382 rfl) (fun H locs hP hS => ?_)
                  replace hP := fh_P.eq (h' := mkM ct x g (up2 (up2 (up2 (up2 (up2 (up2 (up2 (up2 (up2 A 25 (upd (A 25) n0 ((A 22) n0))) 26 (upd (A 26) n0 ((A 23) n0))) 27 (upd (A 27) n0 ((A 24) n0))) 28 (upd (A 28) n0 0)) 29 (upd (A 29) u ((A 22) n0))) 30 (upd (A 30) u (ms (ms (3 * (yS s0)) (((A 23) n0) - (2 * (yS s0)))) (((A 27) u) + (yS s0))))) 26 (upd (upd (A 26) n0 ((A 23) n0)) n0 (ms ((A 23) n0) ((ms (ms (3 * (yS s0)) (((A 23) n0) - (2 * (yS s0)))) (((A 27) u) + (yS s0))) + ((A 26) u))))) 29 (upd (upd (A 29) u ((A 22) n0)) lo (((A 22) n0) - (yS s0)))) 30 (upd (upd (A 30) u (ms (ms (3 * (yS s0)) (((A 23) n0) - (2 * (yS s0)))) (((A 27) u) + (yS s0)))) lo (-(((ms (ms (2 * (yS s0)) (((A 24) n0) + ((yS s0) / 2))) (((A 26) lo) - (4 * (yS s0)))) + (4 * (yT s0))) - (((ms (ms (3 * (yS s0)) (((A 23) n0) - (2 * (yS s0)))) (((A 27) u) + (yS s0))) - ((A 27) u)) - (((A 26) lo) - (ms (ms (2 * (yS s0)) (((A 24) n0) + ((yS s0) / 2))) (((A 26) lo) - (4 * (yS s0)))))))))) th co at_ wr no nu op pi wi he de) hP mkM_u30
                  refine lv_iload hx hb (fh_d d_Mo_setScripts 383 rfl) (lv_at hl 2 rfl) ?_
                  refine lv_aload_n hx hb (fh_d d_Mo_setScripts 384 rfl) rfl (lv_at hl 8 rfl) ?_
                  refine fh_get (own := "FormulaSetterModel") (ref := "FormulaSetterModel") (C := "FormulaSetterModel") (T := T_Mo) (N := 53) (v := .ref (x + 30)) hx hb hT i_Mo hown hK hP mkM_o rfl 36 (by decide) (hT _ w896) (fun _ h9 => h9) rfl (fh_d d_Mo_setScripts 385 rfl) ?_
                  refine lv_iload_n hx hb (fh_d d_Mo_setScripts 386 rfl) rfl (lv_at hl 5 rfl) ?_
                  refine fn_iald (f := upd (upd (A 29) u ((A 22) n0)) lo (((A 22) n0) - (yS s0))) (k := lo) hx hb hK hP 0 mkM_a29 rfl (rfl) (by omega) (by decide) (fh_d d_Mo_setScripts 387 rfl) ?_
                  rw [show ((upd (upd (A 29) u ((A 22) n0)) lo (((A 22) n0) - (yS s0))) lo) = (((A 22) n0) - (yS s0)) from upd_s]
                  refine lv_aload_n hx hb (fh_d d_Mo_setScripts 388 rfl) rfl (lv_at hl 8 rfl) ?_
                  refine fh_get (own := "FormulaSetterModel") (ref := "FormulaSetterModel") (C := "FormulaSetterModel") (T := T_Mo) (N := 53) (v := .ref (x + 26)) hx hb hT i_Mo hown hK hP mkM_o rfl 32 (by decide) (hT _ w892) (fun _ h9 => h9) rfl (fh_d d_Mo_setScripts 389 rfl) ?_
                  refine lv_iload_n hx hb (fh_d d_Mo_setScripts 390 rfl) rfl (lv_at hl 5 rfl) ?_
                  refine fn_iald (f := upd (A 25) n0 ((A 22) n0)) (k := lo) hx hb hK hP 0 mkM_a25 rfl (rfl) (by omega) (by decide) (fh_d d_Mo_setScripts 391 rfl) ?_
                  rw [show ((upd (A 25) n0 ((A 22) n0)) lo) = (A 25) lo from by simp only [upd_n (hln h0l)]]
                  refine lv_iadd hx hb (fh_d d_Mo_setScripts 392 rfl) ?_
                  refine fh_callS (cc' := c_Mo_most) (nL' := 2) (rest := []) (av := [.int (((A 22) n0) + ((A 25) u)), .int ((((A 22) n0) - (yS s0)) + ((A 25) lo))]) X hR (m_Mo_most l D ct b RO (r - 1) n (((A 22) n0) + ((A 25) u)) ((((A 22) n0) - (yS s0)) + ((A 25) lo)) (mkM ct x g (up2 (up2 (up2 (up2 (up2 (up2 (up2 (up2 (up2 A 25 (upd (A 25) n0 ((A 22) n0))) 26 (upd (A 26) n0 ((A 23) n0))) 27 (upd (A 27) n0 ((A 24) n0))) 28 (upd (A 28) n0 0)) 29 (upd (A 29) u ((A 22) n0))) 30 (upd (A 30) u (ms (ms (3 * (yS s0)) (((A 23) n0) - (2 * (yS s0)))) (((A 27) u) + (yS s0))))) 26 (upd (upd (A 26) n0 ((A 23) n0)) n0 (ms ((A 23) n0) ((ms (ms (3 * (yS s0)) (((A 23) n0) - (2 * (yS s0)))) (((A 27) u) + (yS s0))) + ((A 26) u))))) 29 (upd (upd (A 29) u ((A 22) n0)) lo (((A 22) n0) - (yS s0)))) 30 (upd (upd (A 30) u (ms (ms (3 * (yS s0)) (((A 23) n0) - (2 * (yS s0)))) (((A 27) u) + (yS s0)))) lo (-(((ms (ms (2 * (yS s0)) (((A 24) n0) + ((yS s0) / 2))) (((A 26) lo) - (4 * (yS s0)))) + (4 * (yT s0))) - (((ms (ms (3 * (yS s0)) (((A 23) n0) - (2 * (yS s0)))) (((A 27) u) + (yS s0))) - ((A 27) u)) - (((A 26) lo) - (ms (ms (2 * (yS s0)) (((A 24) n0) + ((yS s0) / 2))) (((A 26) lo) - (4 * (yS s0)))))))))) th co at_ wr no nu op pi wi he de)) w1151 w1149 w1150 w9 ⟨by decide, by decide, by show _ = some 2; decide +kernel⟩ (by omega) (by decide) hP hS hl.1 rfl (by exact Nat.le_of_ble_eq_true rfl) (fh_d d_Mo_setScripts 393 rfl) ⟨Nat.le_refl _, Nat.le_refl _⟩ (fun v9 h9 n9 H locs hq hP hS => ?_)
                  obtain ⟨rfl, q121a, q121b⟩ := hq
                  rw [q121a, q121b] at hP
                  refine W.eq (g2 := F0 m 622 ls [.int (ms (((A 22) n0) + ((A 25) u)) ((((A 22) n0) - (yS s0)) + ((A 25) lo)))]) rfl ?_
                  refine lv_istore (lv' := [(7, .int (ms (((A 22) n0) + ((A 25) u)) ((((A 22) n0) - (yS s0)) + ((A 25) lo)))), (8, .int (((ms (ms (2 * (yS s0)) (((A 24) n0) + ((yS s0) / 2))) (((A 26) lo) - (4 * (yS s0)))) + (4 * (yT s0))) - (((ms (ms (3 * (yS s0)) (((A 23) n0) - (2 * (yS s0)))) (((A 27) u) + (yS s0))) - ((A 27) u)) - (((A 26) lo) - (ms (ms (2 * (yS s0)) (((A 24) n0) + ((yS s0) / 2))) (((A 26) lo) - (4 * (yS s0)))))))), (9, .int (((ms (ms (3 * (yS s0)) (((A 23) n0) - (2 * (yS s0)))) (((A 27) u) + (yS s0))) - ((A 27) u)) - (((A 26) lo) - (ms (ms (2 * (yS s0)) (((A 24) n0) + ((yS s0) / 2))) (((A 26) lo) - (4 * (yS s0))))))), (6, .int (ms (ms (3 * (yS s0)) (((A 23) n0) - (2 * (yS s0)))) (((A 27) u) + (yS s0)))), (2, .int (nI u)), (3, .int (nI lo)), (4, .int (yS s0)), (5, .int (yT s0)), (0, .ref x), (1, .int (nI n0))]) hx hb (fh_d d_Mo_setScripts 394 rfl) hl (by decide) rfl (fun ls hl => ?_)
                  refine lv_aload_n hx hb (fh_d d_Mo_setScripts 395 rfl) rfl (lv_at hl 8 rfl) ?_
                  refine fh_get (own := "FormulaSetterModel") (ref := "FormulaSetterModel") (C := "FormulaSetterModel") (T := T_Mo) (N := 53) (v := .ref (x + 28)) hx hb hT i_Mo hown hK hP mkM_o rfl 34 (by decide) (hT _ w894) (fun _ h9 => h9) rfl (fh_d d_Mo_setScripts 396 rfl) ?_
                  refine lv_iload_n hx hb (fh_d d_Mo_setScripts 397 rfl) rfl (lv_at hl 9 rfl) ?_
                  refine lv_aload_n hx hb (fh_d d_Mo_setScripts 398 rfl) rfl (lv_at hl 8 rfl) ?_
                  refine fh_get (own := "FormulaSetterModel") (ref := "FormulaSetterModel") (C := "FormulaSetterModel") (T := T_Mo) (N := 53) (v := .ref (x + 25)) hx hb hT i_Mo hown hK hP mkM_o rfl 31 (by decide) (hT _ w891) (fun _ h9 => h9) rfl (fh_d d_Mo_setScripts 399 rfl) ?_
                  refine lv_iload_n hx hb (fh_d d_Mo_setScripts 400 rfl) rfl (lv_at hl 9 rfl) ?_
                  refine fn_iald (f := A 24) (k := n0) hx hb hK hP 0 mkM_a24 rfl (rfl) (by omega) (by decide) (fh_d d_Mo_setScripts 401 rfl) ?_
                  refine lv_iload hx hb (fh_d d_Mo_setScripts 402 rfl) (lv_at hl 1 rfl) ?_
                  refine lv_aload_n hx hb (fh_d d_Mo_setScripts 403 rfl) rfl (lv_at hl 8 rfl) ?_
                  refine fh_get (own := "FormulaSetterModel") (ref := "FormulaSetterModel") (C := "FormulaSetterModel") (T := T_Mo) (N := 53) (v := .ref (x + 28)) hx hb hT i_Mo hown hK hP mkM_o rfl 34 (by decide) (hT _ w894) (fun _ h9 => h9) rfl (fh_d d_Mo_setScripts 404 rfl) ?_
                  refine lv_iload_n hx hb (fh_d d_Mo_setScripts 405 rfl) rfl (lv_at hl 5 rfl) ?_
                  refine fn_iald (f := upd (A 27) n0 ((A 24) n0)) (k := lo) hx hb hK hP 0 mkM_a27 rfl (rfl) (by omega) (by decide) (fh_d d_Mo_setScripts 406 rfl) ?_
                  rw [show ((upd (A 27) n0 ((A 24) n0)) lo) = (A 27) lo from by simp only [upd_n (hln h0l)]]
                  refine lv_iadd hx hb (fh_d d_Mo_setScripts 407 rfl) ?_
                  refine fh_callS (cc' := c_Mo_most) (nL' := 2) (rest := [.int (nI n0), .ref (x + 28)]) (av := [.int ((A 24) n0), .int ((((ms (ms (2 * (yS s0)) (((A 24) n0) + ((yS s0) / 2))) (((A 26) lo) - (4 * (yS s0)))) + (4 * (yT s0))) - (((ms (ms (3 * (yS s0)) (((A 23) n0) - (2 * (yS s0)))) (((A 27) u) + (yS s0))) - ((A 27) u)) - (((A 26) lo) - (ms (ms (2 * (yS s0)) (((A 24) n0) + ((yS s0) / 2))) (((A 26) lo) - (4 * (yS s0))))))) + ((A 27) lo))]) X hR (m_Mo_most l D ct b RO (r - 1) n ((A 24) n0) ((((ms (ms (2 * (yS s0)) (((A 24) n0) + ((yS s0) / 2))) (((A 26) lo) - (4 * (yS s0)))) + (4 * (yT s0))) - (((ms (ms (3 * (yS s0)) (((A 23) n0) - (2 * (yS s0)))) (((A 27) u) + (yS s0))) - ((A 27) u)) - (((A 26) lo) - (ms (ms (2 * (yS s0)) (((A 24) n0) + ((yS s0) / 2))) (((A 26) lo) - (4 * (yS s0))))))) + ((A 27) lo)) (mkM ct x g (up2 (up2 (up2 (up2 (up2 (up2 (up2 (up2 (up2 A 25 (upd (A 25) n0 ((A 22) n0))) 26 (upd (A 26) n0 ((A 23) n0))) 27 (upd (A 27) n0 ((A 24) n0))) 28 (upd (A 28) n0 0)) 29 (upd (A 29) u ((A 22) n0))) 30 (upd (A 30) u (ms (ms (3 * (yS s0)) (((A 23) n0) - (2 * (yS s0)))) (((A 27) u) + (yS s0))))) 26 (upd (upd (A 26) n0 ((A 23) n0)) n0 (ms ((A 23) n0) ((ms (ms (3 * (yS s0)) (((A 23) n0) - (2 * (yS s0)))) (((A 27) u) + (yS s0))) + ((A 26) u))))) 29 (upd (upd (A 29) u ((A 22) n0)) lo (((A 22) n0) - (yS s0)))) 30 (upd (upd (A 30) u (ms (ms (3 * (yS s0)) (((A 23) n0) - (2 * (yS s0)))) (((A 27) u) + (yS s0)))) lo (-(((ms (ms (2 * (yS s0)) (((A 24) n0) + ((yS s0) / 2))) (((A 26) lo) - (4 * (yS s0)))) + (4 * (yT s0))) - (((ms (ms (3 * (yS s0)) (((A 23) n0) - (2 * (yS s0)))) (((A 27) u) + (yS s0))) - ((A 27) u)) - (((A 26) lo) - (ms (ms (2 * (yS s0)) (((A 24) n0) + ((yS s0) / 2))) (((A 26) lo) - (4 * (yS s0)))))))))) th co at_ wr no nu op pi wi he de)) w1151 w1149 w1150 w9 ⟨by decide, by decide, by show _ = some 2; decide +kernel⟩ (by omega) (by decide) hP hS hl.1 rfl (by exact Nat.le_of_ble_eq_true rfl) (fh_d d_Mo_setScripts 408 rfl) ⟨Nat.le_refl _, Nat.le_refl _⟩ (fun v9 h9 n9 H locs hq hP hS => ?_)
                  obtain ⟨rfl, q122a, q122b⟩ := hq
                  rw [q122a, q122b] at hP
                  refine W.eq (g2 := F0 m 647 ls [.int (ms ((A 24) n0) ((((ms (ms (2 * (yS s0)) (((A 24) n0) + ((yS s0) / 2))) (((A 26) lo) - (4 * (yS s0)))) + (4 * (yT s0))) - (((ms (ms (3 * (yS s0)) (((A 23) n0) - (2 * (yS s0)))) (((A 27) u) + (yS s0))) - ((A 27) u)) - (((A 26) lo) - (ms (ms (2 * (yS s0)) (((A 24) n0) + ((yS s0) / 2))) (((A 26) lo) - (4 * (yS s0))))))) + ((A 27) lo))), .int (nI n0), .ref (x + 28)]) rfl ?_
                  refine fn_iast (f := upd (A 27) n0 ((A 24) n0)) (k := n0) hx hb hK hP hS 0 mkM_a27 rfl (rfl) (by omega) (by decide) (fh_d d_Mo_setScripts 409 rfl) (fun H locs hP hS => ?_)
                  replace hP := fh_P.eq (h' := mkM ct x g (up2 (up2 (up2 (up2 (up2 (up2 (up2 (up2 (up2 (up2 A 25 (upd (A 25) n0 ((A 22) n0))) 26 (upd (A 26) n0 ((A 23) n0))) 27 (upd (A 27) n0 ((A 24) n0))) 28 (upd (A 28) n0 0)) 29 (upd (A 29) u ((A 22) n0))) 30 (upd (A 30) u (ms (ms (3 * (yS s0)) (((A 23) n0) - (2 * (yS s0)))) (((A 27) u) + (yS s0))))) 26 (upd (upd (A 26) n0 ((A 23) n0)) n0 (ms ((A 23) n0) ((ms (ms (3 * (yS s0)) (((A 23) n0) - (2 * (yS s0)))) (((A 27) u) + (yS s0))) + ((A 26) u))))) 29 (upd (upd (A 29) u ((A 22) n0)) lo (((A 22) n0) - (yS s0)))) 30 (upd (upd (A 30) u (ms (ms (3 * (yS s0)) (((A 23) n0) - (2 * (yS s0)))) (((A 27) u) + (yS s0)))) lo (-(((ms (ms (2 * (yS s0)) (((A 24) n0) + ((yS s0) / 2))) (((A 26) lo) - (4 * (yS s0)))) + (4 * (yT s0))) - (((ms (ms (3 * (yS s0)) (((A 23) n0) - (2 * (yS s0)))) (((A 27) u) + (yS s0))) - ((A 27) u)) - (((A 26) lo) - (ms (ms (2 * (yS s0)) (((A 24) n0) + ((yS s0) / 2))) (((A 26) lo) - (4 * (yS s0)))))))))) 27 (upd (upd (A 27) n0 ((A 24) n0)) n0 (ms ((A 24) n0) ((((ms (ms (2 * (yS s0)) (((A 24) n0) + ((yS s0) / 2))) (((A 26) lo) - (4 * (yS s0)))) + (4 * (yT s0))) - (((ms (ms (3 * (yS s0)) (((A 23) n0) - (2 * (yS s0)))) (((A 27) u) + (yS s0))) - ((A 27) u)) - (((A 26) lo) - (ms (ms (2 * (yS s0)) (((A 24) n0) + ((yS s0) / 2))) (((A 26) lo) - (4 * (yS s0))))))) + ((A 27) lo))))) th co at_ wr no nu op pi wi he de) hP mkM_u27
                  refine lv_aload_n hx hb (fh_d d_Mo_setScripts 410 rfl) rfl (lv_at hl 8 rfl) ?_
                  refine fh_get (own := "FormulaSetterModel") (ref := "FormulaSetterModel") (C := "FormulaSetterModel") (T := T_Mo) (N := 53) (v := .ref (x + 26)) hx hb hT i_Mo hown hK hP mkM_o rfl 32 (by decide) (hT _ w892) (fun _ h9 => h9) rfl (fh_d d_Mo_setScripts 411 rfl) ?_
                  refine lv_iload_n hx hb (fh_d d_Mo_setScripts 412 rfl) rfl (lv_at hl 9 rfl) ?_
                  refine lv_iload hx hb (fh_d d_Mo_setScripts 413 rfl) (lv_at hl 0 rfl) ?_
                  refine lv_iload hx hb (fh_d d_Mo_setScripts 414 rfl) (lv_at hl 6 rfl) ?_
                  refine lv_iconst (v := 2) hx hb (fh_d d_Mo_setScripts 415 rfl) (by decide) ?_
                  refine lv_idiv hx hb (fh_d d_Mo_setScripts 416 rfl) (by decide) ?_
                  refine lv_iadd hx hb (fh_d d_Mo_setScripts 417 rfl) ?_
                  refine fn_iast (f := upd (A 25) n0 ((A 22) n0)) (k := n0) hx hb hK hP hS 0 mkM_a25 rfl (rfl) (by omega) (by decide) (fh_d d_Mo_setScripts 418 rfl) (fun H locs hP hS => ?_)
                  replace hP := fh_P.eq (h' := mkM ct x g (up2 (up2 (up2 (up2 (up2 (up2 (up2 (up2 (up2 (up2 (up2 A 25 (upd (A 25) n0 ((A 22) n0))) 26 (upd (A 26) n0 ((A 23) n0))) 27 (upd (A 27) n0 ((A 24) n0))) 28 (upd (A 28) n0 0)) 29 (upd (A 29) u ((A 22) n0))) 30 (upd (A 30) u (ms (ms (3 * (yS s0)) (((A 23) n0) - (2 * (yS s0)))) (((A 27) u) + (yS s0))))) 26 (upd (upd (A 26) n0 ((A 23) n0)) n0 (ms ((A 23) n0) ((ms (ms (3 * (yS s0)) (((A 23) n0) - (2 * (yS s0)))) (((A 27) u) + (yS s0))) + ((A 26) u))))) 29 (upd (upd (A 29) u ((A 22) n0)) lo (((A 22) n0) - (yS s0)))) 30 (upd (upd (A 30) u (ms (ms (3 * (yS s0)) (((A 23) n0) - (2 * (yS s0)))) (((A 27) u) + (yS s0)))) lo (-(((ms (ms (2 * (yS s0)) (((A 24) n0) + ((yS s0) / 2))) (((A 26) lo) - (4 * (yS s0)))) + (4 * (yT s0))) - (((ms (ms (3 * (yS s0)) (((A 23) n0) - (2 * (yS s0)))) (((A 27) u) + (yS s0))) - ((A 27) u)) - (((A 26) lo) - (ms (ms (2 * (yS s0)) (((A 24) n0) + ((yS s0) / 2))) (((A 26) lo) - (4 * (yS s0)))))))))) 27 (upd (upd (A 27) n0 ((A 24) n0)) n0 (ms ((A 24) n0) ((((ms (ms (2 * (yS s0)) (((A 24) n0) + ((yS s0) / 2))) (((A 26) lo) - (4 * (yS s0)))) + (4 * (yT s0))) - (((ms (ms (3 * (yS s0)) (((A 23) n0) - (2 * (yS s0)))) (((A 27) u) + (yS s0))) - ((A 27) u)) - (((A 26) lo) - (ms (ms (2 * (yS s0)) (((A 24) n0) + ((yS s0) / 2))) (((A 26) lo) - (4 * (yS s0))))))) + ((A 27) lo))))) 25 (upd (upd (A 25) n0 ((A 22) n0)) n0 ((ms (((A 22) n0) + ((A 25) u)) ((((A 22) n0) - (yS s0)) + ((A 25) lo))) + ((yS s0) / 2)))) th co at_ wr no nu op pi wi he de) hP mkM_u25
                  exact fh_vret X hP hS (fh_d d_Mo_setScripts 419 rfl) ⟨rfl, by unfold rf_sc; rw [if_neg h0u, if_neg h0l, if_neg hk0, if_neg hlm, if_neg hcr, if_pos hg, if_pos hk2, if_pos hc3]; (try rfl), rfl⟩
                · skip
                  refine lv_istore (lv' := [(8, .int (((ms (ms (2 * (yS s0)) (((A 24) n0) + ((yS s0) / 2))) (((A 26) lo) - (4 * (yS s0)))) + (4 * (yT s0))) - (((ms (ms (3 * (yS s0)) (((A 23) n0) - (2 * (yS s0)))) (((A 27) u) + (yS s0))) - ((A 27) u)) - (((A 26) lo) - (ms (ms (2 * (yS s0)) (((A 24) n0) + ((yS s0) / 2))) (((A 26) lo) - (4 * (yS s0)))))))), (9, .int (((ms (ms (3 * (yS s0)) (((A 23) n0) - (2 * (yS s0)))) (((A 27) u) + (yS s0))) - ((A 27) u)) - (((A 26) lo) - (ms (ms (2 * (yS s0)) (((A 24) n0) + ((yS s0) / 2))) (((A 26) lo) - (4 * (yS s0))))))), (7, .int (((A 22) n0) + ((A 25) u))), (6, .int (ms (ms (3 * (yS s0)) (((A 23) n0) - (2 * (yS s0)))) (((A 27) u) + (yS s0)))), (2, .int (nI u)), (3, .int (nI lo)), (4, .int (yS s0)), (5, .int (yT s0)), (0, .ref x), (1, .int (nI n0))]) hx hb (fh_d d_Mo_setScripts 349 rfl) hl (by decide) rfl (fun ls hl => ?_)
                  refine lv_aload_n hx hb (fh_d d_Mo_setScripts 350 rfl) rfl (lv_at hl 8 rfl) ?_
                  refine fh_get (own := "FormulaSetterModel") (ref := "FormulaSetterModel") (C := "FormulaSetterModel") (T := T_Mo) (N := 53) (v := .ref (x + 30)) hx hb hT i_Mo hown hK hP mkM_o rfl 36 (by decide) (hT _ w896) (fun _ h9 => h9) rfl (fh_d d_Mo_setScripts 351 rfl) ?_
                  refine lv_iload_n hx hb (fh_d d_Mo_setScripts 352 rfl) rfl (lv_at hl 5 rfl) ?_
                  refine lv_aload_n hx hb (fh_d d_Mo_setScripts 353 rfl) rfl (lv_at hl 8 rfl) ?_
                  refine fh_get (own := "FormulaSetterModel") (ref := "FormulaSetterModel") (C := "FormulaSetterModel") (T := T_Mo) (N := 53) (v := .ref (x + 2)) hx hb hT i_Mo hown hK hP mkM_o rfl 7 (by decide) (hT _ w867) (fun _ h9 => h9) rfl (fh_d d_Mo_setScripts 354 rfl) ?_
                  refine lv_iload_n hx hb (fh_d d_Mo_setScripts 355 rfl) rfl (lv_at hl 9 rfl) ?_
                  refine fn_iald (f := A 1) (k := n0) hx hb hK hP 0 mkM_a1 rfl (rfl) (by omega) (by decide) (fh_d d_Mo_setScripts 356 rfl) ?_
                  refine lv_iconst (v := 2) hx hb (fh_d d_Mo_setScripts 357 rfl) (by decide) ?_
                  refine lv_icmp_ne (tgt := 588) hx hb (fh_d d_Mo_setScripts 358 rfl) rfl (fun c123 => absurd c123 (Classical.not_not.mpr (hk2))) (fun c123 => ?_)
                  refine lv_aload_n hx hb (fh_d d_Mo_setScripts 359 rfl) rfl (lv_at hl 8 rfl) ?_
                  refine fh_get (own := "FormulaSetterModel") (ref := "FormulaSetterModel") (C := "FormulaSetterModel") (T := T_Mo) (N := 53) (v := .ref (x + 3)) hx hb hT i_Mo hown hK hP mkM_o rfl 8 (by decide) (hT _ w868) (fun _ h9 => h9) rfl (fh_d d_Mo_setScripts 360 rfl) ?_
                  refine lv_iload_n hx hb (fh_d d_Mo_setScripts 361 rfl) rfl (lv_at hl 9 rfl) ?_
                  refine fn_iald (f := A 2) (k := n0) hx hb hK hP 0 mkM_a2 rfl (rfl) (by omega) (by decide) (fh_d d_Mo_setScripts 362 rfl) ?_
                  refine lv_bipush (v := 73) hx hb (fh_d d_Mo_setScripts 363 rfl) (by decide) ?_
                  refine lv_icmp_ne (tgt := 588) hx hb (fh_d d_Mo_setScripts 364 rfl) rfl (fun c124 => ?_) (fun c124 => absurd c124 (hc3))
                  refine lv_aload_n hx hb (fh_d d_Mo_setScripts 372 rfl) rfl (lv_at hl 8 rfl) ?_
                  refine fh_get (own := "FormulaSetterModel") (ref := "FormulaSetterModel") (C := "FormulaSetterModel") (T := T_Mo) (N := 53) (v := .ref (x + 23)) hx hb hT i_Mo hown hK hP mkM_o rfl 29 (by decide) (hT _ w889) (fun _ h9 => h9) rfl (fh_d d_Mo_setScripts 373 rfl) ?_
                  refine lv_iload_n hx hb (fh_d d_Mo_setScripts 374 rfl) rfl (lv_at hl 9 rfl) ?_
                  refine fn_iald (f := A 22) (k := n0) hx hb hK hP 0 mkM_a22 rfl (rfl) (by omega) (by decide) (fh_d d_Mo_setScripts 375 rfl) ?_
                  refine fn_iast (f := upd (A 29) u ((A 22) n0)) (k := lo) hx hb hK hP hS 0 mkM_a29 rfl (rfl) (by omega) (by decide) (fh_d d_Mo_setScripts 376 rfl) (fun H locs hP hS => ?_)
                  replace hP := fh_P.eq (h' := mkM ct x g (up2 (up2 (up2 (up2 (up2 (up2 (up2 (up2 A 25 (upd (A 25) n0 ((A 22) n0))) 26 (upd (A 26) n0 ((A 23) n0))) 27 (upd (A 27) n0 ((A 24) n0))) 28 (upd (A 28) n0 0)) 29 (upd (A 29) u ((A 22) n0))) 30 (upd (A 30) u (ms (ms (3 * (yS s0)) (((A 23) n0) - (2 * (yS s0)))) (((A 27) u) + (yS s0))))) 26 (upd (upd (A 26) n0 ((A 23) n0)) n0 (ms ((A 23) n0) ((ms (ms (3 * (yS s0)) (((A 23) n0) - (2 * (yS s0)))) (((A 27) u) + (yS s0))) + ((A 26) u))))) 29 (upd (upd (A 29) u ((A 22) n0)) lo ((A 22) n0))) th co at_ wr no nu op pi wi he de) hP mkM_u29
                  refine lv_aload_n hx hb (fh_d d_Mo_setScripts 377 rfl) rfl (lv_at hl 8 rfl) ?_
                  refine fh_get (own := "FormulaSetterModel") (ref := "FormulaSetterModel") (C := "FormulaSetterModel") (T := T_Mo) (N := 53) (v := .ref (x + 31)) hx hb hT i_Mo hown hK hP mkM_o rfl 37 (by decide) (hT _ w897) (fun _ h9 => h9) rfl (fh_d d_Mo_setScripts 378 rfl) ?_
                  refine lv_iload_n hx hb (fh_d d_Mo_setScripts 379 rfl) rfl (lv_at hl 5 rfl) ?_
                  refine lv_iload hx hb (fh_d d_Mo_setScripts 380 rfl) (lv_at hl 0 rfl) ?_
                  refine lv_ineg hx hb (fh_d d_Mo_setScripts 381 rfl) ?_
                  refine fn_iast (f := upd (A 30) u (ms (ms (3 * (yS s0)) (((A 23) n0) - (2 * (yS s0)))) (((A 27) u) + (yS s0)))) (k := lo) hx hb hK hP hS 0 mkM_a30 rfl (rfl) (by omega) (by decide) (fh_d d_Mo_setScripts 382 rfl) (fun H locs hP hS => ?_)
                  replace hP := fh_P.eq (h' := mkM ct x g (up2 (up2 (up2 (up2 (up2 (up2 (up2 (up2 (up2 A 25 (upd (A 25) n0 ((A 22) n0))) 26 (upd (A 26) n0 ((A 23) n0))) 27 (upd (A 27) n0 ((A 24) n0))) 28 (upd (A 28) n0 0)) 29 (upd (A 29) u ((A 22) n0))) 30 (upd (A 30) u (ms (ms (3 * (yS s0)) (((A 23) n0) - (2 * (yS s0)))) (((A 27) u) + (yS s0))))) 26 (upd (upd (A 26) n0 ((A 23) n0)) n0 (ms ((A 23) n0) ((ms (ms (3 * (yS s0)) (((A 23) n0) - (2 * (yS s0)))) (((A 27) u) + (yS s0))) + ((A 26) u))))) 29 (upd (upd (A 29) u ((A 22) n0)) lo ((A 22) n0))) 30 (upd (upd (A 30) u (ms (ms (3 * (yS s0)) (((A 23) n0) - (2 * (yS s0)))) (((A 27) u) + (yS s0)))) lo (-(((ms (ms (2 * (yS s0)) (((A 24) n0) + ((yS s0) / 2))) (((A 26) lo) - (4 * (yS s0)))) + (4 * (yT s0))) - (((ms (ms (3 * (yS s0)) (((A 23) n0) - (2 * (yS s0)))) (((A 27) u) + (yS s0))) - ((A 27) u)) - (((A 26) lo) - (ms (ms (2 * (yS s0)) (((A 24) n0) + ((yS s0) / 2))) (((A 26) lo) - (4 * (yS s0)))))))))) th co at_ wr no nu op pi wi he de) hP mkM_u30
                  refine lv_iload hx hb (fh_d d_Mo_setScripts 383 rfl) (lv_at hl 2 rfl) ?_
                  refine lv_aload_n hx hb (fh_d d_Mo_setScripts 384 rfl) rfl (lv_at hl 8 rfl) ?_
                  refine fh_get (own := "FormulaSetterModel") (ref := "FormulaSetterModel") (C := "FormulaSetterModel") (T := T_Mo) (N := 53) (v := .ref (x + 30)) hx hb hT i_Mo hown hK hP mkM_o rfl 36 (by decide) (hT _ w896) (fun _ h9 => h9) rfl (fh_d d_Mo_setScripts 385 rfl) ?_
                  refine lv_iload_n hx hb (fh_d d_Mo_setScripts 386 rfl) rfl (lv_at hl 5 rfl) ?_
                  refine fn_iald (f := upd (upd (A 29) u ((A 22) n0)) lo ((A 22) n0)) (k := lo) hx hb hK hP 0 mkM_a29 rfl (rfl) (by omega) (by decide) (fh_d d_Mo_setScripts 387 rfl) ?_
                  rw [show ((upd (upd (A 29) u ((A 22) n0)) lo ((A 22) n0)) lo) = ((A 22) n0) from upd_s]
                  refine lv_aload_n hx hb (fh_d d_Mo_setScripts 388 rfl) rfl (lv_at hl 8 rfl) ?_
                  refine fh_get (own := "FormulaSetterModel") (ref := "FormulaSetterModel") (C := "FormulaSetterModel") (T := T_Mo) (N := 53) (v := .ref (x + 26)) hx hb hT i_Mo hown hK hP mkM_o rfl 32 (by decide) (hT _ w892) (fun _ h9 => h9) rfl (fh_d d_Mo_setScripts 389 rfl) ?_
                  refine lv_iload_n hx hb (fh_d d_Mo_setScripts 390 rfl) rfl (lv_at hl 5 rfl) ?_
                  refine fn_iald (f := upd (A 25) n0 ((A 22) n0)) (k := lo) hx hb hK hP 0 mkM_a25 rfl (rfl) (by omega) (by decide) (fh_d d_Mo_setScripts 391 rfl) ?_
                  rw [show ((upd (A 25) n0 ((A 22) n0)) lo) = (A 25) lo from by simp only [upd_n (hln h0l)]]
                  refine lv_iadd hx hb (fh_d d_Mo_setScripts 392 rfl) ?_
                  refine fh_callS (cc' := c_Mo_most) (nL' := 2) (rest := []) (av := [.int (((A 22) n0) + ((A 25) u)), .int (((A 22) n0) + ((A 25) lo))]) X hR (m_Mo_most l D ct b RO (r - 1) n (((A 22) n0) + ((A 25) u)) (((A 22) n0) + ((A 25) lo)) (mkM ct x g (up2 (up2 (up2 (up2 (up2 (up2 (up2 (up2 (up2 A 25 (upd (A 25) n0 ((A 22) n0))) 26 (upd (A 26) n0 ((A 23) n0))) 27 (upd (A 27) n0 ((A 24) n0))) 28 (upd (A 28) n0 0)) 29 (upd (A 29) u ((A 22) n0))) 30 (upd (A 30) u (ms (ms (3 * (yS s0)) (((A 23) n0) - (2 * (yS s0)))) (((A 27) u) + (yS s0))))) 26 (upd (upd (A 26) n0 ((A 23) n0)) n0 (ms ((A 23) n0) ((ms (ms (3 * (yS s0)) (((A 23) n0) - (2 * (yS s0)))) (((A 27) u) + (yS s0))) + ((A 26) u))))) 29 (upd (upd (A 29) u ((A 22) n0)) lo ((A 22) n0))) 30 (upd (upd (A 30) u (ms (ms (3 * (yS s0)) (((A 23) n0) - (2 * (yS s0)))) (((A 27) u) + (yS s0)))) lo (-(((ms (ms (2 * (yS s0)) (((A 24) n0) + ((yS s0) / 2))) (((A 26) lo) - (4 * (yS s0)))) + (4 * (yT s0))) - (((ms (ms (3 * (yS s0)) (((A 23) n0) - (2 * (yS s0)))) (((A 27) u) + (yS s0))) - ((A 27) u)) - (((A 26) lo) - (ms (ms (2 * (yS s0)) (((A 24) n0) + ((yS s0) / 2))) (((A 26) lo) - (4 * (yS s0)))))))))) th co at_ wr no nu op pi wi he de)) w1151 w1149 w1150 w9 ⟨by decide, by decide, by show _ = some 2; decide +kernel⟩ (by omega) (by decide) hP hS hl.1 rfl (by exact Nat.le_of_ble_eq_true rfl) (fh_d d_Mo_setScripts 393 rfl) ⟨Nat.le_refl _, Nat.le_refl _⟩ (fun v9 h9 n9 H locs hq hP hS => ?_)
                  obtain ⟨rfl, q125a, q125b⟩ := hq
                  rw [q125a, q125b] at hP
                  refine W.eq (g2 := F0 m 622 ls [.int (ms (((A 22) n0) + ((A 25) u)) (((A 22) n0) + ((A 25) lo)))]) rfl ?_
                  refine lv_istore (lv' := [(7, .int (ms (((A 22) n0) + ((A 25) u)) (((A 22) n0) + ((A 25) lo)))), (8, .int (((ms (ms (2 * (yS s0)) (((A 24) n0) + ((yS s0) / 2))) (((A 26) lo) - (4 * (yS s0)))) + (4 * (yT s0))) - (((ms (ms (3 * (yS s0)) (((A 23) n0) - (2 * (yS s0)))) (((A 27) u) + (yS s0))) - ((A 27) u)) - (((A 26) lo) - (ms (ms (2 * (yS s0)) (((A 24) n0) + ((yS s0) / 2))) (((A 26) lo) - (4 * (yS s0)))))))), (9, .int (((ms (ms (3 * (yS s0)) (((A 23) n0) - (2 * (yS s0)))) (((A 27) u) + (yS s0))) - ((A 27) u)) - (((A 26) lo) - (ms (ms (2 * (yS s0)) (((A 24) n0) + ((yS s0) / 2))) (((A 26) lo) - (4 * (yS s0))))))), (6, .int (ms (ms (3 * (yS s0)) (((A 23) n0) - (2 * (yS s0)))) (((A 27) u) + (yS s0)))), (2, .int (nI u)), (3, .int (nI lo)), (4, .int (yS s0)), (5, .int (yT s0)), (0, .ref x), (1, .int (nI n0))]) hx hb (fh_d d_Mo_setScripts 394 rfl) hl (by decide) rfl (fun ls hl => ?_)
                  refine lv_aload_n hx hb (fh_d d_Mo_setScripts 395 rfl) rfl (lv_at hl 8 rfl) ?_
                  refine fh_get (own := "FormulaSetterModel") (ref := "FormulaSetterModel") (C := "FormulaSetterModel") (T := T_Mo) (N := 53) (v := .ref (x + 28)) hx hb hT i_Mo hown hK hP mkM_o rfl 34 (by decide) (hT _ w894) (fun _ h9 => h9) rfl (fh_d d_Mo_setScripts 396 rfl) ?_
                  refine lv_iload_n hx hb (fh_d d_Mo_setScripts 397 rfl) rfl (lv_at hl 9 rfl) ?_
                  refine lv_aload_n hx hb (fh_d d_Mo_setScripts 398 rfl) rfl (lv_at hl 8 rfl) ?_
                  refine fh_get (own := "FormulaSetterModel") (ref := "FormulaSetterModel") (C := "FormulaSetterModel") (T := T_Mo) (N := 53) (v := .ref (x + 25)) hx hb hT i_Mo hown hK hP mkM_o rfl 31 (by decide) (hT _ w891) (fun _ h9 => h9) rfl (fh_d d_Mo_setScripts 399 rfl) ?_
                  refine lv_iload_n hx hb (fh_d d_Mo_setScripts 400 rfl) rfl (lv_at hl 9 rfl) ?_
                  refine fn_iald (f := A 24) (k := n0) hx hb hK hP 0 mkM_a24 rfl (rfl) (by omega) (by decide) (fh_d d_Mo_setScripts 401 rfl) ?_
                  refine lv_iload hx hb (fh_d d_Mo_setScripts 402 rfl) (lv_at hl 1 rfl) ?_
                  refine lv_aload_n hx hb (fh_d d_Mo_setScripts 403 rfl) rfl (lv_at hl 8 rfl) ?_
                  refine fh_get (own := "FormulaSetterModel") (ref := "FormulaSetterModel") (C := "FormulaSetterModel") (T := T_Mo) (N := 53) (v := .ref (x + 28)) hx hb hT i_Mo hown hK hP mkM_o rfl 34 (by decide) (hT _ w894) (fun _ h9 => h9) rfl (fh_d d_Mo_setScripts 404 rfl) ?_
                  refine lv_iload_n hx hb (fh_d d_Mo_setScripts 405 rfl) rfl (lv_at hl 5 rfl) ?_
                  refine fn_iald (f := upd (A 27) n0 ((A 24) n0)) (k := lo) hx hb hK hP 0 mkM_a27 rfl (rfl) (by omega) (by decide) (fh_d d_Mo_setScripts 406 rfl) ?_
                  rw [show ((upd (A 27) n0 ((A 24) n0)) lo) = (A 27) lo from by simp only [upd_n (hln h0l)]]
                  refine lv_iadd hx hb (fh_d d_Mo_setScripts 407 rfl) ?_
                  refine fh_callS (cc' := c_Mo_most) (nL' := 2) (rest := [.int (nI n0), .ref (x + 28)]) (av := [.int ((A 24) n0), .int ((((ms (ms (2 * (yS s0)) (((A 24) n0) + ((yS s0) / 2))) (((A 26) lo) - (4 * (yS s0)))) + (4 * (yT s0))) - (((ms (ms (3 * (yS s0)) (((A 23) n0) - (2 * (yS s0)))) (((A 27) u) + (yS s0))) - ((A 27) u)) - (((A 26) lo) - (ms (ms (2 * (yS s0)) (((A 24) n0) + ((yS s0) / 2))) (((A 26) lo) - (4 * (yS s0))))))) + ((A 27) lo))]) X hR (m_Mo_most l D ct b RO (r - 1) n ((A 24) n0) ((((ms (ms (2 * (yS s0)) (((A 24) n0) + ((yS s0) / 2))) (((A 26) lo) - (4 * (yS s0)))) + (4 * (yT s0))) - (((ms (ms (3 * (yS s0)) (((A 23) n0) - (2 * (yS s0)))) (((A 27) u) + (yS s0))) - ((A 27) u)) - (((A 26) lo) - (ms (ms (2 * (yS s0)) (((A 24) n0) + ((yS s0) / 2))) (((A 26) lo) - (4 * (yS s0))))))) + ((A 27) lo)) (mkM ct x g (up2 (up2 (up2 (up2 (up2 (up2 (up2 (up2 (up2 A 25 (upd (A 25) n0 ((A 22) n0))) 26 (upd (A 26) n0 ((A 23) n0))) 27 (upd (A 27) n0 ((A 24) n0))) 28 (upd (A 28) n0 0)) 29 (upd (A 29) u ((A 22) n0))) 30 (upd (A 30) u (ms (ms (3 * (yS s0)) (((A 23) n0) - (2 * (yS s0)))) (((A 27) u) + (yS s0))))) 26 (upd (upd (A 26) n0 ((A 23) n0)) n0 (ms ((A 23) n0) ((ms (ms (3 * (yS s0)) (((A 23) n0) - (2 * (yS s0)))) (((A 27) u) + (yS s0))) + ((A 26) u))))) 29 (upd (upd (A 29) u ((A 22) n0)) lo ((A 22) n0))) 30 (upd (upd (A 30) u (ms (ms (3 * (yS s0)) (((A 23) n0) - (2 * (yS s0)))) (((A 27) u) + (yS s0)))) lo (-(((ms (ms (2 * (yS s0)) (((A 24) n0) + ((yS s0) / 2))) (((A 26) lo) - (4 * (yS s0)))) + (4 * (yT s0))) - (((ms (ms (3 * (yS s0)) (((A 23) n0) - (2 * (yS s0)))) (((A 27) u) + (yS s0))) - ((A 27) u)) - (((A 26) lo) - (ms (ms (2 * (yS s0)) (((A 24) n0) + ((yS s0) / 2))) (((A 26) lo) - (4 * (yS s0)))))))))) th co at_ wr no nu op pi wi he de)) w1151 w1149 w1150 w9 ⟨by decide, by decide, by show _ = some 2; decide +kernel⟩ (by omega) (by decide) hP hS hl.1 rfl (by exact Nat.le_of_ble_eq_true rfl) (fh_d d_Mo_setScripts 408 rfl) ⟨Nat.le_refl _, Nat.le_refl _⟩ (fun v9 h9 n9 H locs hq hP hS => ?_)
                  obtain ⟨rfl, q126a, q126b⟩ := hq
                  rw [q126a, q126b] at hP
                  refine W.eq (g2 := F0 m 647 ls [.int (ms ((A 24) n0) ((((ms (ms (2 * (yS s0)) (((A 24) n0) + ((yS s0) / 2))) (((A 26) lo) - (4 * (yS s0)))) + (4 * (yT s0))) - (((ms (ms (3 * (yS s0)) (((A 23) n0) - (2 * (yS s0)))) (((A 27) u) + (yS s0))) - ((A 27) u)) - (((A 26) lo) - (ms (ms (2 * (yS s0)) (((A 24) n0) + ((yS s0) / 2))) (((A 26) lo) - (4 * (yS s0))))))) + ((A 27) lo))), .int (nI n0), .ref (x + 28)]) rfl ?_
                  refine fn_iast (f := upd (A 27) n0 ((A 24) n0)) (k := n0) hx hb hK hP hS 0 mkM_a27 rfl (rfl) (by omega) (by decide) (fh_d d_Mo_setScripts 409 rfl) (fun H locs hP hS => ?_)
                  replace hP := fh_P.eq (h' := mkM ct x g (up2 (up2 (up2 (up2 (up2 (up2 (up2 (up2 (up2 (up2 A 25 (upd (A 25) n0 ((A 22) n0))) 26 (upd (A 26) n0 ((A 23) n0))) 27 (upd (A 27) n0 ((A 24) n0))) 28 (upd (A 28) n0 0)) 29 (upd (A 29) u ((A 22) n0))) 30 (upd (A 30) u (ms (ms (3 * (yS s0)) (((A 23) n0) - (2 * (yS s0)))) (((A 27) u) + (yS s0))))) 26 (upd (upd (A 26) n0 ((A 23) n0)) n0 (ms ((A 23) n0) ((ms (ms (3 * (yS s0)) (((A 23) n0) - (2 * (yS s0)))) (((A 27) u) + (yS s0))) + ((A 26) u))))) 29 (upd (upd (A 29) u ((A 22) n0)) lo ((A 22) n0))) 30 (upd (upd (A 30) u (ms (ms (3 * (yS s0)) (((A 23) n0) - (2 * (yS s0)))) (((A 27) u) + (yS s0)))) lo (-(((ms (ms (2 * (yS s0)) (((A 24) n0) + ((yS s0) / 2))) (((A 26) lo) - (4 * (yS s0)))) + (4 * (yT s0))) - (((ms (ms (3 * (yS s0)) (((A 23) n0) - (2 * (yS s0)))) (((A 27) u) + (yS s0))) - ((A 27) u)) - (((A 26) lo) - (ms (ms (2 * (yS s0)) (((A 24) n0) + ((yS s0) / 2))) (((A 26) lo) - (4 * (yS s0)))))))))) 27 (upd (upd (A 27) n0 ((A 24) n0)) n0 (ms ((A 24) n0) ((((ms (ms (2 * (yS s0)) (((A 24) n0) + ((yS s0) / 2))) (((A 26) lo) - (4 * (yS s0)))) + (4 * (yT s0))) - (((ms (ms (3 * (yS s0)) (((A 23) n0) - (2 * (yS s0)))) (((A 27) u) + (yS s0))) - ((A 27) u)) - (((A 26) lo) - (ms (ms (2 * (yS s0)) (((A 24) n0) + ((yS s0) / 2))) (((A 26) lo) - (4 * (yS s0))))))) + ((A 27) lo))))) th co at_ wr no nu op pi wi he de) hP mkM_u27
                  refine lv_aload_n hx hb (fh_d d_Mo_setScripts 410 rfl) rfl (lv_at hl 8 rfl) ?_
                  refine fh_get (own := "FormulaSetterModel") (ref := "FormulaSetterModel") (C := "FormulaSetterModel") (T := T_Mo) (N := 53) (v := .ref (x + 26)) hx hb hT i_Mo hown hK hP mkM_o rfl 32 (by decide) (hT _ w892) (fun _ h9 => h9) rfl (fh_d d_Mo_setScripts 411 rfl) ?_
                  refine lv_iload_n hx hb (fh_d d_Mo_setScripts 412 rfl) rfl (lv_at hl 9 rfl) ?_
                  refine lv_iload hx hb (fh_d d_Mo_setScripts 413 rfl) (lv_at hl 0 rfl) ?_
                  refine lv_iload hx hb (fh_d d_Mo_setScripts 414 rfl) (lv_at hl 6 rfl) ?_
                  refine lv_iconst (v := 2) hx hb (fh_d d_Mo_setScripts 415 rfl) (by decide) ?_
                  refine lv_idiv hx hb (fh_d d_Mo_setScripts 416 rfl) (by decide) ?_
                  refine lv_iadd hx hb (fh_d d_Mo_setScripts 417 rfl) ?_
                  refine fn_iast (f := upd (A 25) n0 ((A 22) n0)) (k := n0) hx hb hK hP hS 0 mkM_a25 rfl (rfl) (by omega) (by decide) (fh_d d_Mo_setScripts 418 rfl) (fun H locs hP hS => ?_)
                  replace hP := fh_P.eq (h' := mkM ct x g (up2 (up2 (up2 (up2 (up2 (up2 (up2 (up2 (up2 (up2 (up2 A 25 (upd (A 25) n0 ((A 22) n0))) 26 (upd (A 26) n0 ((A 23) n0))) 27 (upd (A 27) n0 ((A 24) n0))) 28 (upd (A 28) n0 0)) 29 (upd (A 29) u ((A 22) n0))) 30 (upd (A 30) u (ms (ms (3 * (yS s0)) (((A 23) n0) - (2 * (yS s0)))) (((A 27) u) + (yS s0))))) 26 (upd (upd (A 26) n0 ((A 23) n0)) n0 (ms ((A 23) n0) ((ms (ms (3 * (yS s0)) (((A 23) n0) - (2 * (yS s0)))) (((A 27) u) + (yS s0))) + ((A 26) u))))) 29 (upd (upd (A 29) u ((A 22) n0)) lo ((A 22) n0))) 30 (upd (upd (A 30) u (ms (ms (3 * (yS s0)) (((A 23) n0) - (2 * (yS s0)))) (((A 27) u) + (yS s0)))) lo (-(((ms (ms (2 * (yS s0)) (((A 24) n0) + ((yS s0) / 2))) (((A 26) lo) - (4 * (yS s0)))) + (4 * (yT s0))) - (((ms (ms (3 * (yS s0)) (((A 23) n0) - (2 * (yS s0)))) (((A 27) u) + (yS s0))) - ((A 27) u)) - (((A 26) lo) - (ms (ms (2 * (yS s0)) (((A 24) n0) + ((yS s0) / 2))) (((A 26) lo) - (4 * (yS s0)))))))))) 27 (upd (upd (A 27) n0 ((A 24) n0)) n0 (ms ((A 24) n0) ((((ms (ms (2 * (yS s0)) (((A 24) n0) + ((yS s0) / 2))) (((A 26) lo) - (4 * (yS s0)))) + (4 * (yT s0))) - (((ms (ms (3 * (yS s0)) (((A 23) n0) - (2 * (yS s0)))) (((A 27) u) + (yS s0))) - ((A 27) u)) - (((A 26) lo) - (ms (ms (2 * (yS s0)) (((A 24) n0) + ((yS s0) / 2))) (((A 26) lo) - (4 * (yS s0))))))) + ((A 27) lo))))) 25 (upd (upd (A 25) n0 ((A 22) n0)) n0 ((ms (((A 22) n0) + ((A 25) u)) (((A 22) n0) + ((A 25) lo))) + ((yS s0) / 2)))) th co at_ wr no nu op pi wi he de) hP mkM_u25
                  exact fh_vret X hP hS (fh_d d_Mo_setScripts 419 rfl) ⟨rfl, by unfold rf_sc; rw [if_neg h0u, if_neg h0l, if_neg hk0, if_neg hlm, if_neg hcr, if_pos hg, if_pos hk2, if_neg hc3]; (try rfl), rfl⟩
              · skip
                refine lv_istore (lv' := [(8, .int (((ms (ms (2 * (yS s0)) (((A 24) n0) + ((yS s0) / 2))) (((A 26) lo) - (4 * (yS s0)))) + (4 * (yT s0))) - (((ms (ms (3 * (yS s0)) (((A 23) n0) - (2 * (yS s0)))) (((A 27) u) + (yS s0))) - ((A 27) u)) - (((A 26) lo) - (ms (ms (2 * (yS s0)) (((A 24) n0) + ((yS s0) / 2))) (((A 26) lo) - (4 * (yS s0)))))))), (9, .int (((ms (ms (3 * (yS s0)) (((A 23) n0) - (2 * (yS s0)))) (((A 27) u) + (yS s0))) - ((A 27) u)) - (((A 26) lo) - (ms (ms (2 * (yS s0)) (((A 24) n0) + ((yS s0) / 2))) (((A 26) lo) - (4 * (yS s0))))))), (7, .int (((A 22) n0) + ((A 25) u))), (6, .int (ms (ms (3 * (yS s0)) (((A 23) n0) - (2 * (yS s0)))) (((A 27) u) + (yS s0)))), (2, .int (nI u)), (3, .int (nI lo)), (4, .int (yS s0)), (5, .int (yT s0)), (0, .ref x), (1, .int (nI n0))]) hx hb (fh_d d_Mo_setScripts 349 rfl) hl (by decide) rfl (fun ls hl => ?_)
                refine lv_aload_n hx hb (fh_d d_Mo_setScripts 350 rfl) rfl (lv_at hl 8 rfl) ?_
                refine fh_get (own := "FormulaSetterModel") (ref := "FormulaSetterModel") (C := "FormulaSetterModel") (T := T_Mo) (N := 53) (v := .ref (x + 30)) hx hb hT i_Mo hown hK hP mkM_o rfl 36 (by decide) (hT _ w896) (fun _ h9 => h9) rfl (fh_d d_Mo_setScripts 351 rfl) ?_
                refine lv_iload_n hx hb (fh_d d_Mo_setScripts 352 rfl) rfl (lv_at hl 5 rfl) ?_
                refine lv_aload_n hx hb (fh_d d_Mo_setScripts 353 rfl) rfl (lv_at hl 8 rfl) ?_
                refine fh_get (own := "FormulaSetterModel") (ref := "FormulaSetterModel") (C := "FormulaSetterModel") (T := T_Mo) (N := 53) (v := .ref (x + 2)) hx hb hT i_Mo hown hK hP mkM_o rfl 7 (by decide) (hT _ w867) (fun _ h9 => h9) rfl (fh_d d_Mo_setScripts 354 rfl) ?_
                refine lv_iload_n hx hb (fh_d d_Mo_setScripts 355 rfl) rfl (lv_at hl 9 rfl) ?_
                refine fn_iald (f := A 1) (k := n0) hx hb hK hP 0 mkM_a1 rfl (rfl) (by omega) (by decide) (fh_d d_Mo_setScripts 356 rfl) ?_
                refine lv_iconst (v := 2) hx hb (fh_d d_Mo_setScripts 357 rfl) (by decide) ?_
                refine lv_icmp_ne (tgt := 588) hx hb (fh_d d_Mo_setScripts 358 rfl) rfl (fun c127 => ?_) (fun c127 => absurd c127 (hk2))
                refine lv_aload_n hx hb (fh_d d_Mo_setScripts 372 rfl) rfl (lv_at hl 8 rfl) ?_
                refine fh_get (own := "FormulaSetterModel") (ref := "FormulaSetterModel") (C := "FormulaSetterModel") (T := T_Mo) (N := 53) (v := .ref (x + 23)) hx hb hT i_Mo hown hK hP mkM_o rfl 29 (by decide) (hT _ w889) (fun _ h9 => h9) rfl (fh_d d_Mo_setScripts 373 rfl) ?_
                refine lv_iload_n hx hb (fh_d d_Mo_setScripts 374 rfl) rfl (lv_at hl 9 rfl) ?_
                refine fn_iald (f := A 22) (k := n0) hx hb hK hP 0 mkM_a22 rfl (rfl) (by omega) (by decide) (fh_d d_Mo_setScripts 375 rfl) ?_
                refine fn_iast (f := upd (A 29) u ((A 22) n0)) (k := lo) hx hb hK hP hS 0 mkM_a29 rfl (rfl) (by omega) (by decide) (fh_d d_Mo_setScripts 376 rfl) (fun H locs hP hS => ?_)
                replace hP := fh_P.eq (h' := mkM ct x g (up2 (up2 (up2 (up2 (up2 (up2 (up2 (up2 A 25 (upd (A 25) n0 ((A 22) n0))) 26 (upd (A 26) n0 ((A 23) n0))) 27 (upd (A 27) n0 ((A 24) n0))) 28 (upd (A 28) n0 0)) 29 (upd (A 29) u ((A 22) n0))) 30 (upd (A 30) u (ms (ms (3 * (yS s0)) (((A 23) n0) - (2 * (yS s0)))) (((A 27) u) + (yS s0))))) 26 (upd (upd (A 26) n0 ((A 23) n0)) n0 (ms ((A 23) n0) ((ms (ms (3 * (yS s0)) (((A 23) n0) - (2 * (yS s0)))) (((A 27) u) + (yS s0))) + ((A 26) u))))) 29 (upd (upd (A 29) u ((A 22) n0)) lo ((A 22) n0))) th co at_ wr no nu op pi wi he de) hP mkM_u29
                refine lv_aload_n hx hb (fh_d d_Mo_setScripts 377 rfl) rfl (lv_at hl 8 rfl) ?_
                refine fh_get (own := "FormulaSetterModel") (ref := "FormulaSetterModel") (C := "FormulaSetterModel") (T := T_Mo) (N := 53) (v := .ref (x + 31)) hx hb hT i_Mo hown hK hP mkM_o rfl 37 (by decide) (hT _ w897) (fun _ h9 => h9) rfl (fh_d d_Mo_setScripts 378 rfl) ?_
                refine lv_iload_n hx hb (fh_d d_Mo_setScripts 379 rfl) rfl (lv_at hl 5 rfl) ?_
                refine lv_iload hx hb (fh_d d_Mo_setScripts 380 rfl) (lv_at hl 0 rfl) ?_
                refine lv_ineg hx hb (fh_d d_Mo_setScripts 381 rfl) ?_
                refine fn_iast (f := upd (A 30) u (ms (ms (3 * (yS s0)) (((A 23) n0) - (2 * (yS s0)))) (((A 27) u) + (yS s0)))) (k := lo) hx hb hK hP hS 0 mkM_a30 rfl (rfl) (by omega) (by decide) (fh_d d_Mo_setScripts 382 rfl) (fun H locs hP hS => ?_)
                replace hP := fh_P.eq (h' := mkM ct x g (up2 (up2 (up2 (up2 (up2 (up2 (up2 (up2 (up2 A 25 (upd (A 25) n0 ((A 22) n0))) 26 (upd (A 26) n0 ((A 23) n0))) 27 (upd (A 27) n0 ((A 24) n0))) 28 (upd (A 28) n0 0)) 29 (upd (A 29) u ((A 22) n0))) 30 (upd (A 30) u (ms (ms (3 * (yS s0)) (((A 23) n0) - (2 * (yS s0)))) (((A 27) u) + (yS s0))))) 26 (upd (upd (A 26) n0 ((A 23) n0)) n0 (ms ((A 23) n0) ((ms (ms (3 * (yS s0)) (((A 23) n0) - (2 * (yS s0)))) (((A 27) u) + (yS s0))) + ((A 26) u))))) 29 (upd (upd (A 29) u ((A 22) n0)) lo ((A 22) n0))) 30 (upd (upd (A 30) u (ms (ms (3 * (yS s0)) (((A 23) n0) - (2 * (yS s0)))) (((A 27) u) + (yS s0)))) lo (-(((ms (ms (2 * (yS s0)) (((A 24) n0) + ((yS s0) / 2))) (((A 26) lo) - (4 * (yS s0)))) + (4 * (yT s0))) - (((ms (ms (3 * (yS s0)) (((A 23) n0) - (2 * (yS s0)))) (((A 27) u) + (yS s0))) - ((A 27) u)) - (((A 26) lo) - (ms (ms (2 * (yS s0)) (((A 24) n0) + ((yS s0) / 2))) (((A 26) lo) - (4 * (yS s0)))))))))) th co at_ wr no nu op pi wi he de) hP mkM_u30
                refine lv_iload hx hb (fh_d d_Mo_setScripts 383 rfl) (lv_at hl 2 rfl) ?_
                refine lv_aload_n hx hb (fh_d d_Mo_setScripts 384 rfl) rfl (lv_at hl 8 rfl) ?_
                refine fh_get (own := "FormulaSetterModel") (ref := "FormulaSetterModel") (C := "FormulaSetterModel") (T := T_Mo) (N := 53) (v := .ref (x + 30)) hx hb hT i_Mo hown hK hP mkM_o rfl 36 (by decide) (hT _ w896) (fun _ h9 => h9) rfl (fh_d d_Mo_setScripts 385 rfl) ?_
                refine lv_iload_n hx hb (fh_d d_Mo_setScripts 386 rfl) rfl (lv_at hl 5 rfl) ?_
                refine fn_iald (f := upd (upd (A 29) u ((A 22) n0)) lo ((A 22) n0)) (k := lo) hx hb hK hP 0 mkM_a29 rfl (rfl) (by omega) (by decide) (fh_d d_Mo_setScripts 387 rfl) ?_
                rw [show ((upd (upd (A 29) u ((A 22) n0)) lo ((A 22) n0)) lo) = ((A 22) n0) from upd_s]
                refine lv_aload_n hx hb (fh_d d_Mo_setScripts 388 rfl) rfl (lv_at hl 8 rfl) ?_
                refine fh_get (own := "FormulaSetterModel") (ref := "FormulaSetterModel") (C := "FormulaSetterModel") (T := T_Mo) (N := 53) (v := .ref (x + 26)) hx hb hT i_Mo hown hK hP mkM_o rfl 32 (by decide) (hT _ w892) (fun _ h9 => h9) rfl (fh_d d_Mo_setScripts 389 rfl) ?_
                refine lv_iload_n hx hb (fh_d d_Mo_setScripts 390 rfl) rfl (lv_at hl 5 rfl) ?_
                refine fn_iald (f := upd (A 25) n0 ((A 22) n0)) (k := lo) hx hb hK hP 0 mkM_a25 rfl (rfl) (by omega) (by decide) (fh_d d_Mo_setScripts 391 rfl) ?_
                rw [show ((upd (A 25) n0 ((A 22) n0)) lo) = (A 25) lo from by simp only [upd_n (hln h0l)]]
                refine lv_iadd hx hb (fh_d d_Mo_setScripts 392 rfl) ?_
                refine fh_callS (cc' := c_Mo_most) (nL' := 2) (rest := []) (av := [.int (((A 22) n0) + ((A 25) u)), .int (((A 22) n0) + ((A 25) lo))]) X hR (m_Mo_most l D ct b RO (r - 1) n (((A 22) n0) + ((A 25) u)) (((A 22) n0) + ((A 25) lo)) (mkM ct x g (up2 (up2 (up2 (up2 (up2 (up2 (up2 (up2 (up2 A 25 (upd (A 25) n0 ((A 22) n0))) 26 (upd (A 26) n0 ((A 23) n0))) 27 (upd (A 27) n0 ((A 24) n0))) 28 (upd (A 28) n0 0)) 29 (upd (A 29) u ((A 22) n0))) 30 (upd (A 30) u (ms (ms (3 * (yS s0)) (((A 23) n0) - (2 * (yS s0)))) (((A 27) u) + (yS s0))))) 26 (upd (upd (A 26) n0 ((A 23) n0)) n0 (ms ((A 23) n0) ((ms (ms (3 * (yS s0)) (((A 23) n0) - (2 * (yS s0)))) (((A 27) u) + (yS s0))) + ((A 26) u))))) 29 (upd (upd (A 29) u ((A 22) n0)) lo ((A 22) n0))) 30 (upd (upd (A 30) u (ms (ms (3 * (yS s0)) (((A 23) n0) - (2 * (yS s0)))) (((A 27) u) + (yS s0)))) lo (-(((ms (ms (2 * (yS s0)) (((A 24) n0) + ((yS s0) / 2))) (((A 26) lo) - (4 * (yS s0)))) + (4 * (yT s0))) - (((ms (ms (3 * (yS s0)) (((A 23) n0) - (2 * (yS s0)))) (((A 27) u) + (yS s0))) - ((A 27) u)) - (((A 26) lo) - (ms (ms (2 * (yS s0)) (((A 24) n0) + ((yS s0) / 2))) (((A 26) lo) - (4 * (yS s0)))))))))) th co at_ wr no nu op pi wi he de)) w1151 w1149 w1150 w9 ⟨by decide, by decide, by show _ = some 2; decide +kernel⟩ (by omega) (by decide) hP hS hl.1 rfl (by exact Nat.le_of_ble_eq_true rfl) (fh_d d_Mo_setScripts 393 rfl) ⟨Nat.le_refl _, Nat.le_refl _⟩ (fun v9 h9 n9 H locs hq hP hS => ?_)
                obtain ⟨rfl, q128a, q128b⟩ := hq
                rw [q128a, q128b] at hP
                refine W.eq (g2 := F0 m 622 ls [.int (ms (((A 22) n0) + ((A 25) u)) (((A 22) n0) + ((A 25) lo)))]) rfl ?_
                refine lv_istore (lv' := [(7, .int (ms (((A 22) n0) + ((A 25) u)) (((A 22) n0) + ((A 25) lo)))), (8, .int (((ms (ms (2 * (yS s0)) (((A 24) n0) + ((yS s0) / 2))) (((A 26) lo) - (4 * (yS s0)))) + (4 * (yT s0))) - (((ms (ms (3 * (yS s0)) (((A 23) n0) - (2 * (yS s0)))) (((A 27) u) + (yS s0))) - ((A 27) u)) - (((A 26) lo) - (ms (ms (2 * (yS s0)) (((A 24) n0) + ((yS s0) / 2))) (((A 26) lo) - (4 * (yS s0)))))))), (9, .int (((ms (ms (3 * (yS s0)) (((A 23) n0) - (2 * (yS s0)))) (((A 27) u) + (yS s0))) - ((A 27) u)) - (((A 26) lo) - (ms (ms (2 * (yS s0)) (((A 24) n0) + ((yS s0) / 2))) (((A 26) lo) - (4 * (yS s0))))))), (6, .int (ms (ms (3 * (yS s0)) (((A 23) n0) - (2 * (yS s0)))) (((A 27) u) + (yS s0)))), (2, .int (nI u)), (3, .int (nI lo)), (4, .int (yS s0)), (5, .int (yT s0)), (0, .ref x), (1, .int (nI n0))]) hx hb (fh_d d_Mo_setScripts 394 rfl) hl (by decide) rfl (fun ls hl => ?_)
                refine lv_aload_n hx hb (fh_d d_Mo_setScripts 395 rfl) rfl (lv_at hl 8 rfl) ?_
                refine fh_get (own := "FormulaSetterModel") (ref := "FormulaSetterModel") (C := "FormulaSetterModel") (T := T_Mo) (N := 53) (v := .ref (x + 28)) hx hb hT i_Mo hown hK hP mkM_o rfl 34 (by decide) (hT _ w894) (fun _ h9 => h9) rfl (fh_d d_Mo_setScripts 396 rfl) ?_
                refine lv_iload_n hx hb (fh_d d_Mo_setScripts 397 rfl) rfl (lv_at hl 9 rfl) ?_
                refine lv_aload_n hx hb (fh_d d_Mo_setScripts 398 rfl) rfl (lv_at hl 8 rfl) ?_
                refine fh_get (own := "FormulaSetterModel") (ref := "FormulaSetterModel") (C := "FormulaSetterModel") (T := T_Mo) (N := 53) (v := .ref (x + 25)) hx hb hT i_Mo hown hK hP mkM_o rfl 31 (by decide) (hT _ w891) (fun _ h9 => h9) rfl (fh_d d_Mo_setScripts 399 rfl) ?_
                refine lv_iload_n hx hb (fh_d d_Mo_setScripts 400 rfl) rfl (lv_at hl 9 rfl) ?_
                refine fn_iald (f := A 24) (k := n0) hx hb hK hP 0 mkM_a24 rfl (rfl) (by omega) (by decide) (fh_d d_Mo_setScripts 401 rfl) ?_
                refine lv_iload hx hb (fh_d d_Mo_setScripts 402 rfl) (lv_at hl 1 rfl) ?_
                refine lv_aload_n hx hb (fh_d d_Mo_setScripts 403 rfl) rfl (lv_at hl 8 rfl) ?_
                refine fh_get (own := "FormulaSetterModel") (ref := "FormulaSetterModel") (C := "FormulaSetterModel") (T := T_Mo) (N := 53) (v := .ref (x + 28)) hx hb hT i_Mo hown hK hP mkM_o rfl 34 (by decide) (hT _ w894) (fun _ h9 => h9) rfl (fh_d d_Mo_setScripts 404 rfl) ?_
                refine lv_iload_n hx hb (fh_d d_Mo_setScripts 405 rfl) rfl (lv_at hl 5 rfl) ?_
                refine fn_iald (f := upd (A 27) n0 ((A 24) n0)) (k := lo) hx hb hK hP 0 mkM_a27 rfl (rfl) (by omega) (by decide) (fh_d d_Mo_setScripts 406 rfl) ?_
                rw [show ((upd (A 27) n0 ((A 24) n0)) lo) = (A 27) lo from by simp only [upd_n (hln h0l)]]
                refine lv_iadd hx hb (fh_d d_Mo_setScripts 407 rfl) ?_
                refine fh_callS (cc' := c_Mo_most) (nL' := 2) (rest := [.int (nI n0), .ref (x + 28)]) (av := [.int ((A 24) n0), .int ((((ms (ms (2 * (yS s0)) (((A 24) n0) + ((yS s0) / 2))) (((A 26) lo) - (4 * (yS s0)))) + (4 * (yT s0))) - (((ms (ms (3 * (yS s0)) (((A 23) n0) - (2 * (yS s0)))) (((A 27) u) + (yS s0))) - ((A 27) u)) - (((A 26) lo) - (ms (ms (2 * (yS s0)) (((A 24) n0) + ((yS s0) / 2))) (((A 26) lo) - (4 * (yS s0))))))) + ((A 27) lo))]) X hR (m_Mo_most l D ct b RO (r - 1) n ((A 24) n0) ((((ms (ms (2 * (yS s0)) (((A 24) n0) + ((yS s0) / 2))) (((A 26) lo) - (4 * (yS s0)))) + (4 * (yT s0))) - (((ms (ms (3 * (yS s0)) (((A 23) n0) - (2 * (yS s0)))) (((A 27) u) + (yS s0))) - ((A 27) u)) - (((A 26) lo) - (ms (ms (2 * (yS s0)) (((A 24) n0) + ((yS s0) / 2))) (((A 26) lo) - (4 * (yS s0))))))) + ((A 27) lo)) (mkM ct x g (up2 (up2 (up2 (up2 (up2 (up2 (up2 (up2 (up2 A 25 (upd (A 25) n0 ((A 22) n0))) 26 (upd (A 26) n0 ((A 23) n0))) 27 (upd (A 27) n0 ((A 24) n0))) 28 (upd (A 28) n0 0)) 29 (upd (A 29) u ((A 22) n0))) 30 (upd (A 30) u (ms (ms (3 * (yS s0)) (((A 23) n0) - (2 * (yS s0)))) (((A 27) u) + (yS s0))))) 26 (upd (upd (A 26) n0 ((A 23) n0)) n0 (ms ((A 23) n0) ((ms (ms (3 * (yS s0)) (((A 23) n0) - (2 * (yS s0)))) (((A 27) u) + (yS s0))) + ((A 26) u))))) 29 (upd (upd (A 29) u ((A 22) n0)) lo ((A 22) n0))) 30 (upd (upd (A 30) u (ms (ms (3 * (yS s0)) (((A 23) n0) - (2 * (yS s0)))) (((A 27) u) + (yS s0)))) lo (-(((ms (ms (2 * (yS s0)) (((A 24) n0) + ((yS s0) / 2))) (((A 26) lo) - (4 * (yS s0)))) + (4 * (yT s0))) - (((ms (ms (3 * (yS s0)) (((A 23) n0) - (2 * (yS s0)))) (((A 27) u) + (yS s0))) - ((A 27) u)) - (((A 26) lo) - (ms (ms (2 * (yS s0)) (((A 24) n0) + ((yS s0) / 2))) (((A 26) lo) - (4 * (yS s0)))))))))) th co at_ wr no nu op pi wi he de)) w1151 w1149 w1150 w9 ⟨by decide, by decide, by show _ = some 2; decide +kernel⟩ (by omega) (by decide) hP hS hl.1 rfl (by exact Nat.le_of_ble_eq_true rfl) (fh_d d_Mo_setScripts 408 rfl) ⟨Nat.le_refl _, Nat.le_refl _⟩ (fun v9 h9 n9 H locs hq hP hS => ?_)
                obtain ⟨rfl, q129a, q129b⟩ := hq
                rw [q129a, q129b] at hP
                refine W.eq (g2 := F0 m 647 ls [.int (ms ((A 24) n0) ((((ms (ms (2 * (yS s0)) (((A 24) n0) + ((yS s0) / 2))) (((A 26) lo) - (4 * (yS s0)))) + (4 * (yT s0))) - (((ms (ms (3 * (yS s0)) (((A 23) n0) - (2 * (yS s0)))) (((A 27) u) + (yS s0))) - ((A 27) u)) - (((A 26) lo) - (ms (ms (2 * (yS s0)) (((A 24) n0) + ((yS s0) / 2))) (((A 26) lo) - (4 * (yS s0))))))) + ((A 27) lo))), .int (nI n0), .ref (x + 28)]) rfl ?_
                refine fn_iast (f := upd (A 27) n0 ((A 24) n0)) (k := n0) hx hb hK hP hS 0 mkM_a27 rfl (rfl) (by omega) (by decide) (fh_d d_Mo_setScripts 409 rfl) (fun H locs hP hS => ?_)
                replace hP := fh_P.eq (h' := mkM ct x g (up2 (up2 (up2 (up2 (up2 (up2 (up2 (up2 (up2 (up2 A 25 (upd (A 25) n0 ((A 22) n0))) 26 (upd (A 26) n0 ((A 23) n0))) 27 (upd (A 27) n0 ((A 24) n0))) 28 (upd (A 28) n0 0)) 29 (upd (A 29) u ((A 22) n0))) 30 (upd (A 30) u (ms (ms (3 * (yS s0)) (((A 23) n0) - (2 * (yS s0)))) (((A 27) u) + (yS s0))))) 26 (upd (upd (A 26) n0 ((A 23) n0)) n0 (ms ((A 23) n0) ((ms (ms (3 * (yS s0)) (((A 23) n0) - (2 * (yS s0)))) (((A 27) u) + (yS s0))) + ((A 26) u))))) 29 (upd (upd (A 29) u ((A 22) n0)) lo ((A 22) n0))) 30 (upd (upd (A 30) u (ms (ms (3 * (yS s0)) (((A 23) n0) - (2 * (yS s0)))) (((A 27) u) + (yS s0)))) lo (-(((ms (ms (2 * (yS s0)) (((A 24) n0) + ((yS s0) / 2))) (((A 26) lo) - (4 * (yS s0)))) + (4 * (yT s0))) - (((ms (ms (3 * (yS s0)) (((A 23) n0) - (2 * (yS s0)))) (((A 27) u) + (yS s0))) - ((A 27) u)) - (((A 26) lo) - (ms (ms (2 * (yS s0)) (((A 24) n0) + ((yS s0) / 2))) (((A 26) lo) - (4 * (yS s0)))))))))) 27 (upd (upd (A 27) n0 ((A 24) n0)) n0 (ms ((A 24) n0) ((((ms (ms (2 * (yS s0)) (((A 24) n0) + ((yS s0) / 2))) (((A 26) lo) - (4 * (yS s0)))) + (4 * (yT s0))) - (((ms (ms (3 * (yS s0)) (((A 23) n0) - (2 * (yS s0)))) (((A 27) u) + (yS s0))) - ((A 27) u)) - (((A 26) lo) - (ms (ms (2 * (yS s0)) (((A 24) n0) + ((yS s0) / 2))) (((A 26) lo) - (4 * (yS s0))))))) + ((A 27) lo))))) th co at_ wr no nu op pi wi he de) hP mkM_u27
                refine lv_aload_n hx hb (fh_d d_Mo_setScripts 410 rfl) rfl (lv_at hl 8 rfl) ?_
                refine fh_get (own := "FormulaSetterModel") (ref := "FormulaSetterModel") (C := "FormulaSetterModel") (T := T_Mo) (N := 53) (v := .ref (x + 26)) hx hb hT i_Mo hown hK hP mkM_o rfl 32 (by decide) (hT _ w892) (fun _ h9 => h9) rfl (fh_d d_Mo_setScripts 411 rfl) ?_
                refine lv_iload_n hx hb (fh_d d_Mo_setScripts 412 rfl) rfl (lv_at hl 9 rfl) ?_
                refine lv_iload hx hb (fh_d d_Mo_setScripts 413 rfl) (lv_at hl 0 rfl) ?_
                refine lv_iload hx hb (fh_d d_Mo_setScripts 414 rfl) (lv_at hl 6 rfl) ?_
                refine lv_iconst (v := 2) hx hb (fh_d d_Mo_setScripts 415 rfl) (by decide) ?_
                refine lv_idiv hx hb (fh_d d_Mo_setScripts 416 rfl) (by decide) ?_
                refine lv_iadd hx hb (fh_d d_Mo_setScripts 417 rfl) ?_
                refine fn_iast (f := upd (A 25) n0 ((A 22) n0)) (k := n0) hx hb hK hP hS 0 mkM_a25 rfl (rfl) (by omega) (by decide) (fh_d d_Mo_setScripts 418 rfl) (fun H locs hP hS => ?_)
                replace hP := fh_P.eq (h' := mkM ct x g (up2 (up2 (up2 (up2 (up2 (up2 (up2 (up2 (up2 (up2 (up2 A 25 (upd (A 25) n0 ((A 22) n0))) 26 (upd (A 26) n0 ((A 23) n0))) 27 (upd (A 27) n0 ((A 24) n0))) 28 (upd (A 28) n0 0)) 29 (upd (A 29) u ((A 22) n0))) 30 (upd (A 30) u (ms (ms (3 * (yS s0)) (((A 23) n0) - (2 * (yS s0)))) (((A 27) u) + (yS s0))))) 26 (upd (upd (A 26) n0 ((A 23) n0)) n0 (ms ((A 23) n0) ((ms (ms (3 * (yS s0)) (((A 23) n0) - (2 * (yS s0)))) (((A 27) u) + (yS s0))) + ((A 26) u))))) 29 (upd (upd (A 29) u ((A 22) n0)) lo ((A 22) n0))) 30 (upd (upd (A 30) u (ms (ms (3 * (yS s0)) (((A 23) n0) - (2 * (yS s0)))) (((A 27) u) + (yS s0)))) lo (-(((ms (ms (2 * (yS s0)) (((A 24) n0) + ((yS s0) / 2))) (((A 26) lo) - (4 * (yS s0)))) + (4 * (yT s0))) - (((ms (ms (3 * (yS s0)) (((A 23) n0) - (2 * (yS s0)))) (((A 27) u) + (yS s0))) - ((A 27) u)) - (((A 26) lo) - (ms (ms (2 * (yS s0)) (((A 24) n0) + ((yS s0) / 2))) (((A 26) lo) - (4 * (yS s0)))))))))) 27 (upd (upd (A 27) n0 ((A 24) n0)) n0 (ms ((A 24) n0) ((((ms (ms (2 * (yS s0)) (((A 24) n0) + ((yS s0) / 2))) (((A 26) lo) - (4 * (yS s0)))) + (4 * (yT s0))) - (((ms (ms (3 * (yS s0)) (((A 23) n0) - (2 * (yS s0)))) (((A 27) u) + (yS s0))) - ((A 27) u)) - (((A 26) lo) - (ms (ms (2 * (yS s0)) (((A 24) n0) + ((yS s0) / 2))) (((A 26) lo) - (4 * (yS s0))))))) + ((A 27) lo))))) 25 (upd (upd (A 25) n0 ((A 22) n0)) n0 ((ms (((A 22) n0) + ((A 25) u)) (((A 22) n0) + ((A 25) lo))) + ((yS s0) / 2)))) th co at_ wr no nu op pi wi he de) hP mkM_u25
                exact fh_vret X hP hS (fh_d d_Mo_setScripts 419 rfl) ⟨rfl, by unfold rf_sc; rw [if_neg h0u, if_neg h0l, if_neg hk0, if_neg hlm, if_neg hcr, if_pos hg, if_neg hk2]; (try rfl), rfl⟩
            · skip
              refine lv_iload hx hb (fh_d d_Mo_setScripts 335 rfl) (lv_at hl 0 rfl) ?_
              refine lv_iconst (v := 4) hx hb (fh_d d_Mo_setScripts 336 rfl) (by decide) ?_
              refine lv_iload hx hb (fh_d d_Mo_setScripts 337 rfl) (lv_at hl 7 rfl) ?_
              refine lv_imul hx hb (fh_d d_Mo_setScripts 338 rfl) ?_
              refine lv_icmp_ge (tgt := 546) hx hb (fh_d d_Mo_setScripts 339 rfl) rfl (fun c130 => ?_) (fun c130 => absurd c130 (Classical.not_not.mpr (Int32.not_lt.mp hg)))
              refine lv_iload hx hb (fh_d d_Mo_setScripts 348 rfl) (lv_at hl 1 rfl) ?_
              by_cases hk2 : A 1 n0 = 2
              · skip
                by_cases hc3 : A 2 n0 = 73
                · skip
                  refine lv_istore (lv' := [(8, .int (ms (ms (2 * (yS s0)) (((A 24) n0) + ((yS s0) / 2))) (((A 26) lo) - (4 * (yS s0))))), (9, .int (((ms (ms (3 * (yS s0)) (((A 23) n0) - (2 * (yS s0)))) (((A 27) u) + (yS s0))) - ((A 27) u)) - (((A 26) lo) - (ms (ms (2 * (yS s0)) (((A 24) n0) + ((yS s0) / 2))) (((A 26) lo) - (4 * (yS s0))))))), (7, .int (((A 22) n0) + ((A 25) u))), (6, .int (ms (ms (3 * (yS s0)) (((A 23) n0) - (2 * (yS s0)))) (((A 27) u) + (yS s0)))), (2, .int (nI u)), (3, .int (nI lo)), (4, .int (yS s0)), (5, .int (yT s0)), (0, .ref x), (1, .int (nI n0))]) hx hb (fh_d d_Mo_setScripts 349 rfl) hl (by decide) rfl (fun ls hl => ?_)
                  refine lv_aload_n hx hb (fh_d d_Mo_setScripts 350 rfl) rfl (lv_at hl 8 rfl) ?_
                  refine fh_get (own := "FormulaSetterModel") (ref := "FormulaSetterModel") (C := "FormulaSetterModel") (T := T_Mo) (N := 53) (v := .ref (x + 30)) hx hb hT i_Mo hown hK hP mkM_o rfl 36 (by decide) (hT _ w896) (fun _ h9 => h9) rfl (fh_d d_Mo_setScripts 351 rfl) ?_
                  refine lv_iload_n hx hb (fh_d d_Mo_setScripts 352 rfl) rfl (lv_at hl 5 rfl) ?_
                  refine lv_aload_n hx hb (fh_d d_Mo_setScripts 353 rfl) rfl (lv_at hl 8 rfl) ?_
                  refine fh_get (own := "FormulaSetterModel") (ref := "FormulaSetterModel") (C := "FormulaSetterModel") (T := T_Mo) (N := 53) (v := .ref (x + 2)) hx hb hT i_Mo hown hK hP mkM_o rfl 7 (by decide) (hT _ w867) (fun _ h9 => h9) rfl (fh_d d_Mo_setScripts 354 rfl) ?_
                  refine lv_iload_n hx hb (fh_d d_Mo_setScripts 355 rfl) rfl (lv_at hl 9 rfl) ?_
                  refine fn_iald (f := A 1) (k := n0) hx hb hK hP 0 mkM_a1 rfl (rfl) (by omega) (by decide) (fh_d d_Mo_setScripts 356 rfl) ?_
                  refine lv_iconst (v := 2) hx hb (fh_d d_Mo_setScripts 357 rfl) (by decide) ?_
                  refine lv_icmp_ne (tgt := 588) hx hb (fh_d d_Mo_setScripts 358 rfl) rfl (fun c131 => absurd c131 (Classical.not_not.mpr (hk2))) (fun c131 => ?_)
                  refine lv_aload_n hx hb (fh_d d_Mo_setScripts 359 rfl) rfl (lv_at hl 8 rfl) ?_
                  refine fh_get (own := "FormulaSetterModel") (ref := "FormulaSetterModel") (C := "FormulaSetterModel") (T := T_Mo) (N := 53) (v := .ref (x + 3)) hx hb hT i_Mo hown hK hP mkM_o rfl 8 (by decide) (hT _ w868) (fun _ h9 => h9) rfl (fh_d d_Mo_setScripts 360 rfl) ?_
                  refine lv_iload_n hx hb (fh_d d_Mo_setScripts 361 rfl) rfl (lv_at hl 9 rfl) ?_
                  refine fn_iald (f := A 2) (k := n0) hx hb hK hP 0 mkM_a2 rfl (rfl) (by omega) (by decide) (fh_d d_Mo_setScripts 362 rfl) ?_
                  refine lv_bipush (v := 73) hx hb (fh_d d_Mo_setScripts 363 rfl) (by decide) ?_
                  refine lv_icmp_ne (tgt := 588) hx hb (fh_d d_Mo_setScripts 364 rfl) rfl (fun c132 => absurd c132 (Classical.not_not.mpr (hc3))) (fun c132 => ?_)
                  refine lv_aload_n hx hb (fh_d d_Mo_setScripts 365 rfl) rfl (lv_at hl 8 rfl) ?_
                  refine fh_get (own := "FormulaSetterModel") (ref := "FormulaSetterModel") (C := "FormulaSetterModel") (T := T_Mo) (N := 53) (v := .ref (x + 23)) hx hb hT i_Mo hown hK hP mkM_o rfl 29 (by decide) (hT _ w889) (fun _ h9 => h9) rfl (fh_d d_Mo_setScripts 366 rfl) ?_
                  refine lv_iload_n hx hb (fh_d d_Mo_setScripts 367 rfl) rfl (lv_at hl 9 rfl) ?_
                  refine fn_iald (f := A 22) (k := n0) hx hb hK hP 0 mkM_a22 rfl (rfl) (by omega) (by decide) (fh_d d_Mo_setScripts 368 rfl) ?_
                  refine lv_iload hx hb (fh_d d_Mo_setScripts 369 rfl) (lv_at hl 6 rfl) ?_
                  refine lv_isub hx hb (fh_d d_Mo_setScripts 370 rfl) ?_
                  refine lv_goto (tgt := 594) hx hb (fh_d d_Mo_setScripts 371 rfl) rfl ?_
                  refine fn_iast (f := upd (A 29) u ((A 22) n0)) (k := lo) hx hb hK hP hS 0 mkM_a29 rfl (rfl) (by omega) (by decide) (fh_d d_Mo_setScripts 376 rfl) (fun H locs hP hS => ?_)
                  replace hP := fh_P.eq (h' := mkM ct x g (up2 (up2 (up2 (up2 (up2 (up2 (up2 (up2 A 25 (upd (A 25) n0 ((A 22) n0))) 26 (upd (A 26) n0 ((A 23) n0))) 27 (upd (A 27) n0 ((A 24) n0))) 28 (upd (A 28) n0 0)) 29 (upd (A 29) u ((A 22) n0))) 30 (upd (A 30) u (ms (ms (3 * (yS s0)) (((A 23) n0) - (2 * (yS s0)))) (((A 27) u) + (yS s0))))) 26 (upd (upd (A 26) n0 ((A 23) n0)) n0 (ms ((A 23) n0) ((ms (ms (3 * (yS s0)) (((A 23) n0) - (2 * (yS s0)))) (((A 27) u) + (yS s0))) + ((A 26) u))))) 29 (upd (upd (A 29) u ((A 22) n0)) lo (((A 22) n0) - (yS s0)))) th co at_ wr no nu op pi wi he de) hP mkM_u29
                  refine lv_aload_n hx hb (fh_d d_Mo_setScripts 377 rfl) rfl (lv_at hl 8 rfl) ?_
                  refine fh_get (own := "FormulaSetterModel") (ref := "FormulaSetterModel") (C := "FormulaSetterModel") (T := T_Mo) (N := 53) (v := .ref (x + 31)) hx hb hT i_Mo hown hK hP mkM_o rfl 37 (by decide) (hT _ w897) (fun _ h9 => h9) rfl (fh_d d_Mo_setScripts 378 rfl) ?_
                  refine lv_iload_n hx hb (fh_d d_Mo_setScripts 379 rfl) rfl (lv_at hl 5 rfl) ?_
                  refine lv_iload hx hb (fh_d d_Mo_setScripts 380 rfl) (lv_at hl 0 rfl) ?_
                  refine lv_ineg hx hb (fh_d d_Mo_setScripts 381 rfl) ?_
                  refine fn_iast (f := upd (A 30) u (ms (ms (3 * (yS s0)) (((A 23) n0) - (2 * (yS s0)))) (((A 27) u) + (yS s0)))) (k := lo) hx hb hK hP hS 0 mkM_a30 rfl (rfl) (by omega) (by decide) (fh_d d_Mo_setScripts 382 rfl) (fun H locs hP hS => ?_)
                  replace hP := fh_P.eq (h' := mkM ct x g (up2 (up2 (up2 (up2 (up2 (up2 (up2 (up2 (up2 A 25 (upd (A 25) n0 ((A 22) n0))) 26 (upd (A 26) n0 ((A 23) n0))) 27 (upd (A 27) n0 ((A 24) n0))) 28 (upd (A 28) n0 0)) 29 (upd (A 29) u ((A 22) n0))) 30 (upd (A 30) u (ms (ms (3 * (yS s0)) (((A 23) n0) - (2 * (yS s0)))) (((A 27) u) + (yS s0))))) 26 (upd (upd (A 26) n0 ((A 23) n0)) n0 (ms ((A 23) n0) ((ms (ms (3 * (yS s0)) (((A 23) n0) - (2 * (yS s0)))) (((A 27) u) + (yS s0))) + ((A 26) u))))) 29 (upd (upd (A 29) u ((A 22) n0)) lo (((A 22) n0) - (yS s0)))) 30 (upd (upd (A 30) u (ms (ms (3 * (yS s0)) (((A 23) n0) - (2 * (yS s0)))) (((A 27) u) + (yS s0)))) lo (-(ms (ms (2 * (yS s0)) (((A 24) n0) + ((yS s0) / 2))) (((A 26) lo) - (4 * (yS s0))))))) th co at_ wr no nu op pi wi he de) hP mkM_u30
                  refine lv_iload hx hb (fh_d d_Mo_setScripts 383 rfl) (lv_at hl 2 rfl) ?_
                  refine lv_aload_n hx hb (fh_d d_Mo_setScripts 384 rfl) rfl (lv_at hl 8 rfl) ?_
                  refine fh_get (own := "FormulaSetterModel") (ref := "FormulaSetterModel") (C := "FormulaSetterModel") (T := T_Mo) (N := 53) (v := .ref (x + 30)) hx hb hT i_Mo hown hK hP mkM_o rfl 36 (by decide) (hT _ w896) (fun _ h9 => h9) rfl (fh_d d_Mo_setScripts 385 rfl) ?_
                  refine lv_iload_n hx hb (fh_d d_Mo_setScripts 386 rfl) rfl (lv_at hl 5 rfl) ?_
                  refine fn_iald (f := upd (upd (A 29) u ((A 22) n0)) lo (((A 22) n0) - (yS s0))) (k := lo) hx hb hK hP 0 mkM_a29 rfl (rfl) (by omega) (by decide) (fh_d d_Mo_setScripts 387 rfl) ?_
                  rw [show ((upd (upd (A 29) u ((A 22) n0)) lo (((A 22) n0) - (yS s0))) lo) = (((A 22) n0) - (yS s0)) from upd_s]
                  refine lv_aload_n hx hb (fh_d d_Mo_setScripts 388 rfl) rfl (lv_at hl 8 rfl) ?_
                  refine fh_get (own := "FormulaSetterModel") (ref := "FormulaSetterModel") (C := "FormulaSetterModel") (T := T_Mo) (N := 53) (v := .ref (x + 26)) hx hb hT i_Mo hown hK hP mkM_o rfl 32 (by decide) (hT _ w892) (fun _ h9 => h9) rfl (fh_d d_Mo_setScripts 389 rfl) ?_
                  refine lv_iload_n hx hb (fh_d d_Mo_setScripts 390 rfl) rfl (lv_at hl 5 rfl) ?_
                  refine fn_iald (f := upd (A 25) n0 ((A 22) n0)) (k := lo) hx hb hK hP 0 mkM_a25 rfl (rfl) (by omega) (by decide) (fh_d d_Mo_setScripts 391 rfl) ?_
                  rw [show ((upd (A 25) n0 ((A 22) n0)) lo) = (A 25) lo from by simp only [upd_n (hln h0l)]]
                  refine lv_iadd hx hb (fh_d d_Mo_setScripts 392 rfl) ?_
                  refine fh_callS (cc' := c_Mo_most) (nL' := 2) (rest := []) (av := [.int (((A 22) n0) + ((A 25) u)), .int ((((A 22) n0) - (yS s0)) + ((A 25) lo))]) X hR (m_Mo_most l D ct b RO (r - 1) n (((A 22) n0) + ((A 25) u)) ((((A 22) n0) - (yS s0)) + ((A 25) lo)) (mkM ct x g (up2 (up2 (up2 (up2 (up2 (up2 (up2 (up2 (up2 A 25 (upd (A 25) n0 ((A 22) n0))) 26 (upd (A 26) n0 ((A 23) n0))) 27 (upd (A 27) n0 ((A 24) n0))) 28 (upd (A 28) n0 0)) 29 (upd (A 29) u ((A 22) n0))) 30 (upd (A 30) u (ms (ms (3 * (yS s0)) (((A 23) n0) - (2 * (yS s0)))) (((A 27) u) + (yS s0))))) 26 (upd (upd (A 26) n0 ((A 23) n0)) n0 (ms ((A 23) n0) ((ms (ms (3 * (yS s0)) (((A 23) n0) - (2 * (yS s0)))) (((A 27) u) + (yS s0))) + ((A 26) u))))) 29 (upd (upd (A 29) u ((A 22) n0)) lo (((A 22) n0) - (yS s0)))) 30 (upd (upd (A 30) u (ms (ms (3 * (yS s0)) (((A 23) n0) - (2 * (yS s0)))) (((A 27) u) + (yS s0)))) lo (-(ms (ms (2 * (yS s0)) (((A 24) n0) + ((yS s0) / 2))) (((A 26) lo) - (4 * (yS s0))))))) th co at_ wr no nu op pi wi he de)) w1151 w1149 w1150 w9 ⟨by decide, by decide, by show _ = some 2; decide +kernel⟩ (by omega) (by decide) hP hS hl.1 rfl (by exact Nat.le_of_ble_eq_true rfl) (fh_d d_Mo_setScripts 393 rfl) ⟨Nat.le_refl _, Nat.le_refl _⟩ (fun v9 h9 n9 H locs hq hP hS => ?_)
                  obtain ⟨rfl, q133a, q133b⟩ := hq
                  rw [q133a, q133b] at hP
                  refine W.eq (g2 := F0 m 622 ls [.int (ms (((A 22) n0) + ((A 25) u)) ((((A 22) n0) - (yS s0)) + ((A 25) lo)))]) rfl ?_
                  refine lv_istore (lv' := [(7, .int (ms (((A 22) n0) + ((A 25) u)) ((((A 22) n0) - (yS s0)) + ((A 25) lo)))), (8, .int (ms (ms (2 * (yS s0)) (((A 24) n0) + ((yS s0) / 2))) (((A 26) lo) - (4 * (yS s0))))), (9, .int (((ms (ms (3 * (yS s0)) (((A 23) n0) - (2 * (yS s0)))) (((A 27) u) + (yS s0))) - ((A 27) u)) - (((A 26) lo) - (ms (ms (2 * (yS s0)) (((A 24) n0) + ((yS s0) / 2))) (((A 26) lo) - (4 * (yS s0))))))), (6, .int (ms (ms (3 * (yS s0)) (((A 23) n0) - (2 * (yS s0)))) (((A 27) u) + (yS s0)))), (2, .int (nI u)), (3, .int (nI lo)), (4, .int (yS s0)), (5, .int (yT s0)), (0, .ref x), (1, .int (nI n0))]) hx hb (fh_d d_Mo_setScripts 394 rfl) hl (by decide) rfl (fun ls hl => ?_)
                  refine lv_aload_n hx hb (fh_d d_Mo_setScripts 395 rfl) rfl (lv_at hl 8 rfl) ?_
                  refine fh_get (own := "FormulaSetterModel") (ref := "FormulaSetterModel") (C := "FormulaSetterModel") (T := T_Mo) (N := 53) (v := .ref (x + 28)) hx hb hT i_Mo hown hK hP mkM_o rfl 34 (by decide) (hT _ w894) (fun _ h9 => h9) rfl (fh_d d_Mo_setScripts 396 rfl) ?_
                  refine lv_iload_n hx hb (fh_d d_Mo_setScripts 397 rfl) rfl (lv_at hl 9 rfl) ?_
                  refine lv_aload_n hx hb (fh_d d_Mo_setScripts 398 rfl) rfl (lv_at hl 8 rfl) ?_
                  refine fh_get (own := "FormulaSetterModel") (ref := "FormulaSetterModel") (C := "FormulaSetterModel") (T := T_Mo) (N := 53) (v := .ref (x + 25)) hx hb hT i_Mo hown hK hP mkM_o rfl 31 (by decide) (hT _ w891) (fun _ h9 => h9) rfl (fh_d d_Mo_setScripts 399 rfl) ?_
                  refine lv_iload_n hx hb (fh_d d_Mo_setScripts 400 rfl) rfl (lv_at hl 9 rfl) ?_
                  refine fn_iald (f := A 24) (k := n0) hx hb hK hP 0 mkM_a24 rfl (rfl) (by omega) (by decide) (fh_d d_Mo_setScripts 401 rfl) ?_
                  refine lv_iload hx hb (fh_d d_Mo_setScripts 402 rfl) (lv_at hl 1 rfl) ?_
                  refine lv_aload_n hx hb (fh_d d_Mo_setScripts 403 rfl) rfl (lv_at hl 8 rfl) ?_
                  refine fh_get (own := "FormulaSetterModel") (ref := "FormulaSetterModel") (C := "FormulaSetterModel") (T := T_Mo) (N := 53) (v := .ref (x + 28)) hx hb hT i_Mo hown hK hP mkM_o rfl 34 (by decide) (hT _ w894) (fun _ h9 => h9) rfl (fh_d d_Mo_setScripts 404 rfl) ?_
                  refine lv_iload_n hx hb (fh_d d_Mo_setScripts 405 rfl) rfl (lv_at hl 5 rfl) ?_
                  refine fn_iald (f := upd (A 27) n0 ((A 24) n0)) (k := lo) hx hb hK hP 0 mkM_a27 rfl (rfl) (by omega) (by decide) (fh_d d_Mo_setScripts 406 rfl) ?_
                  rw [show ((upd (A 27) n0 ((A 24) n0)) lo) = (A 27) lo from by simp only [upd_n (hln h0l)]]
                  refine lv_iadd hx hb (fh_d d_Mo_setScripts 407 rfl) ?_
                  refine fh_callS (cc' := c_Mo_most) (nL' := 2) (rest := [.int (nI n0), .ref (x + 28)]) (av := [.int ((A 24) n0), .int ((ms (ms (2 * (yS s0)) (((A 24) n0) + ((yS s0) / 2))) (((A 26) lo) - (4 * (yS s0)))) + ((A 27) lo))]) X hR (m_Mo_most l D ct b RO (r - 1) n ((A 24) n0) ((ms (ms (2 * (yS s0)) (((A 24) n0) + ((yS s0) / 2))) (((A 26) lo) - (4 * (yS s0)))) + ((A 27) lo)) (mkM ct x g (up2 (up2 (up2 (up2 (up2 (up2 (up2 (up2 (up2 A 25 (upd (A 25) n0 ((A 22) n0))) 26 (upd (A 26) n0 ((A 23) n0))) 27 (upd (A 27) n0 ((A 24) n0))) 28 (upd (A 28) n0 0)) 29 (upd (A 29) u ((A 22) n0))) 30 (upd (A 30) u (ms (ms (3 * (yS s0)) (((A 23) n0) - (2 * (yS s0)))) (((A 27) u) + (yS s0))))) 26 (upd (upd (A 26) n0 ((A 23) n0)) n0 (ms ((A 23) n0) ((ms (ms (3 * (yS s0)) (((A 23) n0) - (2 * (yS s0)))) (((A 27) u) + (yS s0))) + ((A 26) u))))) 29 (upd (upd (A 29) u ((A 22) n0)) lo (((A 22) n0) - (yS s0)))) 30 (upd (upd (A 30) u (ms (ms (3 * (yS s0)) (((A 23) n0) - (2 * (yS s0)))) (((A 27) u) + (yS s0)))) lo (-(ms (ms (2 * (yS s0)) (((A 24) n0) + ((yS s0) / 2))) (((A 26) lo) - (4 * (yS s0))))))) th co at_ wr no nu op pi wi he de)) w1151 w1149 w1150 w9 ⟨by decide, by decide, by show _ = some 2; decide +kernel⟩ (by omega) (by decide) hP hS hl.1 rfl (by exact Nat.le_of_ble_eq_true rfl) (fh_d d_Mo_setScripts 408 rfl) ⟨Nat.le_refl _, Nat.le_refl _⟩ (fun v9 h9 n9 H locs hq hP hS => ?_)
                  obtain ⟨rfl, q134a, q134b⟩ := hq
                  rw [q134a, q134b] at hP
                  refine W.eq (g2 := F0 m 647 ls [.int (ms ((A 24) n0) ((ms (ms (2 * (yS s0)) (((A 24) n0) + ((yS s0) / 2))) (((A 26) lo) - (4 * (yS s0)))) + ((A 27) lo))), .int (nI n0), .ref (x + 28)]) rfl ?_
                  refine fn_iast (f := upd (A 27) n0 ((A 24) n0)) (k := n0) hx hb hK hP hS 0 mkM_a27 rfl (rfl) (by omega) (by decide) (fh_d d_Mo_setScripts 409 rfl) (fun H locs hP hS => ?_)
                  replace hP := fh_P.eq (h' := mkM ct x g (up2 (up2 (up2 (up2 (up2 (up2 (up2 (up2 (up2 (up2 A 25 (upd (A 25) n0 ((A 22) n0))) 26 (upd (A 26) n0 ((A 23) n0))) 27 (upd (A 27) n0 ((A 24) n0))) 28 (upd (A 28) n0 0)) 29 (upd (A 29) u ((A 22) n0))) 30 (upd (A 30) u (ms (ms (3 * (yS s0)) (((A 23) n0) - (2 * (yS s0)))) (((A 27) u) + (yS s0))))) 26 (upd (upd (A 26) n0 ((A 23) n0)) n0 (ms ((A 23) n0) ((ms (ms (3 * (yS s0)) (((A 23) n0) - (2 * (yS s0)))) (((A 27) u) + (yS s0))) + ((A 26) u))))) 29 (upd (upd (A 29) u ((A 22) n0)) lo (((A 22) n0) - (yS s0)))) 30 (upd (upd (A 30) u (ms (ms (3 * (yS s0)) (((A 23) n0) - (2 * (yS s0)))) (((A 27) u) + (yS s0)))) lo (-(ms (ms (2 * (yS s0)) (((A 24) n0) + ((yS s0) / 2))) (((A 26) lo) - (4 * (yS s0))))))) 27 (upd (upd (A 27) n0 ((A 24) n0)) n0 (ms ((A 24) n0) ((ms (ms (2 * (yS s0)) (((A 24) n0) + ((yS s0) / 2))) (((A 26) lo) - (4 * (yS s0)))) + ((A 27) lo))))) th co at_ wr no nu op pi wi he de) hP mkM_u27
                  refine lv_aload_n hx hb (fh_d d_Mo_setScripts 410 rfl) rfl (lv_at hl 8 rfl) ?_
                  refine fh_get (own := "FormulaSetterModel") (ref := "FormulaSetterModel") (C := "FormulaSetterModel") (T := T_Mo) (N := 53) (v := .ref (x + 26)) hx hb hT i_Mo hown hK hP mkM_o rfl 32 (by decide) (hT _ w892) (fun _ h9 => h9) rfl (fh_d d_Mo_setScripts 411 rfl) ?_
                  refine lv_iload_n hx hb (fh_d d_Mo_setScripts 412 rfl) rfl (lv_at hl 9 rfl) ?_
                  refine lv_iload hx hb (fh_d d_Mo_setScripts 413 rfl) (lv_at hl 0 rfl) ?_
                  refine lv_iload hx hb (fh_d d_Mo_setScripts 414 rfl) (lv_at hl 6 rfl) ?_
                  refine lv_iconst (v := 2) hx hb (fh_d d_Mo_setScripts 415 rfl) (by decide) ?_
                  refine lv_idiv hx hb (fh_d d_Mo_setScripts 416 rfl) (by decide) ?_
                  refine lv_iadd hx hb (fh_d d_Mo_setScripts 417 rfl) ?_
                  refine fn_iast (f := upd (A 25) n0 ((A 22) n0)) (k := n0) hx hb hK hP hS 0 mkM_a25 rfl (rfl) (by omega) (by decide) (fh_d d_Mo_setScripts 418 rfl) (fun H locs hP hS => ?_)
                  replace hP := fh_P.eq (h' := mkM ct x g (up2 (up2 (up2 (up2 (up2 (up2 (up2 (up2 (up2 (up2 (up2 A 25 (upd (A 25) n0 ((A 22) n0))) 26 (upd (A 26) n0 ((A 23) n0))) 27 (upd (A 27) n0 ((A 24) n0))) 28 (upd (A 28) n0 0)) 29 (upd (A 29) u ((A 22) n0))) 30 (upd (A 30) u (ms (ms (3 * (yS s0)) (((A 23) n0) - (2 * (yS s0)))) (((A 27) u) + (yS s0))))) 26 (upd (upd (A 26) n0 ((A 23) n0)) n0 (ms ((A 23) n0) ((ms (ms (3 * (yS s0)) (((A 23) n0) - (2 * (yS s0)))) (((A 27) u) + (yS s0))) + ((A 26) u))))) 29 (upd (upd (A 29) u ((A 22) n0)) lo (((A 22) n0) - (yS s0)))) 30 (upd (upd (A 30) u (ms (ms (3 * (yS s0)) (((A 23) n0) - (2 * (yS s0)))) (((A 27) u) + (yS s0)))) lo (-(ms (ms (2 * (yS s0)) (((A 24) n0) + ((yS s0) / 2))) (((A 26) lo) - (4 * (yS s0))))))) 27 (upd (upd (A 27) n0 ((A 24) n0)) n0 (ms ((A 24) n0) ((ms (ms (2 * (yS s0)) (((A 24) n0) + ((yS s0) / 2))) (((A 26) lo) - (4 * (yS s0)))) + ((A 27) lo))))) 25 (upd (upd (A 25) n0 ((A 22) n0)) n0 ((ms (((A 22) n0) + ((A 25) u)) ((((A 22) n0) - (yS s0)) + ((A 25) lo))) + ((yS s0) / 2)))) th co at_ wr no nu op pi wi he de) hP mkM_u25
                  exact fh_vret X hP hS (fh_d d_Mo_setScripts 419 rfl) ⟨rfl, by unfold rf_sc; rw [if_neg h0u, if_neg h0l, if_neg hk0, if_neg hlm, if_neg hcr, if_neg hg, if_pos hk2, if_pos hc3]; (try rfl), rfl⟩
                · skip
                  refine lv_istore (lv' := [(8, .int (ms (ms (2 * (yS s0)) (((A 24) n0) + ((yS s0) / 2))) (((A 26) lo) - (4 * (yS s0))))), (9, .int (((ms (ms (3 * (yS s0)) (((A 23) n0) - (2 * (yS s0)))) (((A 27) u) + (yS s0))) - ((A 27) u)) - (((A 26) lo) - (ms (ms (2 * (yS s0)) (((A 24) n0) + ((yS s0) / 2))) (((A 26) lo) - (4 * (yS s0))))))), (7, .int (((A 22) n0) + ((A 25) u))), (6, .int (ms (ms (3 * (yS s0)) (((A 23) n0) - (2 * (yS s0)))) (((A 27) u) + (yS s0)))), (2, .int (nI u)), (3, .int (nI lo)), (4, .int (yS s0)), (5, .int (yT s0)), (0, .ref x), (1, .int (nI n0))]) hx hb (fh_d d_Mo_setScripts 349 rfl) hl (by decide) rfl (fun ls hl => ?_)
                  refine lv_aload_n hx hb (fh_d d_Mo_setScripts 350 rfl) rfl (lv_at hl 8 rfl) ?_
                  refine fh_get (own := "FormulaSetterModel") (ref := "FormulaSetterModel") (C := "FormulaSetterModel") (T := T_Mo) (N := 53) (v := .ref (x + 30)) hx hb hT i_Mo hown hK hP mkM_o rfl 36 (by decide) (hT _ w896) (fun _ h9 => h9) rfl (fh_d d_Mo_setScripts 351 rfl) ?_
                  refine lv_iload_n hx hb (fh_d d_Mo_setScripts 352 rfl) rfl (lv_at hl 5 rfl) ?_
                  refine lv_aload_n hx hb (fh_d d_Mo_setScripts 353 rfl) rfl (lv_at hl 8 rfl) ?_
                  refine fh_get (own := "FormulaSetterModel") (ref := "FormulaSetterModel") (C := "FormulaSetterModel") (T := T_Mo) (N := 53) (v := .ref (x + 2)) hx hb hT i_Mo hown hK hP mkM_o rfl 7 (by decide) (hT _ w867) (fun _ h9 => h9) rfl (fh_d d_Mo_setScripts 354 rfl) ?_
                  refine lv_iload_n hx hb (fh_d d_Mo_setScripts 355 rfl) rfl (lv_at hl 9 rfl) ?_
                  refine fn_iald (f := A 1) (k := n0) hx hb hK hP 0 mkM_a1 rfl (rfl) (by omega) (by decide) (fh_d d_Mo_setScripts 356 rfl) ?_
                  refine lv_iconst (v := 2) hx hb (fh_d d_Mo_setScripts 357 rfl) (by decide) ?_
                  refine lv_icmp_ne (tgt := 588) hx hb (fh_d d_Mo_setScripts 358 rfl) rfl (fun c135 => absurd c135 (Classical.not_not.mpr (hk2))) (fun c135 => ?_)
                  refine lv_aload_n hx hb (fh_d d_Mo_setScripts 359 rfl) rfl (lv_at hl 8 rfl) ?_
                  refine fh_get (own := "FormulaSetterModel") (ref := "FormulaSetterModel") (C := "FormulaSetterModel") (T := T_Mo) (N := 53) (v := .ref (x + 3)) hx hb hT i_Mo hown hK hP mkM_o rfl 8 (by decide) (hT _ w868) (fun _ h9 => h9) rfl (fh_d d_Mo_setScripts 360 rfl) ?_
                  refine lv_iload_n hx hb (fh_d d_Mo_setScripts 361 rfl) rfl (lv_at hl 9 rfl) ?_
                  refine fn_iald (f := A 2) (k := n0) hx hb hK hP 0 mkM_a2 rfl (rfl) (by omega) (by decide) (fh_d d_Mo_setScripts 362 rfl) ?_
                  refine lv_bipush (v := 73) hx hb (fh_d d_Mo_setScripts 363 rfl) (by decide) ?_
                  refine lv_icmp_ne (tgt := 588) hx hb (fh_d d_Mo_setScripts 364 rfl) rfl (fun c136 => ?_) (fun c136 => absurd c136 (hc3))
                  refine lv_aload_n hx hb (fh_d d_Mo_setScripts 372 rfl) rfl (lv_at hl 8 rfl) ?_
                  refine fh_get (own := "FormulaSetterModel") (ref := "FormulaSetterModel") (C := "FormulaSetterModel") (T := T_Mo) (N := 53) (v := .ref (x + 23)) hx hb hT i_Mo hown hK hP mkM_o rfl 29 (by decide) (hT _ w889) (fun _ h9 => h9) rfl (fh_d d_Mo_setScripts 373 rfl) ?_
                  refine lv_iload_n hx hb (fh_d d_Mo_setScripts 374 rfl) rfl (lv_at hl 9 rfl) ?_
                  refine fn_iald (f := A 22) (k := n0) hx hb hK hP 0 mkM_a22 rfl (rfl) (by omega) (by decide) (fh_d d_Mo_setScripts 375 rfl) ?_
                  refine fn_iast (f := upd (A 29) u ((A 22) n0)) (k := lo) hx hb hK hP hS 0 mkM_a29 rfl (rfl) (by omega) (by decide) (fh_d d_Mo_setScripts 376 rfl) (fun H locs hP hS => ?_)
                  replace hP := fh_P.eq (h' := mkM ct x g (up2 (up2 (up2 (up2 (up2 (up2 (up2 (up2 A 25 (upd (A 25) n0 ((A 22) n0))) 26 (upd (A 26) n0 ((A 23) n0))) 27 (upd (A 27) n0 ((A 24) n0))) 28 (upd (A 28) n0 0)) 29 (upd (A 29) u ((A 22) n0))) 30 (upd (A 30) u (ms (ms (3 * (yS s0)) (((A 23) n0) - (2 * (yS s0)))) (((A 27) u) + (yS s0))))) 26 (upd (upd (A 26) n0 ((A 23) n0)) n0 (ms ((A 23) n0) ((ms (ms (3 * (yS s0)) (((A 23) n0) - (2 * (yS s0)))) (((A 27) u) + (yS s0))) + ((A 26) u))))) 29 (upd (upd (A 29) u ((A 22) n0)) lo ((A 22) n0))) th co at_ wr no nu op pi wi he de) hP mkM_u29
                  refine lv_aload_n hx hb (fh_d d_Mo_setScripts 377 rfl) rfl (lv_at hl 8 rfl) ?_
                  refine fh_get (own := "FormulaSetterModel") (ref := "FormulaSetterModel") (C := "FormulaSetterModel") (T := T_Mo) (N := 53) (v := .ref (x + 31)) hx hb hT i_Mo hown hK hP mkM_o rfl 37 (by decide) (hT _ w897) (fun _ h9 => h9) rfl (fh_d d_Mo_setScripts 378 rfl) ?_
                  refine lv_iload_n hx hb (fh_d d_Mo_setScripts 379 rfl) rfl (lv_at hl 5 rfl) ?_
                  refine lv_iload hx hb (fh_d d_Mo_setScripts 380 rfl) (lv_at hl 0 rfl) ?_
                  refine lv_ineg hx hb (fh_d d_Mo_setScripts 381 rfl) ?_
                  refine fn_iast (f := upd (A 30) u (ms (ms (3 * (yS s0)) (((A 23) n0) - (2 * (yS s0)))) (((A 27) u) + (yS s0)))) (k := lo) hx hb hK hP hS 0 mkM_a30 rfl (rfl) (by omega) (by decide) (fh_d d_Mo_setScripts 382 rfl) (fun H locs hP hS => ?_)
                  replace hP := fh_P.eq (h' := mkM ct x g (up2 (up2 (up2 (up2 (up2 (up2 (up2 (up2 (up2 A 25 (upd (A 25) n0 ((A 22) n0))) 26 (upd (A 26) n0 ((A 23) n0))) 27 (upd (A 27) n0 ((A 24) n0))) 28 (upd (A 28) n0 0)) 29 (upd (A 29) u ((A 22) n0))) 30 (upd (A 30) u (ms (ms (3 * (yS s0)) (((A 23) n0) - (2 * (yS s0)))) (((A 27) u) + (yS s0))))) 26 (upd (upd (A 26) n0 ((A 23) n0)) n0 (ms ((A 23) n0) ((ms (ms (3 * (yS s0)) (((A 23) n0) - (2 * (yS s0)))) (((A 27) u) + (yS s0))) + ((A 26) u))))) 29 (upd (upd (A 29) u ((A 22) n0)) lo ((A 22) n0))) 30 (upd (upd (A 30) u (ms (ms (3 * (yS s0)) (((A 23) n0) - (2 * (yS s0)))) (((A 27) u) + (yS s0)))) lo (-(ms (ms (2 * (yS s0)) (((A 24) n0) + ((yS s0) / 2))) (((A 26) lo) - (4 * (yS s0))))))) th co at_ wr no nu op pi wi he de) hP mkM_u30
                  refine lv_iload hx hb (fh_d d_Mo_setScripts 383 rfl) (lv_at hl 2 rfl) ?_
                  refine lv_aload_n hx hb (fh_d d_Mo_setScripts 384 rfl) rfl (lv_at hl 8 rfl) ?_
                  refine fh_get (own := "FormulaSetterModel") (ref := "FormulaSetterModel") (C := "FormulaSetterModel") (T := T_Mo) (N := 53) (v := .ref (x + 30)) hx hb hT i_Mo hown hK hP mkM_o rfl 36 (by decide) (hT _ w896) (fun _ h9 => h9) rfl (fh_d d_Mo_setScripts 385 rfl) ?_
                  refine lv_iload_n hx hb (fh_d d_Mo_setScripts 386 rfl) rfl (lv_at hl 5 rfl) ?_
                  refine fn_iald (f := upd (upd (A 29) u ((A 22) n0)) lo ((A 22) n0)) (k := lo) hx hb hK hP 0 mkM_a29 rfl (rfl) (by omega) (by decide) (fh_d d_Mo_setScripts 387 rfl) ?_
                  rw [show ((upd (upd (A 29) u ((A 22) n0)) lo ((A 22) n0)) lo) = ((A 22) n0) from upd_s]
                  refine lv_aload_n hx hb (fh_d d_Mo_setScripts 388 rfl) rfl (lv_at hl 8 rfl) ?_
                  refine fh_get (own := "FormulaSetterModel") (ref := "FormulaSetterModel") (C := "FormulaSetterModel") (T := T_Mo) (N := 53) (v := .ref (x + 26)) hx hb hT i_Mo hown hK hP mkM_o rfl 32 (by decide) (hT _ w892) (fun _ h9 => h9) rfl (fh_d d_Mo_setScripts 389 rfl) ?_
                  refine lv_iload_n hx hb (fh_d d_Mo_setScripts 390 rfl) rfl (lv_at hl 5 rfl) ?_
                  refine fn_iald (f := upd (A 25) n0 ((A 22) n0)) (k := lo) hx hb hK hP 0 mkM_a25 rfl (rfl) (by omega) (by decide) (fh_d d_Mo_setScripts 391 rfl) ?_
                  rw [show ((upd (A 25) n0 ((A 22) n0)) lo) = (A 25) lo from by simp only [upd_n (hln h0l)]]
                  refine lv_iadd hx hb (fh_d d_Mo_setScripts 392 rfl) ?_
                  refine fh_callS (cc' := c_Mo_most) (nL' := 2) (rest := []) (av := [.int (((A 22) n0) + ((A 25) u)), .int (((A 22) n0) + ((A 25) lo))]) X hR (m_Mo_most l D ct b RO (r - 1) n (((A 22) n0) + ((A 25) u)) (((A 22) n0) + ((A 25) lo)) (mkM ct x g (up2 (up2 (up2 (up2 (up2 (up2 (up2 (up2 (up2 A 25 (upd (A 25) n0 ((A 22) n0))) 26 (upd (A 26) n0 ((A 23) n0))) 27 (upd (A 27) n0 ((A 24) n0))) 28 (upd (A 28) n0 0)) 29 (upd (A 29) u ((A 22) n0))) 30 (upd (A 30) u (ms (ms (3 * (yS s0)) (((A 23) n0) - (2 * (yS s0)))) (((A 27) u) + (yS s0))))) 26 (upd (upd (A 26) n0 ((A 23) n0)) n0 (ms ((A 23) n0) ((ms (ms (3 * (yS s0)) (((A 23) n0) - (2 * (yS s0)))) (((A 27) u) + (yS s0))) + ((A 26) u))))) 29 (upd (upd (A 29) u ((A 22) n0)) lo ((A 22) n0))) 30 (upd (upd (A 30) u (ms (ms (3 * (yS s0)) (((A 23) n0) - (2 * (yS s0)))) (((A 27) u) + (yS s0)))) lo (-(ms (ms (2 * (yS s0)) (((A 24) n0) + ((yS s0) / 2))) (((A 26) lo) - (4 * (yS s0))))))) th co at_ wr no nu op pi wi he de)) w1151 w1149 w1150 w9 ⟨by decide, by decide, by show _ = some 2; decide +kernel⟩ (by omega) (by decide) hP hS hl.1 rfl (by exact Nat.le_of_ble_eq_true rfl) (fh_d d_Mo_setScripts 393 rfl) ⟨Nat.le_refl _, Nat.le_refl _⟩ (fun v9 h9 n9 H locs hq hP hS => ?_)
                  obtain ⟨rfl, q137a, q137b⟩ := hq
                  rw [q137a, q137b] at hP
                  refine W.eq (g2 := F0 m 622 ls [.int (ms (((A 22) n0) + ((A 25) u)) (((A 22) n0) + ((A 25) lo)))]) rfl ?_
                  refine lv_istore (lv' := [(7, .int (ms (((A 22) n0) + ((A 25) u)) (((A 22) n0) + ((A 25) lo)))), (8, .int (ms (ms (2 * (yS s0)) (((A 24) n0) + ((yS s0) / 2))) (((A 26) lo) - (4 * (yS s0))))), (9, .int (((ms (ms (3 * (yS s0)) (((A 23) n0) - (2 * (yS s0)))) (((A 27) u) + (yS s0))) - ((A 27) u)) - (((A 26) lo) - (ms (ms (2 * (yS s0)) (((A 24) n0) + ((yS s0) / 2))) (((A 26) lo) - (4 * (yS s0))))))), (6, .int (ms (ms (3 * (yS s0)) (((A 23) n0) - (2 * (yS s0)))) (((A 27) u) + (yS s0)))), (2, .int (nI u)), (3, .int (nI lo)), (4, .int (yS s0)), (5, .int (yT s0)), (0, .ref x), (1, .int (nI n0))]) hx hb (fh_d d_Mo_setScripts 394 rfl) hl (by decide) rfl (fun ls hl => ?_)
                  refine lv_aload_n hx hb (fh_d d_Mo_setScripts 395 rfl) rfl (lv_at hl 8 rfl) ?_
                  refine fh_get (own := "FormulaSetterModel") (ref := "FormulaSetterModel") (C := "FormulaSetterModel") (T := T_Mo) (N := 53) (v := .ref (x + 28)) hx hb hT i_Mo hown hK hP mkM_o rfl 34 (by decide) (hT _ w894) (fun _ h9 => h9) rfl (fh_d d_Mo_setScripts 396 rfl) ?_
                  refine lv_iload_n hx hb (fh_d d_Mo_setScripts 397 rfl) rfl (lv_at hl 9 rfl) ?_
                  refine lv_aload_n hx hb (fh_d d_Mo_setScripts 398 rfl) rfl (lv_at hl 8 rfl) ?_
                  refine fh_get (own := "FormulaSetterModel") (ref := "FormulaSetterModel") (C := "FormulaSetterModel") (T := T_Mo) (N := 53) (v := .ref (x + 25)) hx hb hT i_Mo hown hK hP mkM_o rfl 31 (by decide) (hT _ w891) (fun _ h9 => h9) rfl (fh_d d_Mo_setScripts 399 rfl) ?_
                  refine lv_iload_n hx hb (fh_d d_Mo_setScripts 400 rfl) rfl (lv_at hl 9 rfl) ?_
                  refine fn_iald (f := A 24) (k := n0) hx hb hK hP 0 mkM_a24 rfl (rfl) (by omega) (by decide) (fh_d d_Mo_setScripts 401 rfl) ?_
                  refine lv_iload hx hb (fh_d d_Mo_setScripts 402 rfl) (lv_at hl 1 rfl) ?_
                  refine lv_aload_n hx hb (fh_d d_Mo_setScripts 403 rfl) rfl (lv_at hl 8 rfl) ?_
                  refine fh_get (own := "FormulaSetterModel") (ref := "FormulaSetterModel") (C := "FormulaSetterModel") (T := T_Mo) (N := 53) (v := .ref (x + 28)) hx hb hT i_Mo hown hK hP mkM_o rfl 34 (by decide) (hT _ w894) (fun _ h9 => h9) rfl (fh_d d_Mo_setScripts 404 rfl) ?_
                  refine lv_iload_n hx hb (fh_d d_Mo_setScripts 405 rfl) rfl (lv_at hl 5 rfl) ?_
                  refine fn_iald (f := upd (A 27) n0 ((A 24) n0)) (k := lo) hx hb hK hP 0 mkM_a27 rfl (rfl) (by omega) (by decide) (fh_d d_Mo_setScripts 406 rfl) ?_
                  rw [show ((upd (A 27) n0 ((A 24) n0)) lo) = (A 27) lo from by simp only [upd_n (hln h0l)]]
                  refine lv_iadd hx hb (fh_d d_Mo_setScripts 407 rfl) ?_
                  refine fh_callS (cc' := c_Mo_most) (nL' := 2) (rest := [.int (nI n0), .ref (x + 28)]) (av := [.int ((A 24) n0), .int ((ms (ms (2 * (yS s0)) (((A 24) n0) + ((yS s0) / 2))) (((A 26) lo) - (4 * (yS s0)))) + ((A 27) lo))]) X hR (m_Mo_most l D ct b RO (r - 1) n ((A 24) n0) ((ms (ms (2 * (yS s0)) (((A 24) n0) + ((yS s0) / 2))) (((A 26) lo) - (4 * (yS s0)))) + ((A 27) lo)) (mkM ct x g (up2 (up2 (up2 (up2 (up2 (up2 (up2 (up2 (up2 A 25 (upd (A 25) n0 ((A 22) n0))) 26 (upd (A 26) n0 ((A 23) n0))) 27 (upd (A 27) n0 ((A 24) n0))) 28 (upd (A 28) n0 0)) 29 (upd (A 29) u ((A 22) n0))) 30 (upd (A 30) u (ms (ms (3 * (yS s0)) (((A 23) n0) - (2 * (yS s0)))) (((A 27) u) + (yS s0))))) 26 (upd (upd (A 26) n0 ((A 23) n0)) n0 (ms ((A 23) n0) ((ms (ms (3 * (yS s0)) (((A 23) n0) - (2 * (yS s0)))) (((A 27) u) + (yS s0))) + ((A 26) u))))) 29 (upd (upd (A 29) u ((A 22) n0)) lo ((A 22) n0))) 30 (upd (upd (A 30) u (ms (ms (3 * (yS s0)) (((A 23) n0) - (2 * (yS s0)))) (((A 27) u) + (yS s0)))) lo (-(ms (ms (2 * (yS s0)) (((A 24) n0) + ((yS s0) / 2))) (((A 26) lo) - (4 * (yS s0))))))) th co at_ wr no nu op pi wi he de)) w1151 w1149 w1150 w9 ⟨by decide, by decide, by show _ = some 2; decide +kernel⟩ (by omega) (by decide) hP hS hl.1 rfl (by exact Nat.le_of_ble_eq_true rfl) (fh_d d_Mo_setScripts 408 rfl) ⟨Nat.le_refl _, Nat.le_refl _⟩ (fun v9 h9 n9 H locs hq hP hS => ?_)
                  obtain ⟨rfl, q138a, q138b⟩ := hq
                  rw [q138a, q138b] at hP
                  refine W.eq (g2 := F0 m 647 ls [.int (ms ((A 24) n0) ((ms (ms (2 * (yS s0)) (((A 24) n0) + ((yS s0) / 2))) (((A 26) lo) - (4 * (yS s0)))) + ((A 27) lo))), .int (nI n0), .ref (x + 28)]) rfl ?_
                  refine fn_iast (f := upd (A 27) n0 ((A 24) n0)) (k := n0) hx hb hK hP hS 0 mkM_a27 rfl (rfl) (by omega) (by decide) (fh_d d_Mo_setScripts 409 rfl) (fun H locs hP hS => ?_)
                  replace hP := fh_P.eq (h' := mkM ct x g (up2 (up2 (up2 (up2 (up2 (up2 (up2 (up2 (up2 (up2 A 25 (upd (A 25) n0 ((A 22) n0))) 26 (upd (A 26) n0 ((A 23) n0))) 27 (upd (A 27) n0 ((A 24) n0))) 28 (upd (A 28) n0 0)) 29 (upd (A 29) u ((A 22) n0))) 30 (upd (A 30) u (ms (ms (3 * (yS s0)) (((A 23) n0) - (2 * (yS s0)))) (((A 27) u) + (yS s0))))) 26 (upd (upd (A 26) n0 ((A 23) n0)) n0 (ms ((A 23) n0) ((ms (ms (3 * (yS s0)) (((A 23) n0) - (2 * (yS s0)))) (((A 27) u) + (yS s0))) + ((A 26) u))))) 29 (upd (upd (A 29) u ((A 22) n0)) lo ((A 22) n0))) 30 (upd (upd (A 30) u (ms (ms (3 * (yS s0)) (((A 23) n0) - (2 * (yS s0)))) (((A 27) u) + (yS s0)))) lo (-(ms (ms (2 * (yS s0)) (((A 24) n0) + ((yS s0) / 2))) (((A 26) lo) - (4 * (yS s0))))))) 27 (upd (upd (A 27) n0 ((A 24) n0)) n0 (ms ((A 24) n0) ((ms (ms (2 * (yS s0)) (((A 24) n0) + ((yS s0) / 2))) (((A 26) lo) - (4 * (yS s0)))) + ((A 27) lo))))) th co at_ wr no nu op pi wi he de) hP mkM_u27
                  refine lv_aload_n hx hb (fh_d d_Mo_setScripts 410 rfl) rfl (lv_at hl 8 rfl) ?_
                  refine fh_get (own := "FormulaSetterModel") (ref := "FormulaSetterModel") (C := "FormulaSetterModel") (T := T_Mo) (N := 53) (v := .ref (x + 26)) hx hb hT i_Mo hown hK hP mkM_o rfl 32 (by decide) (hT _ w892) (fun _ h9 => h9) rfl (fh_d d_Mo_setScripts 411 rfl) ?_
                  refine lv_iload_n hx hb (fh_d d_Mo_setScripts 412 rfl) rfl (lv_at hl 9 rfl) ?_
                  refine lv_iload hx hb (fh_d d_Mo_setScripts 413 rfl) (lv_at hl 0 rfl) ?_
                  refine lv_iload hx hb (fh_d d_Mo_setScripts 414 rfl) (lv_at hl 6 rfl) ?_
                  refine lv_iconst (v := 2) hx hb (fh_d d_Mo_setScripts 415 rfl) (by decide) ?_
                  refine lv_idiv hx hb (fh_d d_Mo_setScripts 416 rfl) (by decide) ?_
                  refine lv_iadd hx hb (fh_d d_Mo_setScripts 417 rfl) ?_
                  refine fn_iast (f := upd (A 25) n0 ((A 22) n0)) (k := n0) hx hb hK hP hS 0 mkM_a25 rfl (rfl) (by omega) (by decide) (fh_d d_Mo_setScripts 418 rfl) (fun H locs hP hS => ?_)
                  replace hP := fh_P.eq (h' := mkM ct x g (up2 (up2 (up2 (up2 (up2 (up2 (up2 (up2 (up2 (up2 (up2 A 25 (upd (A 25) n0 ((A 22) n0))) 26 (upd (A 26) n0 ((A 23) n0))) 27 (upd (A 27) n0 ((A 24) n0))) 28 (upd (A 28) n0 0)) 29 (upd (A 29) u ((A 22) n0))) 30 (upd (A 30) u (ms (ms (3 * (yS s0)) (((A 23) n0) - (2 * (yS s0)))) (((A 27) u) + (yS s0))))) 26 (upd (upd (A 26) n0 ((A 23) n0)) n0 (ms ((A 23) n0) ((ms (ms (3 * (yS s0)) (((A 23) n0) - (2 * (yS s0)))) (((A 27) u) + (yS s0))) + ((A 26) u))))) 29 (upd (upd (A 29) u ((A 22) n0)) lo ((A 22) n0))) 30 (upd (upd (A 30) u (ms (ms (3 * (yS s0)) (((A 23) n0) - (2 * (yS s0)))) (((A 27) u) + (yS s0)))) lo (-(ms (ms (2 * (yS s0)) (((A 24) n0) + ((yS s0) / 2))) (((A 26) lo) - (4 * (yS s0))))))) 27 (upd (upd (A 27) n0 ((A 24) n0)) n0 (ms ((A 24) n0) ((ms (ms (2 * (yS s0)) (((A 24) n0) + ((yS s0) / 2))) (((A 26) lo) - (4 * (yS s0)))) + ((A 27) lo))))) 25 (upd (upd (A 25) n0 ((A 22) n0)) n0 ((ms (((A 22) n0) + ((A 25) u)) (((A 22) n0) + ((A 25) lo))) + ((yS s0) / 2)))) th co at_ wr no nu op pi wi he de) hP mkM_u25
                  exact fh_vret X hP hS (fh_d d_Mo_setScripts 419 rfl) ⟨rfl, by unfold rf_sc; rw [if_neg h0u, if_neg h0l, if_neg hk0, if_neg hlm, if_neg hcr, if_neg hg, if_pos hk2, if_neg hc3]; (try rfl), rfl⟩
              · skip
                refine lv_istore (lv' := [(8, .int (ms (ms (2 * (yS s0)) (((A 24) n0) + ((yS s0) / 2))) (((A 26) lo) - (4 * (yS s0))))), (9, .int (((ms (ms (3 * (yS s0)) (((A 23) n0) - (2 * (yS s0)))) (((A 27) u) + (yS s0))) - ((A 27) u)) - (((A 26) lo) - (ms (ms (2 * (yS s0)) (((A 24) n0) + ((yS s0) / 2))) (((A 26) lo) - (4 * (yS s0))))))), (7, .int (((A 22) n0) + ((A 25) u))), (6, .int (ms (ms (3 * (yS s0)) (((A 23) n0) - (2 * (yS s0)))) (((A 27) u) + (yS s0)))), (2, .int (nI u)), (3, .int (nI lo)), (4, .int (yS s0)), (5, .int (yT s0)), (0, .ref x), (1, .int (nI n0))]) hx hb (fh_d d_Mo_setScripts 349 rfl) hl (by decide) rfl (fun ls hl => ?_)
                refine lv_aload_n hx hb (fh_d d_Mo_setScripts 350 rfl) rfl (lv_at hl 8 rfl) ?_
                refine fh_get (own := "FormulaSetterModel") (ref := "FormulaSetterModel") (C := "FormulaSetterModel") (T := T_Mo) (N := 53) (v := .ref (x + 30)) hx hb hT i_Mo hown hK hP mkM_o rfl 36 (by decide) (hT _ w896) (fun _ h9 => h9) rfl (fh_d d_Mo_setScripts 351 rfl) ?_
                refine lv_iload_n hx hb (fh_d d_Mo_setScripts 352 rfl) rfl (lv_at hl 5 rfl) ?_
                refine lv_aload_n hx hb (fh_d d_Mo_setScripts 353 rfl) rfl (lv_at hl 8 rfl) ?_
                refine fh_get (own := "FormulaSetterModel") (ref := "FormulaSetterModel") (C := "FormulaSetterModel") (T := T_Mo) (N := 53) (v := .ref (x + 2)) hx hb hT i_Mo hown hK hP mkM_o rfl 7 (by decide) (hT _ w867) (fun _ h9 => h9) rfl (fh_d d_Mo_setScripts 354 rfl) ?_
                refine lv_iload_n hx hb (fh_d d_Mo_setScripts 355 rfl) rfl (lv_at hl 9 rfl) ?_
                refine fn_iald (f := A 1) (k := n0) hx hb hK hP 0 mkM_a1 rfl (rfl) (by omega) (by decide) (fh_d d_Mo_setScripts 356 rfl) ?_
                refine lv_iconst (v := 2) hx hb (fh_d d_Mo_setScripts 357 rfl) (by decide) ?_
                refine lv_icmp_ne (tgt := 588) hx hb (fh_d d_Mo_setScripts 358 rfl) rfl (fun c139 => ?_) (fun c139 => absurd c139 (hk2))
                refine lv_aload_n hx hb (fh_d d_Mo_setScripts 372 rfl) rfl (lv_at hl 8 rfl) ?_
                refine fh_get (own := "FormulaSetterModel") (ref := "FormulaSetterModel") (C := "FormulaSetterModel") (T := T_Mo) (N := 53) (v := .ref (x + 23)) hx hb hT i_Mo hown hK hP mkM_o rfl 29 (by decide) (hT _ w889) (fun _ h9 => h9) rfl (fh_d d_Mo_setScripts 373 rfl) ?_
                refine lv_iload_n hx hb (fh_d d_Mo_setScripts 374 rfl) rfl (lv_at hl 9 rfl) ?_
                refine fn_iald (f := A 22) (k := n0) hx hb hK hP 0 mkM_a22 rfl (rfl) (by omega) (by decide) (fh_d d_Mo_setScripts 375 rfl) ?_
                refine fn_iast (f := upd (A 29) u ((A 22) n0)) (k := lo) hx hb hK hP hS 0 mkM_a29 rfl (rfl) (by omega) (by decide) (fh_d d_Mo_setScripts 376 rfl) (fun H locs hP hS => ?_)
                replace hP := fh_P.eq (h' := mkM ct x g (up2 (up2 (up2 (up2 (up2 (up2 (up2 (up2 A 25 (upd (A 25) n0 ((A 22) n0))) 26 (upd (A 26) n0 ((A 23) n0))) 27 (upd (A 27) n0 ((A 24) n0))) 28 (upd (A 28) n0 0)) 29 (upd (A 29) u ((A 22) n0))) 30 (upd (A 30) u (ms (ms (3 * (yS s0)) (((A 23) n0) - (2 * (yS s0)))) (((A 27) u) + (yS s0))))) 26 (upd (upd (A 26) n0 ((A 23) n0)) n0 (ms ((A 23) n0) ((ms (ms (3 * (yS s0)) (((A 23) n0) - (2 * (yS s0)))) (((A 27) u) + (yS s0))) + ((A 26) u))))) 29 (upd (upd (A 29) u ((A 22) n0)) lo ((A 22) n0))) th co at_ wr no nu op pi wi he de) hP mkM_u29
                refine lv_aload_n hx hb (fh_d d_Mo_setScripts 377 rfl) rfl (lv_at hl 8 rfl) ?_
                refine fh_get (own := "FormulaSetterModel") (ref := "FormulaSetterModel") (C := "FormulaSetterModel") (T := T_Mo) (N := 53) (v := .ref (x + 31)) hx hb hT i_Mo hown hK hP mkM_o rfl 37 (by decide) (hT _ w897) (fun _ h9 => h9) rfl (fh_d d_Mo_setScripts 378 rfl) ?_
                refine lv_iload_n hx hb (fh_d d_Mo_setScripts 379 rfl) rfl (lv_at hl 5 rfl) ?_
                refine lv_iload hx hb (fh_d d_Mo_setScripts 380 rfl) (lv_at hl 0 rfl) ?_
                refine lv_ineg hx hb (fh_d d_Mo_setScripts 381 rfl) ?_
                refine fn_iast (f := upd (A 30) u (ms (ms (3 * (yS s0)) (((A 23) n0) - (2 * (yS s0)))) (((A 27) u) + (yS s0)))) (k := lo) hx hb hK hP hS 0 mkM_a30 rfl (rfl) (by omega) (by decide) (fh_d d_Mo_setScripts 382 rfl) (fun H locs hP hS => ?_)
                replace hP := fh_P.eq (h' := mkM ct x g (up2 (up2 (up2 (up2 (up2 (up2 (up2 (up2 (up2 A 25 (upd (A 25) n0 ((A 22) n0))) 26 (upd (A 26) n0 ((A 23) n0))) 27 (upd (A 27) n0 ((A 24) n0))) 28 (upd (A 28) n0 0)) 29 (upd (A 29) u ((A 22) n0))) 30 (upd (A 30) u (ms (ms (3 * (yS s0)) (((A 23) n0) - (2 * (yS s0)))) (((A 27) u) + (yS s0))))) 26 (upd (upd (A 26) n0 ((A 23) n0)) n0 (ms ((A 23) n0) ((ms (ms (3 * (yS s0)) (((A 23) n0) - (2 * (yS s0)))) (((A 27) u) + (yS s0))) + ((A 26) u))))) 29 (upd (upd (A 29) u ((A 22) n0)) lo ((A 22) n0))) 30 (upd (upd (A 30) u (ms (ms (3 * (yS s0)) (((A 23) n0) - (2 * (yS s0)))) (((A 27) u) + (yS s0)))) lo (-(ms (ms (2 * (yS s0)) (((A 24) n0) + ((yS s0) / 2))) (((A 26) lo) - (4 * (yS s0))))))) th co at_ wr no nu op pi wi he de) hP mkM_u30
                refine lv_iload hx hb (fh_d d_Mo_setScripts 383 rfl) (lv_at hl 2 rfl) ?_
                refine lv_aload_n hx hb (fh_d d_Mo_setScripts 384 rfl) rfl (lv_at hl 8 rfl) ?_
                refine fh_get (own := "FormulaSetterModel") (ref := "FormulaSetterModel") (C := "FormulaSetterModel") (T := T_Mo) (N := 53) (v := .ref (x + 30)) hx hb hT i_Mo hown hK hP mkM_o rfl 36 (by decide) (hT _ w896) (fun _ h9 => h9) rfl (fh_d d_Mo_setScripts 385 rfl) ?_
                refine lv_iload_n hx hb (fh_d d_Mo_setScripts 386 rfl) rfl (lv_at hl 5 rfl) ?_
                refine fn_iald (f := upd (upd (A 29) u ((A 22) n0)) lo ((A 22) n0)) (k := lo) hx hb hK hP 0 mkM_a29 rfl (rfl) (by omega) (by decide) (fh_d d_Mo_setScripts 387 rfl) ?_
                rw [show ((upd (upd (A 29) u ((A 22) n0)) lo ((A 22) n0)) lo) = ((A 22) n0) from upd_s]
                refine lv_aload_n hx hb (fh_d d_Mo_setScripts 388 rfl) rfl (lv_at hl 8 rfl) ?_
                refine fh_get (own := "FormulaSetterModel") (ref := "FormulaSetterModel") (C := "FormulaSetterModel") (T := T_Mo) (N := 53) (v := .ref (x + 26)) hx hb hT i_Mo hown hK hP mkM_o rfl 32 (by decide) (hT _ w892) (fun _ h9 => h9) rfl (fh_d d_Mo_setScripts 389 rfl) ?_
                refine lv_iload_n hx hb (fh_d d_Mo_setScripts 390 rfl) rfl (lv_at hl 5 rfl) ?_
                refine fn_iald (f := upd (A 25) n0 ((A 22) n0)) (k := lo) hx hb hK hP 0 mkM_a25 rfl (rfl) (by omega) (by decide) (fh_d d_Mo_setScripts 391 rfl) ?_
                rw [show ((upd (A 25) n0 ((A 22) n0)) lo) = (A 25) lo from by simp only [upd_n (hln h0l)]]
                refine lv_iadd hx hb (fh_d d_Mo_setScripts 392 rfl) ?_
                refine fh_callS (cc' := c_Mo_most) (nL' := 2) (rest := []) (av := [.int (((A 22) n0) + ((A 25) u)), .int (((A 22) n0) + ((A 25) lo))]) X hR (m_Mo_most l D ct b RO (r - 1) n (((A 22) n0) + ((A 25) u)) (((A 22) n0) + ((A 25) lo)) (mkM ct x g (up2 (up2 (up2 (up2 (up2 (up2 (up2 (up2 (up2 A 25 (upd (A 25) n0 ((A 22) n0))) 26 (upd (A 26) n0 ((A 23) n0))) 27 (upd (A 27) n0 ((A 24) n0))) 28 (upd (A 28) n0 0)) 29 (upd (A 29) u ((A 22) n0))) 30 (upd (A 30) u (ms (ms (3 * (yS s0)) (((A 23) n0) - (2 * (yS s0)))) (((A 27) u) + (yS s0))))) 26 (upd (upd (A 26) n0 ((A 23) n0)) n0 (ms ((A 23) n0) ((ms (ms (3 * (yS s0)) (((A 23) n0) - (2 * (yS s0)))) (((A 27) u) + (yS s0))) + ((A 26) u))))) 29 (upd (upd (A 29) u ((A 22) n0)) lo ((A 22) n0))) 30 (upd (upd (A 30) u (ms (ms (3 * (yS s0)) (((A 23) n0) - (2 * (yS s0)))) (((A 27) u) + (yS s0)))) lo (-(ms (ms (2 * (yS s0)) (((A 24) n0) + ((yS s0) / 2))) (((A 26) lo) - (4 * (yS s0))))))) th co at_ wr no nu op pi wi he de)) w1151 w1149 w1150 w9 ⟨by decide, by decide, by show _ = some 2; decide +kernel⟩ (by omega) (by decide) hP hS hl.1 rfl (by exact Nat.le_of_ble_eq_true rfl) (fh_d d_Mo_setScripts 393 rfl) ⟨Nat.le_refl _, Nat.le_refl _⟩ (fun v9 h9 n9 H locs hq hP hS => ?_)
                obtain ⟨rfl, q140a, q140b⟩ := hq
                rw [q140a, q140b] at hP
                refine W.eq (g2 := F0 m 622 ls [.int (ms (((A 22) n0) + ((A 25) u)) (((A 22) n0) + ((A 25) lo)))]) rfl ?_
                refine lv_istore (lv' := [(7, .int (ms (((A 22) n0) + ((A 25) u)) (((A 22) n0) + ((A 25) lo)))), (8, .int (ms (ms (2 * (yS s0)) (((A 24) n0) + ((yS s0) / 2))) (((A 26) lo) - (4 * (yS s0))))), (9, .int (((ms (ms (3 * (yS s0)) (((A 23) n0) - (2 * (yS s0)))) (((A 27) u) + (yS s0))) - ((A 27) u)) - (((A 26) lo) - (ms (ms (2 * (yS s0)) (((A 24) n0) + ((yS s0) / 2))) (((A 26) lo) - (4 * (yS s0))))))), (6, .int (ms (ms (3 * (yS s0)) (((A 23) n0) - (2 * (yS s0)))) (((A 27) u) + (yS s0)))), (2, .int (nI u)), (3, .int (nI lo)), (4, .int (yS s0)), (5, .int (yT s0)), (0, .ref x), (1, .int (nI n0))]) hx hb (fh_d d_Mo_setScripts 394 rfl) hl (by decide) rfl (fun ls hl => ?_)
                refine lv_aload_n hx hb (fh_d d_Mo_setScripts 395 rfl) rfl (lv_at hl 8 rfl) ?_
                refine fh_get (own := "FormulaSetterModel") (ref := "FormulaSetterModel") (C := "FormulaSetterModel") (T := T_Mo) (N := 53) (v := .ref (x + 28)) hx hb hT i_Mo hown hK hP mkM_o rfl 34 (by decide) (hT _ w894) (fun _ h9 => h9) rfl (fh_d d_Mo_setScripts 396 rfl) ?_
                refine lv_iload_n hx hb (fh_d d_Mo_setScripts 397 rfl) rfl (lv_at hl 9 rfl) ?_
                refine lv_aload_n hx hb (fh_d d_Mo_setScripts 398 rfl) rfl (lv_at hl 8 rfl) ?_
                refine fh_get (own := "FormulaSetterModel") (ref := "FormulaSetterModel") (C := "FormulaSetterModel") (T := T_Mo) (N := 53) (v := .ref (x + 25)) hx hb hT i_Mo hown hK hP mkM_o rfl 31 (by decide) (hT _ w891) (fun _ h9 => h9) rfl (fh_d d_Mo_setScripts 399 rfl) ?_
                refine lv_iload_n hx hb (fh_d d_Mo_setScripts 400 rfl) rfl (lv_at hl 9 rfl) ?_
                refine fn_iald (f := A 24) (k := n0) hx hb hK hP 0 mkM_a24 rfl (rfl) (by omega) (by decide) (fh_d d_Mo_setScripts 401 rfl) ?_
                refine lv_iload hx hb (fh_d d_Mo_setScripts 402 rfl) (lv_at hl 1 rfl) ?_
                refine lv_aload_n hx hb (fh_d d_Mo_setScripts 403 rfl) rfl (lv_at hl 8 rfl) ?_
                refine fh_get (own := "FormulaSetterModel") (ref := "FormulaSetterModel") (C := "FormulaSetterModel") (T := T_Mo) (N := 53) (v := .ref (x + 28)) hx hb hT i_Mo hown hK hP mkM_o rfl 34 (by decide) (hT _ w894) (fun _ h9 => h9) rfl (fh_d d_Mo_setScripts 404 rfl) ?_
                refine lv_iload_n hx hb (fh_d d_Mo_setScripts 405 rfl) rfl (lv_at hl 5 rfl) ?_
                refine fn_iald (f := upd (A 27) n0 ((A 24) n0)) (k := lo) hx hb hK hP 0 mkM_a27 rfl (rfl) (by omega) (by decide) (fh_d d_Mo_setScripts 406 rfl) ?_
                rw [show ((upd (A 27) n0 ((A 24) n0)) lo) = (A 27) lo from by simp only [upd_n (hln h0l)]]
                refine lv_iadd hx hb (fh_d d_Mo_setScripts 407 rfl) ?_
                refine fh_callS (cc' := c_Mo_most) (nL' := 2) (rest := [.int (nI n0), .ref (x + 28)]) (av := [.int ((A 24) n0), .int ((ms (ms (2 * (yS s0)) (((A 24) n0) + ((yS s0) / 2))) (((A 26) lo) - (4 * (yS s0)))) + ((A 27) lo))]) X hR (m_Mo_most l D ct b RO (r - 1) n ((A 24) n0) ((ms (ms (2 * (yS s0)) (((A 24) n0) + ((yS s0) / 2))) (((A 26) lo) - (4 * (yS s0)))) + ((A 27) lo)) (mkM ct x g (up2 (up2 (up2 (up2 (up2 (up2 (up2 (up2 (up2 A 25 (upd (A 25) n0 ((A 22) n0))) 26 (upd (A 26) n0 ((A 23) n0))) 27 (upd (A 27) n0 ((A 24) n0))) 28 (upd (A 28) n0 0)) 29 (upd (A 29) u ((A 22) n0))) 30 (upd (A 30) u (ms (ms (3 * (yS s0)) (((A 23) n0) - (2 * (yS s0)))) (((A 27) u) + (yS s0))))) 26 (upd (upd (A 26) n0 ((A 23) n0)) n0 (ms ((A 23) n0) ((ms (ms (3 * (yS s0)) (((A 23) n0) - (2 * (yS s0)))) (((A 27) u) + (yS s0))) + ((A 26) u))))) 29 (upd (upd (A 29) u ((A 22) n0)) lo ((A 22) n0))) 30 (upd (upd (A 30) u (ms (ms (3 * (yS s0)) (((A 23) n0) - (2 * (yS s0)))) (((A 27) u) + (yS s0)))) lo (-(ms (ms (2 * (yS s0)) (((A 24) n0) + ((yS s0) / 2))) (((A 26) lo) - (4 * (yS s0))))))) th co at_ wr no nu op pi wi he de)) w1151 w1149 w1150 w9 ⟨by decide, by decide, by show _ = some 2; decide +kernel⟩ (by omega) (by decide) hP hS hl.1 rfl (by exact Nat.le_of_ble_eq_true rfl) (fh_d d_Mo_setScripts 408 rfl) ⟨Nat.le_refl _, Nat.le_refl _⟩ (fun v9 h9 n9 H locs hq hP hS => ?_)
                obtain ⟨rfl, q141a, q141b⟩ := hq
                rw [q141a, q141b] at hP
                refine W.eq (g2 := F0 m 647 ls [.int (ms ((A 24) n0) ((ms (ms (2 * (yS s0)) (((A 24) n0) + ((yS s0) / 2))) (((A 26) lo) - (4 * (yS s0)))) + ((A 27) lo))), .int (nI n0), .ref (x + 28)]) rfl ?_
                refine fn_iast (f := upd (A 27) n0 ((A 24) n0)) (k := n0) hx hb hK hP hS 0 mkM_a27 rfl (rfl) (by omega) (by decide) (fh_d d_Mo_setScripts 409 rfl) (fun H locs hP hS => ?_)
                replace hP := fh_P.eq (h' := mkM ct x g (up2 (up2 (up2 (up2 (up2 (up2 (up2 (up2 (up2 (up2 A 25 (upd (A 25) n0 ((A 22) n0))) 26 (upd (A 26) n0 ((A 23) n0))) 27 (upd (A 27) n0 ((A 24) n0))) 28 (upd (A 28) n0 0)) 29 (upd (A 29) u ((A 22) n0))) 30 (upd (A 30) u (ms (ms (3 * (yS s0)) (((A 23) n0) - (2 * (yS s0)))) (((A 27) u) + (yS s0))))) 26 (upd (upd (A 26) n0 ((A 23) n0)) n0 (ms ((A 23) n0) ((ms (ms (3 * (yS s0)) (((A 23) n0) - (2 * (yS s0)))) (((A 27) u) + (yS s0))) + ((A 26) u))))) 29 (upd (upd (A 29) u ((A 22) n0)) lo ((A 22) n0))) 30 (upd (upd (A 30) u (ms (ms (3 * (yS s0)) (((A 23) n0) - (2 * (yS s0)))) (((A 27) u) + (yS s0)))) lo (-(ms (ms (2 * (yS s0)) (((A 24) n0) + ((yS s0) / 2))) (((A 26) lo) - (4 * (yS s0))))))) 27 (upd (upd (A 27) n0 ((A 24) n0)) n0 (ms ((A 24) n0) ((ms (ms (2 * (yS s0)) (((A 24) n0) + ((yS s0) / 2))) (((A 26) lo) - (4 * (yS s0)))) + ((A 27) lo))))) th co at_ wr no nu op pi wi he de) hP mkM_u27
                refine lv_aload_n hx hb (fh_d d_Mo_setScripts 410 rfl) rfl (lv_at hl 8 rfl) ?_
                refine fh_get (own := "FormulaSetterModel") (ref := "FormulaSetterModel") (C := "FormulaSetterModel") (T := T_Mo) (N := 53) (v := .ref (x + 26)) hx hb hT i_Mo hown hK hP mkM_o rfl 32 (by decide) (hT _ w892) (fun _ h9 => h9) rfl (fh_d d_Mo_setScripts 411 rfl) ?_
                refine lv_iload_n hx hb (fh_d d_Mo_setScripts 412 rfl) rfl (lv_at hl 9 rfl) ?_
                refine lv_iload hx hb (fh_d d_Mo_setScripts 413 rfl) (lv_at hl 0 rfl) ?_
                refine lv_iload hx hb (fh_d d_Mo_setScripts 414 rfl) (lv_at hl 6 rfl) ?_
                refine lv_iconst (v := 2) hx hb (fh_d d_Mo_setScripts 415 rfl) (by decide) ?_
                refine lv_idiv hx hb (fh_d d_Mo_setScripts 416 rfl) (by decide) ?_
                refine lv_iadd hx hb (fh_d d_Mo_setScripts 417 rfl) ?_
                refine fn_iast (f := upd (A 25) n0 ((A 22) n0)) (k := n0) hx hb hK hP hS 0 mkM_a25 rfl (rfl) (by omega) (by decide) (fh_d d_Mo_setScripts 418 rfl) (fun H locs hP hS => ?_)
                replace hP := fh_P.eq (h' := mkM ct x g (up2 (up2 (up2 (up2 (up2 (up2 (up2 (up2 (up2 (up2 (up2 A 25 (upd (A 25) n0 ((A 22) n0))) 26 (upd (A 26) n0 ((A 23) n0))) 27 (upd (A 27) n0 ((A 24) n0))) 28 (upd (A 28) n0 0)) 29 (upd (A 29) u ((A 22) n0))) 30 (upd (A 30) u (ms (ms (3 * (yS s0)) (((A 23) n0) - (2 * (yS s0)))) (((A 27) u) + (yS s0))))) 26 (upd (upd (A 26) n0 ((A 23) n0)) n0 (ms ((A 23) n0) ((ms (ms (3 * (yS s0)) (((A 23) n0) - (2 * (yS s0)))) (((A 27) u) + (yS s0))) + ((A 26) u))))) 29 (upd (upd (A 29) u ((A 22) n0)) lo ((A 22) n0))) 30 (upd (upd (A 30) u (ms (ms (3 * (yS s0)) (((A 23) n0) - (2 * (yS s0)))) (((A 27) u) + (yS s0)))) lo (-(ms (ms (2 * (yS s0)) (((A 24) n0) + ((yS s0) / 2))) (((A 26) lo) - (4 * (yS s0))))))) 27 (upd (upd (A 27) n0 ((A 24) n0)) n0 (ms ((A 24) n0) ((ms (ms (2 * (yS s0)) (((A 24) n0) + ((yS s0) / 2))) (((A 26) lo) - (4 * (yS s0)))) + ((A 27) lo))))) 25 (upd (upd (A 25) n0 ((A 22) n0)) n0 ((ms (((A 22) n0) + ((A 25) u)) (((A 22) n0) + ((A 25) lo))) + ((yS s0) / 2)))) th co at_ wr no nu op pi wi he de) hP mkM_u25
                exact fh_vret X hP hS (fh_d d_Mo_setScripts 419 rfl) ⟨rfl, by unfold rf_sc; rw [if_neg h0u, if_neg h0l, if_neg hk0, if_neg hlm, if_neg hcr, if_neg hg, if_neg hk2]; (try rfl), rfl⟩
        by_cases hlm : A 1 n0 = 2 ∧ ¬ A 2 n0 = 73 ∧ s0 = 0
        · skip
          refine lv_aload_n hx hb (fh_d d_Mo_setScripts 61 rfl) rfl (lv_at hl 4 rfl) ?_
          refine fh_get (own := "FormulaSetterModel") (ref := "FormulaSetterModel") (C := "FormulaSetterModel") (T := T_Mo) (N := 53) (v := .ref (x + 2)) hx hb hT i_Mo hown hK hP mkM_o rfl 7 (by decide) (hT _ w867) (fun _ h9 => h9) rfl (fh_d d_Mo_setScripts 62 rfl) ?_
          refine lv_iload_n hx hb (fh_d d_Mo_setScripts 63 rfl) rfl (lv_at hl 5 rfl) ?_
          refine fn_iald (f := A 1) (k := n0) hx hb hK hP 0 mkM_a1 rfl (rfl) (by omega) (by decide) (fh_d d_Mo_setScripts 64 rfl) ?_
          refine lv_iconst (v := 2) hx hb (fh_d d_Mo_setScripts 65 rfl) (by decide) ?_
          refine lv_icmp_ne (tgt := 332) hx hb (fh_d d_Mo_setScripts 66 rfl) rfl (fun c142 => absurd c142 (Classical.not_not.mpr (hlm.1))) (fun c142 => ?_)
          refine lv_aload_n hx hb (fh_d d_Mo_setScripts 67 rfl) rfl (lv_at hl 4 rfl) ?_
          refine fh_get (own := "FormulaSetterModel") (ref := "FormulaSetterModel") (C := "FormulaSetterModel") (T := T_Mo) (N := 53) (v := .ref (x + 3)) hx hb hT i_Mo hown hK hP mkM_o rfl 8 (by decide) (hT _ w868) (fun _ h9 => h9) rfl (fh_d d_Mo_setScripts 68 rfl) ?_
          refine lv_iload_n hx hb (fh_d d_Mo_setScripts 69 rfl) rfl (lv_at hl 5 rfl) ?_
          refine fn_iald (f := A 2) (k := n0) hx hb hK hP 0 mkM_a2 rfl (rfl) (by omega) (by decide) (fh_d d_Mo_setScripts 70 rfl) ?_
          refine lv_bipush (v := 73) hx hb (fh_d d_Mo_setScripts 71 rfl) (by decide) ?_
          refine lv_icmp_eq (tgt := 332) hx hb (fh_d d_Mo_setScripts 72 rfl) rfl (fun c143 => absurd c143 (hlm.2.1)) (fun c143 => ?_)
          refine lv_aload_n hx hb (fh_d d_Mo_setScripts 73 rfl) rfl (lv_at hl 4 rfl) ?_
          refine fh_get (own := "FormulaSetterModel") (ref := "FormulaSetterModel") (C := "FormulaSetterModel") (T := T_Mo) (N := 53) (v := .ref (x + 21)) hx hb hT i_Mo hown hK hP mkM_o rfl 27 (by decide) (hT _ w887) (fun _ h9 => h9) rfl (fh_d d_Mo_setScripts 74 rfl) ?_
          refine lv_iload_n hx hb (fh_d d_Mo_setScripts 75 rfl) rfl (lv_at hl 5 rfl) ?_
          refine fn_iald (f := A 20) (k := n0) hx hb hK hP 0 mkM_a20 rfl (rfl) (by omega) (by decide) (fh_d d_Mo_setScripts 76 rfl) ?_
          rw [show ((A 20) n0) = nI s0 from h20]
          refine lv_if_ne (tgt := 332) hx hb (fh_d d_Mo_setScripts 77 rfl) rfl (fun c144 => absurd c144 (fun z => z (by rw [hlm.2.2]; rfl))) (fun c144 => ?_)
          refine lv_aload_n hx hb (fh_d d_Mo_setScripts 78 rfl) rfl (lv_at hl 4 rfl) ?_
          refine fh_get (own := "FormulaSetterModel") (ref := "FormulaSetterModel") (C := "FormulaSetterModel") (T := T_Mo) (N := 53) (v := .ref (x + 26)) hx hb hT i_Mo hown hK hP mkM_o rfl 32 (by decide) (hT _ w892) (fun _ h9 => h9) rfl (fh_d d_Mo_setScripts 79 rfl) ?_
          refine lv_iload_n hx hb (fh_d d_Mo_setScripts 80 rfl) rfl (lv_at hl 5 rfl) ?_
          refine lv_aload_n hx hb (fh_d d_Mo_setScripts 81 rfl) rfl (lv_at hl 4 rfl) ?_
          refine fh_get (own := "FormulaSetterModel") (ref := "FormulaSetterModel") (C := "FormulaSetterModel") (T := T_Mo) (N := 53) (v := .ref (x + 23)) hx hb hT i_Mo hown hK hP mkM_o rfl 29 (by decide) (hT _ w889) (fun _ h9 => h9) rfl (fh_d d_Mo_setScripts 82 rfl) ?_
          refine lv_iload_n hx hb (fh_d d_Mo_setScripts 83 rfl) rfl (lv_at hl 5 rfl) ?_
          refine fn_iald (f := A 22) (k := n0) hx hb hK hP 0 mkM_a22 rfl (rfl) (by omega) (by decide) (fh_d d_Mo_setScripts 84 rfl) ?_
          refine lv_iload_n hx hb (fh_d d_Mo_setScripts 85 rfl) rfl (lv_at hl 3 rfl) ?_
          refine lv_if_le (tgt := 151) hx hb (fh_d d_Mo_setScripts 86 rfl) rfl (fun c145 => absurd c145 (nI_np ⟨Nat.pos_of_ne_zero h0u, hu⟩)) (fun c145 => ?_)
          refine lv_aload_n hx hb (fh_d d_Mo_setScripts 87 rfl) rfl (lv_at hl 4 rfl) ?_
          refine fh_get (own := "FormulaSetterModel") (ref := "FormulaSetterModel") (C := "FormulaSetterModel") (T := T_Mo) (N := 53) (v := .ref (x + 26)) hx hb hT i_Mo hown hK hP mkM_o rfl 32 (by decide) (hT _ w892) (fun _ h9 => h9) rfl (fh_d d_Mo_setScripts 88 rfl) ?_
          refine lv_iload_n hx hb (fh_d d_Mo_setScripts 89 rfl) rfl (lv_at hl 3 rfl) ?_
          refine fn_iald (f := upd (A 25) n0 ((A 22) n0)) (k := u) hx hb hK hP 0 mkM_a25 rfl (rfl) (by omega) (by decide) (fh_d d_Mo_setScripts 90 rfl) ?_
          rw [show ((upd (A 25) n0 ((A 22) n0)) u) = (A 25) u from by simp only [upd_n (hun h0u)]]
          refine lv_goto (tgt := 152) hx hb (fh_d d_Mo_setScripts 91 rfl) rfl ?_
          refine lv_iload_n hx hb (fh_d d_Mo_setScripts 93 rfl) rfl (lv_at hl 2 rfl) ?_
          refine lv_if_le (tgt := 165) hx hb (fh_d d_Mo_setScripts 94 rfl) rfl (fun c146 => absurd c146 (nI_np ⟨Nat.pos_of_ne_zero h0l, hlo⟩)) (fun c146 => ?_)
          refine lv_aload_n hx hb (fh_d d_Mo_setScripts 95 rfl) rfl (lv_at hl 4 rfl) ?_
          refine fh_get (own := "FormulaSetterModel") (ref := "FormulaSetterModel") (C := "FormulaSetterModel") (T := T_Mo) (N := 53) (v := .ref (x + 26)) hx hb hT i_Mo hown hK hP mkM_o rfl 32 (by decide) (hT _ w892) (fun _ h9 => h9) rfl (fh_d d_Mo_setScripts 96 rfl) ?_
          refine lv_iload_n hx hb (fh_d d_Mo_setScripts 97 rfl) rfl (lv_at hl 2 rfl) ?_
          refine fn_iald (f := upd (A 25) n0 ((A 22) n0)) (k := lo) hx hb hK hP 0 mkM_a25 rfl (rfl) (by omega) (by decide) (fh_d d_Mo_setScripts 98 rfl) ?_
          rw [show ((upd (A 25) n0 ((A 22) n0)) lo) = (A 25) lo from by simp only [upd_n (hln h0l)]]
          refine lv_goto (tgt := 166) hx hb (fh_d d_Mo_setScripts 99 rfl) rfl ?_
          refine fh_callS (cc' := c_Mo_most) (nL' := 2) (rest := [.int ((A 22) n0), .int (nI n0), .ref (x + 26)]) (av := [.int ((A 25) u), .int ((A 25) lo)]) X hR (m_Mo_most l D ct b RO (r - 1) n ((A 25) u) ((A 25) lo) (mkM ct x g (up2 (up2 (up2 (up2 A 25 (upd (A 25) n0 ((A 22) n0))) 26 (upd (A 26) n0 ((A 23) n0))) 27 (upd (A 27) n0 ((A 24) n0))) 28 (upd (A 28) n0 0)) th co at_ wr no nu op pi wi he de)) w1151 w1149 w1150 w9 ⟨by decide, by decide, by show _ = some 2; decide +kernel⟩ (by omega) (by decide) hP hS hl.1 rfl (by exact Nat.le_of_ble_eq_true rfl) (fh_d d_Mo_setScripts 101 rfl) ⟨Nat.le_refl _, Nat.le_refl _⟩ (fun v9 h9 n9 H locs hq hP hS => ?_)
          obtain ⟨rfl, q147a, q147b⟩ := hq
          rw [q147a, q147b] at hP
          refine W.eq (g2 := F0 m 169 ls [.int (ms ((A 25) u) ((A 25) lo)), .int ((A 22) n0), .int (nI n0), .ref (x + 26)]) rfl ?_
          refine fh_callS (cc' := c_Mo_most) (nL' := 2) (rest := [.int (nI n0), .ref (x + 26)]) (av := [.int ((A 22) n0), .int (ms ((A 25) u) ((A 25) lo))]) X hR (m_Mo_most l D ct b RO (r - 1) n ((A 22) n0) (ms ((A 25) u) ((A 25) lo)) (mkM ct x g (up2 (up2 (up2 (up2 A 25 (upd (A 25) n0 ((A 22) n0))) 26 (upd (A 26) n0 ((A 23) n0))) 27 (upd (A 27) n0 ((A 24) n0))) 28 (upd (A 28) n0 0)) th co at_ wr no nu op pi wi he de)) w1151 w1149 w1150 w9 ⟨by decide, by decide, by show _ = some 2; decide +kernel⟩ (by omega) (by decide) hP hS hl.1 rfl (by exact Nat.le_of_ble_eq_true rfl) (fh_d d_Mo_setScripts 102 rfl) ⟨Nat.le_refl _, Nat.le_refl _⟩ (fun v9 h9 n9 H locs hq hP hS => ?_)
          obtain ⟨rfl, q148a, q148b⟩ := hq
          rw [q148a, q148b] at hP
          refine W.eq (g2 := F0 m 172 ls [.int (ms ((A 22) n0) (ms ((A 25) u) ((A 25) lo))), .int (nI n0), .ref (x + 26)]) rfl ?_
          refine fn_iast (f := upd (A 25) n0 ((A 22) n0)) (k := n0) hx hb hK hP hS 0 mkM_a25 rfl (rfl) (by omega) (by decide) (fh_d d_Mo_setScripts 103 rfl) (fun H locs hP hS => ?_)
          replace hP := fh_P.eq (h' := mkM ct x g (up2 (up2 (up2 (up2 (up2 A 25 (upd (A 25) n0 ((A 22) n0))) 26 (upd (A 26) n0 ((A 23) n0))) 27 (upd (A 27) n0 ((A 24) n0))) 28 (upd (A 28) n0 0)) 25 (upd (upd (A 25) n0 ((A 22) n0)) n0 (ms ((A 22) n0) (ms ((A 25) u) ((A 25) lo))))) th co at_ wr no nu op pi wi he de) hP mkM_u25
          refine lv_aload_n hx hb (fh_d d_Mo_setScripts 104 rfl) rfl (lv_at hl 4 rfl) ?_
          refine fh_get (own := "FormulaSetterModel") (ref := "FormulaSetterModel") (C := "FormulaSetterModel") (T := T_Mo) (N := 53) (v := .ref (x + 29)) hx hb hT i_Mo hown hK hP mkM_o rfl 35 (by decide) (hT _ w895) (fun _ h9 => h9) rfl (fh_d d_Mo_setScripts 105 rfl) ?_
          refine lv_iload_n hx hb (fh_d d_Mo_setScripts 106 rfl) rfl (lv_at hl 5 rfl) ?_
          refine lv_aload_n hx hb (fh_d d_Mo_setScripts 107 rfl) rfl (lv_at hl 4 rfl) ?_
          refine fh_get (own := "FormulaSetterModel") (ref := "FormulaSetterModel") (C := "FormulaSetterModel") (T := T_Mo) (N := 53) (v := .ref (x + 26)) hx hb hT i_Mo hown hK hP mkM_o rfl 32 (by decide) (hT _ w892) (fun _ h9 => h9) rfl (fh_d d_Mo_setScripts 108 rfl) ?_
          refine lv_iload_n hx hb (fh_d d_Mo_setScripts 109 rfl) rfl (lv_at hl 5 rfl) ?_
          refine fn_iald (f := upd (upd (A 25) n0 ((A 22) n0)) n0 (ms ((A 22) n0) (ms ((A 25) u) ((A 25) lo)))) (k := n0) hx hb hK hP 0 mkM_a25 rfl (rfl) (by omega) (by decide) (fh_d d_Mo_setScripts 110 rfl) ?_
          rw [show ((upd (upd (A 25) n0 ((A 22) n0)) n0 (ms ((A 22) n0) (ms ((A 25) u) ((A 25) lo)))) n0) = (ms ((A 22) n0) (ms ((A 25) u) ((A 25) lo))) from upd_s]
          refine lv_aload_n hx hb (fh_d d_Mo_setScripts 111 rfl) rfl (lv_at hl 4 rfl) ?_
          refine fh_get (own := "FormulaSetterModel") (ref := "FormulaSetterModel") (C := "FormulaSetterModel") (T := T_Mo) (N := 53) (v := .ref (x + 23)) hx hb hT i_Mo hown hK hP mkM_o rfl 29 (by decide) (hT _ w889) (fun _ h9 => h9) rfl (fh_d d_Mo_setScripts 112 rfl) ?_
          refine lv_iload_n hx hb (fh_d d_Mo_setScripts 113 rfl) rfl (lv_at hl 5 rfl) ?_
          refine fn_iald (f := A 22) (k := n0) hx hb hK hP 0 mkM_a22 rfl (rfl) (by omega) (by decide) (fh_d d_Mo_setScripts 114 rfl) ?_
          refine lv_isub hx hb (fh_d d_Mo_setScripts 115 rfl) ?_
          refine lv_iconst (v := 2) hx hb (fh_d d_Mo_setScripts 116 rfl) (by decide) ?_
          refine lv_idiv hx hb (fh_d d_Mo_setScripts 117 rfl) (by decide) ?_
          refine fn_iast (f := upd (A 28) n0 0) (k := n0) hx hb hK hP hS 0 mkM_a28 rfl (rfl) (by omega) (by decide) (fh_d d_Mo_setScripts 118 rfl) (fun H locs hP hS => ?_)
          replace hP := fh_P.eq (h' := mkM ct x g (up2 (up2 (up2 (up2 (up2 (up2 A 25 (upd (A 25) n0 ((A 22) n0))) 26 (upd (A 26) n0 ((A 23) n0))) 27 (upd (A 27) n0 ((A 24) n0))) 28 (upd (A 28) n0 0)) 25 (upd (upd (A 25) n0 ((A 22) n0)) n0 (ms ((A 22) n0) (ms ((A 25) u) ((A 25) lo))))) 28 (upd (upd (A 28) n0 0) n0 (((ms ((A 22) n0) (ms ((A 25) u) ((A 25) lo))) - ((A 22) n0)) / 2))) th co at_ wr no nu op pi wi he de) hP mkM_u28
          refine lv_iload_n hx hb (fh_d d_Mo_setScripts 119 rfl) rfl (lv_at hl 3 rfl) ?_
          refine lv_if_le (tgt := 262) hx hb (fh_d d_Mo_setScripts 120 rfl) rfl (fun c149 => absurd c149 (nI_np ⟨Nat.pos_of_ne_zero h0u, hu⟩)) (fun c149 => ?_)
          refine lv_aload_n hx hb (fh_d d_Mo_setScripts 121 rfl) rfl (lv_at hl 4 rfl) ?_
          refine fh_get (own := "FormulaSetterModel") (ref := "FormulaSetterModel") (C := "FormulaSetterModel") (T := T_Mo) (N := 53) (v := .ref (x + 30)) hx hb hT i_Mo hown hK hP mkM_o rfl 36 (by decide) (hT _ w896) (fun _ h9 => h9) rfl (fh_d d_Mo_setScripts 122 rfl) ?_
          refine lv_iload_n hx hb (fh_d d_Mo_setScripts 123 rfl) rfl (lv_at hl 3 rfl) ?_
          refine lv_aload_n hx hb (fh_d d_Mo_setScripts 124 rfl) rfl (lv_at hl 4 rfl) ?_
          refine fh_get (own := "FormulaSetterModel") (ref := "FormulaSetterModel") (C := "FormulaSetterModel") (T := T_Mo) (N := 53) (v := .ref (x + 26)) hx hb hT i_Mo hown hK hP mkM_o rfl 32 (by decide) (hT _ w892) (fun _ h9 => h9) rfl (fh_d d_Mo_setScripts 125 rfl) ?_
          refine lv_iload_n hx hb (fh_d d_Mo_setScripts 126 rfl) rfl (lv_at hl 5 rfl) ?_
          refine fn_iald (f := upd (upd (A 25) n0 ((A 22) n0)) n0 (ms ((A 22) n0) (ms ((A 25) u) ((A 25) lo)))) (k := n0) hx hb hK hP 0 mkM_a25 rfl (rfl) (by omega) (by decide) (fh_d d_Mo_setScripts 127 rfl) ?_
          rw [show ((upd (upd (A 25) n0 ((A 22) n0)) n0 (ms ((A 22) n0) (ms ((A 25) u) ((A 25) lo)))) n0) = (ms ((A 22) n0) (ms ((A 25) u) ((A 25) lo))) from upd_s]
          refine lv_aload_n hx hb (fh_d d_Mo_setScripts 128 rfl) rfl (lv_at hl 4 rfl) ?_
          refine fh_get (own := "FormulaSetterModel") (ref := "FormulaSetterModel") (C := "FormulaSetterModel") (T := T_Mo) (N := 53) (v := .ref (x + 26)) hx hb hT i_Mo hown hK hP mkM_o rfl 32 (by decide) (hT _ w892) (fun _ h9 => h9) rfl (fh_d d_Mo_setScripts 129 rfl) ?_
          refine lv_iload_n hx hb (fh_d d_Mo_setScripts 130 rfl) rfl (lv_at hl 3 rfl) ?_
          refine fn_iald (f := upd (upd (A 25) n0 ((A 22) n0)) n0 (ms ((A 22) n0) (ms ((A 25) u) ((A 25) lo)))) (k := u) hx hb hK hP 0 mkM_a25 rfl (rfl) (by omega) (by decide) (fh_d d_Mo_setScripts 131 rfl) ?_
          rw [show ((upd (upd (A 25) n0 ((A 22) n0)) n0 (ms ((A 22) n0) (ms ((A 25) u) ((A 25) lo)))) u) = (A 25) u from by simp only [upd_n (hun h0u)]]
          refine lv_isub hx hb (fh_d d_Mo_setScripts 132 rfl) ?_
          refine lv_iconst (v := 2) hx hb (fh_d d_Mo_setScripts 133 rfl) (by decide) ?_
          refine lv_idiv hx hb (fh_d d_Mo_setScripts 134 rfl) (by decide) ?_
          refine fn_iast (f := A 29) (k := u) hx hb hK hP hS 0 mkM_a29 rfl (rfl) (by omega) (by decide) (fh_d d_Mo_setScripts 135 rfl) (fun H locs hP hS => ?_)
          replace hP := fh_P.eq (h' := mkM ct x g (up2 (up2 (up2 (up2 (up2 (up2 (up2 A 25 (upd (A 25) n0 ((A 22) n0))) 26 (upd (A 26) n0 ((A 23) n0))) 27 (upd (A 27) n0 ((A 24) n0))) 28 (upd (A 28) n0 0)) 25 (upd (upd (A 25) n0 ((A 22) n0)) n0 (ms ((A 22) n0) (ms ((A 25) u) ((A 25) lo))))) 28 (upd (upd (A 28) n0 0) n0 (((ms ((A 22) n0) (ms ((A 25) u) ((A 25) lo))) - ((A 22) n0)) / 2))) 29 (upd (A 29) u (((ms ((A 22) n0) (ms ((A 25) u) ((A 25) lo))) - ((A 25) u)) / 2))) th co at_ wr no nu op pi wi he de) hP mkM_u29
          refine lv_aload_n hx hb (fh_d d_Mo_setScripts 136 rfl) rfl (lv_at hl 4 rfl) ?_
          refine fh_get (own := "FormulaSetterModel") (ref := "FormulaSetterModel") (C := "FormulaSetterModel") (T := T_Mo) (N := 53) (v := .ref (x + 31)) hx hb hT i_Mo hown hK hP mkM_o rfl 37 (by decide) (hT _ w897) (fun _ h9 => h9) rfl (fh_d d_Mo_setScripts 137 rfl) ?_
          refine lv_iload_n hx hb (fh_d d_Mo_setScripts 138 rfl) rfl (lv_at hl 3 rfl) ?_
          refine lv_aload_n hx hb (fh_d d_Mo_setScripts 139 rfl) rfl (lv_at hl 4 rfl) ?_
          refine fh_get (own := "FormulaSetterModel") (ref := "FormulaSetterModel") (C := "FormulaSetterModel") (T := T_Mo) (N := 53) (v := .ref (x + 24)) hx hb hT i_Mo hown hK hP mkM_o rfl 30 (by decide) (hT _ w890) (fun _ h9 => h9) rfl (fh_d d_Mo_setScripts 140 rfl) ?_
          refine lv_iload_n hx hb (fh_d d_Mo_setScripts 141 rfl) rfl (lv_at hl 5 rfl) ?_
          refine fn_iald (f := A 23) (k := n0) hx hb hK hP 0 mkM_a23 rfl (rfl) (by omega) (by decide) (fh_d d_Mo_setScripts 142 rfl) ?_
          refine lv_iconst (v := 2) hx hb (fh_d d_Mo_setScripts 143 rfl) (by decide) ?_
          refine lv_iload hx hb (fh_d d_Mo_setScripts 144 rfl) (lv_at hl 0 rfl) ?_
          refine lv_imul hx hb (fh_d d_Mo_setScripts 145 rfl) ?_
          refine lv_iadd hx hb (fh_d d_Mo_setScripts 146 rfl) ?_
          refine lv_aload_n hx hb (fh_d d_Mo_setScripts 147 rfl) rfl (lv_at hl 4 rfl) ?_
          refine fh_get (own := "FormulaSetterModel") (ref := "FormulaSetterModel") (C := "FormulaSetterModel") (T := T_Mo) (N := 53) (v := .ref (x + 28)) hx hb hT i_Mo hown hK hP mkM_o rfl 34 (by decide) (hT _ w894) (fun _ h9 => h9) rfl (fh_d d_Mo_setScripts 148 rfl) ?_
          refine lv_iload_n hx hb (fh_d d_Mo_setScripts 149 rfl) rfl (lv_at hl 3 rfl) ?_
          refine fn_iald (f := upd (A 27) n0 ((A 24) n0)) (k := u) hx hb hK hP 0 mkM_a27 rfl (rfl) (by omega) (by decide) (fh_d d_Mo_setScripts 150 rfl) ?_
          rw [show ((upd (A 27) n0 ((A 24) n0)) u) = (A 27) u from by simp only [upd_n (hun h0u)]]
          refine lv_iadd hx hb (fh_d d_Mo_setScripts 151 rfl) ?_
          refine fn_iast (f := A 30) (k := u) hx hb hK hP hS 0 mkM_a30 rfl (rfl) (by omega) (by decide) (fh_d d_Mo_setScripts 152 rfl) (fun H locs hP hS => ?_)
          replace hP := fh_P.eq (h' := mkM ct x g (up2 (up2 (up2 (up2 (up2 (up2 (up2 (up2 A 25 (upd (A 25) n0 ((A 22) n0))) 26 (upd (A 26) n0 ((A 23) n0))) 27 (upd (A 27) n0 ((A 24) n0))) 28 (upd (A 28) n0 0)) 25 (upd (upd (A 25) n0 ((A 22) n0)) n0 (ms ((A 22) n0) (ms ((A 25) u) ((A 25) lo))))) 28 (upd (upd (A 28) n0 0) n0 (((ms ((A 22) n0) (ms ((A 25) u) ((A 25) lo))) - ((A 22) n0)) / 2))) 29 (upd (A 29) u (((ms ((A 22) n0) (ms ((A 25) u) ((A 25) lo))) - ((A 25) u)) / 2))) 30 (upd (A 30) u ((((A 23) n0) + (2 * (yT s0))) + ((A 27) u)))) th co at_ wr no nu op pi wi he de) hP mkM_u30
          refine lv_aload_n hx hb (fh_d d_Mo_setScripts 153 rfl) rfl (lv_at hl 4 rfl) ?_
          refine fh_get (own := "FormulaSetterModel") (ref := "FormulaSetterModel") (C := "FormulaSetterModel") (T := T_Mo) (N := 53) (v := .ref (x + 27)) hx hb hT i_Mo hown hK hP mkM_o rfl 33 (by decide) (hT _ w893) (fun _ h9 => h9) rfl (fh_d d_Mo_setScripts 154 rfl) ?_
          refine lv_iload_n hx hb (fh_d d_Mo_setScripts 155 rfl) rfl (lv_at hl 5 rfl) ?_
          refine lv_aload_n hx hb (fh_d d_Mo_setScripts 156 rfl) rfl (lv_at hl 4 rfl) ?_
          refine fh_get (own := "FormulaSetterModel") (ref := "FormulaSetterModel") (C := "FormulaSetterModel") (T := T_Mo) (N := 53) (v := .ref (x + 31)) hx hb hT i_Mo hown hK hP mkM_o rfl 37 (by decide) (hT _ w897) (fun _ h9 => h9) rfl (fh_d d_Mo_setScripts 157 rfl) ?_
          refine lv_iload_n hx hb (fh_d d_Mo_setScripts 158 rfl) rfl (lv_at hl 3 rfl) ?_
          refine fn_iald (f := upd (A 30) u ((((A 23) n0) + (2 * (yT s0))) + ((A 27) u))) (k := u) hx hb hK hP 0 mkM_a30 rfl (rfl) (by omega) (by decide) (fh_d d_Mo_setScripts 159 rfl) ?_
          rw [show ((upd (A 30) u ((((A 23) n0) + (2 * (yT s0))) + ((A 27) u))) u) = ((((A 23) n0) + (2 * (yT s0))) + ((A 27) u)) from upd_s]
          refine lv_aload_n hx hb (fh_d d_Mo_setScripts 160 rfl) rfl (lv_at hl 4 rfl) ?_
          refine fh_get (own := "FormulaSetterModel") (ref := "FormulaSetterModel") (C := "FormulaSetterModel") (T := T_Mo) (N := 53) (v := .ref (x + 27)) hx hb hT i_Mo hown hK hP mkM_o rfl 33 (by decide) (hT _ w893) (fun _ h9 => h9) rfl (fh_d d_Mo_setScripts 161 rfl) ?_
          refine lv_iload_n hx hb (fh_d d_Mo_setScripts 162 rfl) rfl (lv_at hl 3 rfl) ?_
          refine fn_iald (f := upd (A 26) n0 ((A 23) n0)) (k := u) hx hb hK hP 0 mkM_a26 rfl (rfl) (by omega) (by decide) (fh_d d_Mo_setScripts 163 rfl) ?_
          rw [show ((upd (A 26) n0 ((A 23) n0)) u) = (A 26) u from by simp only [upd_n (hun h0u)]]
          refine lv_iadd hx hb (fh_d d_Mo_setScripts 164 rfl) ?_
          refine fn_iast (f := upd (A 26) n0 ((A 23) n0)) (k := n0) hx hb hK hP hS 0 mkM_a26 rfl (rfl) (by omega) (by decide) (fh_d d_Mo_setScripts 165 rfl) (fun H locs hP hS => ?_)
          replace hP := fh_P.eq (h' := mkM ct x g (up2 (up2 (up2 (up2 (up2 (up2 (up2 (up2 (up2 A 25 (upd (A 25) n0 ((A 22) n0))) 26 (upd (A 26) n0 ((A 23) n0))) 27 (upd (A 27) n0 ((A 24) n0))) 28 (upd (A 28) n0 0)) 25 (upd (upd (A 25) n0 ((A 22) n0)) n0 (ms ((A 22) n0) (ms ((A 25) u) ((A 25) lo))))) 28 (upd (upd (A 28) n0 0) n0 (((ms ((A 22) n0) (ms ((A 25) u) ((A 25) lo))) - ((A 22) n0)) / 2))) 29 (upd (A 29) u (((ms ((A 22) n0) (ms ((A 25) u) ((A 25) lo))) - ((A 25) u)) / 2))) 30 (upd (A 30) u ((((A 23) n0) + (2 * (yT s0))) + ((A 27) u)))) 26 (upd (upd (A 26) n0 ((A 23) n0)) n0 (((((A 23) n0) + (2 * (yT s0))) + ((A 27) u)) + ((A 26) u)))) th co at_ wr no nu op pi wi he de) hP mkM_u26
          refine lv_iload_n hx hb (fh_d d_Mo_setScripts 166 rfl) rfl (lv_at hl 2 rfl) ?_
          refine lv_if_le (tgt := 331) hx hb (fh_d d_Mo_setScripts 167 rfl) rfl (fun c150 => absurd c150 (nI_np ⟨Nat.pos_of_ne_zero h0l, hlo⟩)) (fun c150 => ?_)
          refine lv_aload_n hx hb (fh_d d_Mo_setScripts 168 rfl) rfl (lv_at hl 4 rfl) ?_
          refine fh_get (own := "FormulaSetterModel") (ref := "FormulaSetterModel") (C := "FormulaSetterModel") (T := T_Mo) (N := 53) (v := .ref (x + 30)) hx hb hT i_Mo hown hK hP mkM_o rfl 36 (by decide) (hT _ w896) (fun _ h9 => h9) rfl (fh_d d_Mo_setScripts 169 rfl) ?_
          refine lv_iload_n hx hb (fh_d d_Mo_setScripts 170 rfl) rfl (lv_at hl 2 rfl) ?_
          refine lv_aload_n hx hb (fh_d d_Mo_setScripts 171 rfl) rfl (lv_at hl 4 rfl) ?_
          refine fh_get (own := "FormulaSetterModel") (ref := "FormulaSetterModel") (C := "FormulaSetterModel") (T := T_Mo) (N := 53) (v := .ref (x + 26)) hx hb hT i_Mo hown hK hP mkM_o rfl 32 (by decide) (hT _ w892) (fun _ h9 => h9) rfl (fh_d d_Mo_setScripts 172 rfl) ?_
          refine lv_iload_n hx hb (fh_d d_Mo_setScripts 173 rfl) rfl (lv_at hl 5 rfl) ?_
          refine fn_iald (f := upd (upd (A 25) n0 ((A 22) n0)) n0 (ms ((A 22) n0) (ms ((A 25) u) ((A 25) lo)))) (k := n0) hx hb hK hP 0 mkM_a25 rfl (rfl) (by omega) (by decide) (fh_d d_Mo_setScripts 174 rfl) ?_
          rw [show ((upd (upd (A 25) n0 ((A 22) n0)) n0 (ms ((A 22) n0) (ms ((A 25) u) ((A 25) lo)))) n0) = (ms ((A 22) n0) (ms ((A 25) u) ((A 25) lo))) from upd_s]
          refine lv_aload_n hx hb (fh_d d_Mo_setScripts 175 rfl) rfl (lv_at hl 4 rfl) ?_
          refine fh_get (own := "FormulaSetterModel") (ref := "FormulaSetterModel") (C := "FormulaSetterModel") (T := T_Mo) (N := 53) (v := .ref (x + 26)) hx hb hT i_Mo hown hK hP mkM_o rfl 32 (by decide) (hT _ w892) (fun _ h9 => h9) rfl (fh_d d_Mo_setScripts 176 rfl) ?_
          refine lv_iload_n hx hb (fh_d d_Mo_setScripts 177 rfl) rfl (lv_at hl 2 rfl) ?_
          refine fn_iald (f := upd (upd (A 25) n0 ((A 22) n0)) n0 (ms ((A 22) n0) (ms ((A 25) u) ((A 25) lo)))) (k := lo) hx hb hK hP 0 mkM_a25 rfl (rfl) (by omega) (by decide) (fh_d d_Mo_setScripts 178 rfl) ?_
          rw [show ((upd (upd (A 25) n0 ((A 22) n0)) n0 (ms ((A 22) n0) (ms ((A 25) u) ((A 25) lo)))) lo) = (A 25) lo from by simp only [upd_n (hln h0l)]]
          refine lv_isub hx hb (fh_d d_Mo_setScripts 179 rfl) ?_
          refine lv_iconst (v := 2) hx hb (fh_d d_Mo_setScripts 180 rfl) (by decide) ?_
          refine lv_idiv hx hb (fh_d d_Mo_setScripts 181 rfl) (by decide) ?_
          refine fn_iast (f := upd (A 29) u (((ms ((A 22) n0) (ms ((A 25) u) ((A 25) lo))) - ((A 25) u)) / 2)) (k := lo) hx hb hK hP hS 0 mkM_a29 rfl (rfl) (by omega) (by decide) (fh_d d_Mo_setScripts 182 rfl) (fun H locs hP hS => ?_)
          replace hP := fh_P.eq (h' := mkM ct x g (up2 (up2 (up2 (up2 (up2 (up2 (up2 (up2 (up2 (up2 A 25 (upd (A 25) n0 ((A 22) n0))) 26 (upd (A 26) n0 ((A 23) n0))) 27 (upd (A 27) n0 ((A 24) n0))) 28 (upd (A 28) n0 0)) 25 (upd (upd (A 25) n0 ((A 22) n0)) n0 (ms ((A 22) n0) (ms ((A 25) u) ((A 25) lo))))) 28 (upd (upd (A 28) n0 0) n0 (((ms ((A 22) n0) (ms ((A 25) u) ((A 25) lo))) - ((A 22) n0)) / 2))) 29 (upd (A 29) u (((ms ((A 22) n0) (ms ((A 25) u) ((A 25) lo))) - ((A 25) u)) / 2))) 30 (upd (A 30) u ((((A 23) n0) + (2 * (yT s0))) + ((A 27) u)))) 26 (upd (upd (A 26) n0 ((A 23) n0)) n0 (((((A 23) n0) + (2 * (yT s0))) + ((A 27) u)) + ((A 26) u)))) 29 (upd (upd (A 29) u (((ms ((A 22) n0) (ms ((A 25) u) ((A 25) lo))) - ((A 25) u)) / 2)) lo (((ms ((A 22) n0) (ms ((A 25) u) ((A 25) lo))) - ((A 25) lo)) / 2))) th co at_ wr no nu op pi wi he de) hP mkM_u29
          refine lv_aload_n hx hb (fh_d d_Mo_setScripts 183 rfl) rfl (lv_at hl 4 rfl) ?_
          refine fh_get (own := "FormulaSetterModel") (ref := "FormulaSetterModel") (C := "FormulaSetterModel") (T := T_Mo) (N := 53) (v := .ref (x + 31)) hx hb hT i_Mo hown hK hP mkM_o rfl 37 (by decide) (hT _ w897) (fun _ h9 => h9) rfl (fh_d d_Mo_setScripts 184 rfl) ?_
          refine lv_iload_n hx hb (fh_d d_Mo_setScripts 185 rfl) rfl (lv_at hl 2 rfl) ?_
          refine lv_aload_n hx hb (fh_d d_Mo_setScripts 186 rfl) rfl (lv_at hl 4 rfl) ?_
          refine fh_get (own := "FormulaSetterModel") (ref := "FormulaSetterModel") (C := "FormulaSetterModel") (T := T_Mo) (N := 53) (v := .ref (x + 25)) hx hb hT i_Mo hown hK hP mkM_o rfl 31 (by decide) (hT _ w891) (fun _ h9 => h9) rfl (fh_d d_Mo_setScripts 187 rfl) ?_
          refine lv_iload_n hx hb (fh_d d_Mo_setScripts 188 rfl) rfl (lv_at hl 5 rfl) ?_
          refine fn_iald (f := A 24) (k := n0) hx hb hK hP 0 mkM_a24 rfl (rfl) (by omega) (by decide) (fh_d d_Mo_setScripts 189 rfl) ?_
          refine lv_iconst (v := 2) hx hb (fh_d d_Mo_setScripts 190 rfl) (by decide) ?_
          refine lv_iload hx hb (fh_d d_Mo_setScripts 191 rfl) (lv_at hl 0 rfl) ?_
          refine lv_imul hx hb (fh_d d_Mo_setScripts 192 rfl) ?_
          refine lv_iadd hx hb (fh_d d_Mo_setScripts 193 rfl) ?_
          refine lv_aload_n hx hb (fh_d d_Mo_setScripts 194 rfl) rfl (lv_at hl 4 rfl) ?_
          refine fh_get (own := "FormulaSetterModel") (ref := "FormulaSetterModel") (C := "FormulaSetterModel") (T := T_Mo) (N := 53) (v := .ref (x + 27)) hx hb hT i_Mo hown hK hP mkM_o rfl 33 (by decide) (hT _ w893) (fun _ h9 => h9) rfl (fh_d d_Mo_setScripts 195 rfl) ?_
          refine lv_iload_n hx hb (fh_d d_Mo_setScripts 196 rfl) rfl (lv_at hl 2 rfl) ?_
          refine fn_iald (f := upd (upd (A 26) n0 ((A 23) n0)) n0 (((((A 23) n0) + (2 * (yT s0))) + ((A 27) u)) + ((A 26) u))) (k := lo) hx hb hK hP 0 mkM_a26 rfl (rfl) (by omega) (by decide) (fh_d d_Mo_setScripts 197 rfl) ?_
          rw [show ((upd (upd (A 26) n0 ((A 23) n0)) n0 (((((A 23) n0) + (2 * (yT s0))) + ((A 27) u)) + ((A 26) u))) lo) = (A 26) lo from by simp only [upd_n (hln h0l)]]
          refine lv_iadd hx hb (fh_d d_Mo_setScripts 198 rfl) ?_
          refine lv_ineg hx hb (fh_d d_Mo_setScripts 199 rfl) ?_
          refine fn_iast (f := upd (A 30) u ((((A 23) n0) + (2 * (yT s0))) + ((A 27) u))) (k := lo) hx hb hK hP hS 0 mkM_a30 rfl (rfl) (by omega) (by decide) (fh_d d_Mo_setScripts 200 rfl) (fun H locs hP hS => ?_)
          replace hP := fh_P.eq (h' := mkM ct x g (up2 (up2 (up2 (up2 (up2 (up2 (up2 (up2 (up2 (up2 (up2 A 25 (upd (A 25) n0 ((A 22) n0))) 26 (upd (A 26) n0 ((A 23) n0))) 27 (upd (A 27) n0 ((A 24) n0))) 28 (upd (A 28) n0 0)) 25 (upd (upd (A 25) n0 ((A 22) n0)) n0 (ms ((A 22) n0) (ms ((A 25) u) ((A 25) lo))))) 28 (upd (upd (A 28) n0 0) n0 (((ms ((A 22) n0) (ms ((A 25) u) ((A 25) lo))) - ((A 22) n0)) / 2))) 29 (upd (A 29) u (((ms ((A 22) n0) (ms ((A 25) u) ((A 25) lo))) - ((A 25) u)) / 2))) 30 (upd (A 30) u ((((A 23) n0) + (2 * (yT s0))) + ((A 27) u)))) 26 (upd (upd (A 26) n0 ((A 23) n0)) n0 (((((A 23) n0) + (2 * (yT s0))) + ((A 27) u)) + ((A 26) u)))) 29 (upd (upd (A 29) u (((ms ((A 22) n0) (ms ((A 25) u) ((A 25) lo))) - ((A 25) u)) / 2)) lo (((ms ((A 22) n0) (ms ((A 25) u) ((A 25) lo))) - ((A 25) lo)) / 2))) 30 (upd (upd (A 30) u ((((A 23) n0) + (2 * (yT s0))) + ((A 27) u))) lo (-((((A 24) n0) + (2 * (yT s0))) + ((A 26) lo))))) th co at_ wr no nu op pi wi he de) hP mkM_u30
          refine lv_aload_n hx hb (fh_d d_Mo_setScripts 201 rfl) rfl (lv_at hl 4 rfl) ?_
          refine fh_get (own := "FormulaSetterModel") (ref := "FormulaSetterModel") (C := "FormulaSetterModel") (T := T_Mo) (N := 53) (v := .ref (x + 28)) hx hb hT i_Mo hown hK hP mkM_o rfl 34 (by decide) (hT _ w894) (fun _ h9 => h9) rfl (fh_d d_Mo_setScripts 202 rfl) ?_
          refine lv_iload_n hx hb (fh_d d_Mo_setScripts 203 rfl) rfl (lv_at hl 5 rfl) ?_
          refine lv_aload_n hx hb (fh_d d_Mo_setScripts 204 rfl) rfl (lv_at hl 4 rfl) ?_
          refine fh_get (own := "FormulaSetterModel") (ref := "FormulaSetterModel") (C := "FormulaSetterModel") (T := T_Mo) (N := 53) (v := .ref (x + 28)) hx hb hT i_Mo hown hK hP mkM_o rfl 34 (by decide) (hT _ w894) (fun _ h9 => h9) rfl (fh_d d_Mo_setScripts 205 rfl) ?_
          refine lv_iload_n hx hb (fh_d d_Mo_setScripts 206 rfl) rfl (lv_at hl 2 rfl) ?_
          refine fn_iald (f := upd (A 27) n0 ((A 24) n0)) (k := lo) hx hb hK hP 0 mkM_a27 rfl (rfl) (by omega) (by decide) (fh_d d_Mo_setScripts 207 rfl) ?_
          rw [show ((upd (A 27) n0 ((A 24) n0)) lo) = (A 27) lo from by simp only [upd_n (hln h0l)]]
          refine lv_aload_n hx hb (fh_d d_Mo_setScripts 208 rfl) rfl (lv_at hl 4 rfl) ?_
          refine fh_get (own := "FormulaSetterModel") (ref := "FormulaSetterModel") (C := "FormulaSetterModel") (T := T_Mo) (N := 53) (v := .ref (x + 31)) hx hb hT i_Mo hown hK hP mkM_o rfl 37 (by decide) (hT _ w897) (fun _ h9 => h9) rfl (fh_d d_Mo_setScripts 209 rfl) ?_
          refine lv_iload_n hx hb (fh_d d_Mo_setScripts 210 rfl) rfl (lv_at hl 2 rfl) ?_
          refine fn_iald (f := upd (upd (A 30) u ((((A 23) n0) + (2 * (yT s0))) + ((A 27) u))) lo (-((((A 24) n0) + (2 * (yT s0))) + ((A 26) lo)))) (k := lo) hx hb hK hP 0 mkM_a30 rfl (rfl) (by omega) (by decide) (fh_d d_Mo_setScripts 211 rfl) ?_
          rw [show ((upd (upd (A 30) u ((((A 23) n0) + (2 * (yT s0))) + ((A 27) u))) lo (-((((A 24) n0) + (2 * (yT s0))) + ((A 26) lo)))) lo) = (-((((A 24) n0) + (2 * (yT s0))) + ((A 26) lo))) from upd_s]
          refine lv_isub hx hb (fh_d d_Mo_setScripts 212 rfl) ?_
          refine fn_iast (f := upd (A 27) n0 ((A 24) n0)) (k := n0) hx hb hK hP hS 0 mkM_a27 rfl (rfl) (by omega) (by decide) (fh_d d_Mo_setScripts 213 rfl) (fun H locs hP hS => ?_)
          replace hP := fh_P.eq (h' := mkM ct x g (up2 (up2 (up2 (up2 (up2 (up2 (up2 (up2 (up2 (up2 (up2 (up2 A 25 (upd (A 25) n0 ((A 22) n0))) 26 (upd (A 26) n0 ((A 23) n0))) 27 (upd (A 27) n0 ((A 24) n0))) 28 (upd (A 28) n0 0)) 25 (upd (upd (A 25) n0 ((A 22) n0)) n0 (ms ((A 22) n0) (ms ((A 25) u) ((A 25) lo))))) 28 (upd (upd (A 28) n0 0) n0 (((ms ((A 22) n0) (ms ((A 25) u) ((A 25) lo))) - ((A 22) n0)) / 2))) 29 (upd (A 29) u (((ms ((A 22) n0) (ms ((A 25) u) ((A 25) lo))) - ((A 25) u)) / 2))) 30 (upd (A 30) u ((((A 23) n0) + (2 * (yT s0))) + ((A 27) u)))) 26 (upd (upd (A 26) n0 ((A 23) n0)) n0 (((((A 23) n0) + (2 * (yT s0))) + ((A 27) u)) + ((A 26) u)))) 29 (upd (upd (A 29) u (((ms ((A 22) n0) (ms ((A 25) u) ((A 25) lo))) - ((A 25) u)) / 2)) lo (((ms ((A 22) n0) (ms ((A 25) u) ((A 25) lo))) - ((A 25) lo)) / 2))) 30 (upd (upd (A 30) u ((((A 23) n0) + (2 * (yT s0))) + ((A 27) u))) lo (-((((A 24) n0) + (2 * (yT s0))) + ((A 26) lo))))) 27 (upd (upd (A 27) n0 ((A 24) n0)) n0 (((A 27) lo) - (-((((A 24) n0) + (2 * (yT s0))) + ((A 26) lo)))))) th co at_ wr no nu op pi wi he de) hP mkM_u27
          exact fh_vret X hP hS (fh_d d_Mo_setScripts 214 rfl) ⟨rfl, by unfold rf_sc; rw [if_neg h0u, if_neg h0l, if_neg hk0, if_pos hlm]; (try rfl), rfl⟩
        · skip
          refine lv_aload_n hx hb (fh_d d_Mo_setScripts 61 rfl) rfl (lv_at hl 4 rfl) ?_
          refine fh_get (own := "FormulaSetterModel") (ref := "FormulaSetterModel") (C := "FormulaSetterModel") (T := T_Mo) (N := 53) (v := .ref (x + 2)) hx hb hT i_Mo hown hK hP mkM_o rfl 7 (by decide) (hT _ w867) (fun _ h9 => h9) rfl (fh_d d_Mo_setScripts 62 rfl) ?_
          refine lv_iload_n hx hb (fh_d d_Mo_setScripts 63 rfl) rfl (lv_at hl 5 rfl) ?_
          refine fn_iald (f := A 1) (k := n0) hx hb hK hP 0 mkM_a1 rfl (rfl) (by omega) (by decide) (fh_d d_Mo_setScripts 64 rfl) ?_
          refine lv_iconst (v := 2) hx hb (fh_d d_Mo_setScripts 65 rfl) (by decide) ?_
          refine lv_icmp_ne (tgt := 332) hx hb (fh_d d_Mo_setScripts 66 rfl) rfl (fun c151 => ?_) (fun c151 => ?_)
          · exact J hlm H _ _ hP hS (lv_sub hl [3, 2, 1, 0, 4, 5] rfl)
          · refine lv_aload_n hx hb (fh_d d_Mo_setScripts 67 rfl) rfl (lv_at hl 4 rfl) ?_
            refine fh_get (own := "FormulaSetterModel") (ref := "FormulaSetterModel") (C := "FormulaSetterModel") (T := T_Mo) (N := 53) (v := .ref (x + 3)) hx hb hT i_Mo hown hK hP mkM_o rfl 8 (by decide) (hT _ w868) (fun _ h9 => h9) rfl (fh_d d_Mo_setScripts 68 rfl) ?_
            refine lv_iload_n hx hb (fh_d d_Mo_setScripts 69 rfl) rfl (lv_at hl 5 rfl) ?_
            refine fn_iald (f := A 2) (k := n0) hx hb hK hP 0 mkM_a2 rfl (rfl) (by omega) (by decide) (fh_d d_Mo_setScripts 70 rfl) ?_
            refine lv_bipush (v := 73) hx hb (fh_d d_Mo_setScripts 71 rfl) (by decide) ?_
            refine lv_icmp_eq (tgt := 332) hx hb (fh_d d_Mo_setScripts 72 rfl) rfl (fun c152 => ?_) (fun c152 => ?_)
            · exact J hlm H _ _ hP hS (lv_sub hl [3, 2, 1, 0, 4, 5] rfl)
            · refine lv_aload_n hx hb (fh_d d_Mo_setScripts 73 rfl) rfl (lv_at hl 4 rfl) ?_
              refine fh_get (own := "FormulaSetterModel") (ref := "FormulaSetterModel") (C := "FormulaSetterModel") (T := T_Mo) (N := 53) (v := .ref (x + 21)) hx hb hT i_Mo hown hK hP mkM_o rfl 27 (by decide) (hT _ w887) (fun _ h9 => h9) rfl (fh_d d_Mo_setScripts 74 rfl) ?_
              refine lv_iload_n hx hb (fh_d d_Mo_setScripts 75 rfl) rfl (lv_at hl 5 rfl) ?_
              refine fn_iald (f := A 20) (k := n0) hx hb hK hP 0 mkM_a20 rfl (rfl) (by omega) (by decide) (fh_d d_Mo_setScripts 76 rfl) ?_
              rw [show ((A 20) n0) = nI s0 from h20]
              refine lv_if_ne (tgt := 332) hx hb (fh_d d_Mo_setScripts 77 rfl) rfl (fun c153 => ?_) (fun c153 => absurd c153 (fun z => hlm ⟨by assumption, by assumption, nI_z hs0 z⟩))
              exact J hlm H _ _ hP hS (lv_sub hl [3, 2, 1, 0, 4, 5] rfl)
