/-! The class's setting as pure functions of (pieces, facts, grid, C, CL); R and RL are only read. By hand. -/
abbrev mx (a b : Int32) : Int32 := if a < b then b else a
abbrev TS : Type := Nat × (Nat → Int32) × (Nat → Int32) × (Nat → Int32) × (Nat → Int32) × Int32 × Int32 × (Nat → Nat → Int32) × (Nat → Nat → Int32)
abbrev FN : Type := TS → Nat → Nat → Nat → TS
def hz (ct : Nat → ClassId) (x : Nat) (kA aA : Nat → Nat) (g : fh_H) (nc lc : Int32) (tx : Value) (len at_ : Int32) (R RL : Nat → Nat → Option Nat) (t : TS) : fh_H := mkR x kA aA (mkG ct x g (nI t.1) t.2.1 t.2.2.1 t.2.2.2.1 t.2.2.2.2.1 t.2.2.2.2.2.1 t.2.2.2.2.2.2.1) nc lc tx len at_ t.2.2.2.2.2.2.2.1 R t.2.2.2.2.2.2.2.2 RL
def rsv (c : Nat) : Nat := if c < 120 then c + 1 else c
theorem rsv_le {c : Nat} (h : c ≤ 120) : rsv c ≤ 120 := by unfold rsv; split <;> omega
def meas (C : Nat → Nat → Int32) (i : Nat) (a b c : Int32) : Nat → Nat → Int32 := sT (sT (sT C i 0 a) i 1 b) i 2 c
abbrev mvN (F : Nat → Int32) (C : Nat → Nat → Int32) (i : Nat) (r u : Int32) : Nat → Int32 := mvF F (ixI (C i 3)) (ixI (C i 4)) r u
/-- a place in a matrix -/
abbrev okw (v : Int32) : Prop := v = nI (ixI v) ∧ ixI v < 8
def okB (C CL : Nat → Nat → Int32) : Prop := (∀ k, k < 60 → okv (C k 3) ∧ okv (C k 4)) ∧ ∀ j, j < 161 → okv (CL j 3) ∧ okv (CL j 4) ∧ okw (CL j 6) ∧ okw (CL j 7)
def okT (t : TS) : Prop := t.1 ≤ 120 ∧ okB t.2.2.2.2.2.2.2.1 t.2.2.2.2.2.2.2.2
theorem okv_n {c : Nat} (h : c ≤ 120) : okv (nI c) := by
  have : ixI (nI c) = c := nI_clamp (by omega)
  exact ⟨by rw [this], by rw [this]; exact h⟩
theorem sT_okv {C : Nat → Nat → Int32} {i q k z : Nat} {v : Int32} (h : okv (C k z)) (hv : (q = 3 ∨ q = 4) → okv v) (hz : z = 3 ∨ z = 4) : okv (sT C i q v k z) := by
  by_cases e : k = i ∧ z = q
  · obtain ⟨rfl, rfl⟩ := e
    rw [sT_same]; exact hv hz
  · rw [sT_ne e]; exact h
theorem sT_okw {C : Nat → Nat → Int32} {i q k z : Nat} {v : Int32} (h : okw (C k z)) (hv : (q = 6 ∨ q = 7) → okw v) (hz : z = 6 ∨ z = 7) : okw (sT C i q v k z) := by
  by_cases e : k = i ∧ z = q
  · obtain ⟨rfl, rfl⟩ := e
    rw [sT_same]; exact hv hz
  · rw [sT_ne e]; exact h
theorem okB_C {C CL : Nat → Nat → Int32} (h : okB C CL) (i q : Nat) (v : Int32) (hv : (q = 3 ∨ q = 4) → okv v) : okB (sT C i q v) CL := ⟨fun k hk => ⟨sT_okv (h.1 k hk).1 hv (Or.inl rfl), sT_okv (h.1 k hk).2 hv (Or.inr rfl)⟩, h.2⟩
theorem okB_L {C CL : Nat → Nat → Int32} (h : okB C CL) (i q : Nat) (v : Int32) (hv : (q = 3 ∨ q = 4) → okv v) (hw : (q = 6 ∨ q = 7) → okw v) : okB C (sT CL i q v) := ⟨h.1, fun k hk => ⟨sT_okv (h.2 k hk).1 hv (Or.inl rfl), sT_okv (h.2 k hk).2.1 hv (Or.inr rfl), sT_okw (h.2 k hk).2.2.1 hw (Or.inl rfl), sT_okw (h.2 k hk).2.2.2 hw (Or.inr rfl)⟩⟩
theorem okB_m {C CL : Nat → Nat → Int32} (h : okB C CL) (i : Nat) (a b c : Int32) : okB (meas C i a b c) CL := okB_C (okB_C (okB_C h i 0 a (by omega)) i 1 b (by omega)) i 2 c (by omega)
theorem okB_mL {C CL : Nat → Nat → Int32} (h : okB C CL) (i : Nat) (a b c : Int32) : okB C (meas CL i a b c) := okB_L (okB_L (okB_L h i 0 a (by omega) (by omega)) i 1 b (by omega) (by omega)) i 2 c (by omega) (by omega)
/-- a character; an operator -/
def sChar (i si : Nat) : TS → TS
  | (c, F, W, H, D, ro, co, C, CL) => (rsv c, putF F c 0 (C i 7) 0 0 (yS si) (sgW (C i 7) (yS si)), W, H, D, ro, co, meas C i (sgW (C i 7) (yS si)) (sgH (C i 7) (yS si)) (sgD (C i 7) (yS si)), CL)
def opS (si : Nat) : Int32 := if si = 0 then 14 else yS si
def opY (si : Nat) (cd : Int32) : Int32 := yX si - (sgH cd (opS si) - sgD cd (opS si)) / 2
def sOper (i si : Nat) : TS → TS
  | (c, F, W, H, D, ro, co, C, CL) => (rsv c, putF F c 0 (C i 7) 0 (opY si (C i 7)) (opS si) (sgW (C i 7) (opS si)), W, H, D, ro, co, meas C i (sgW (C i 7) (opS si)) (mx 0 (sgH (C i 7) (opS si) + opY si (C i 7))) (mx 0 (sgD (C i 7) (opS si) - opY si (C i 7))), CL)
def sGrp (L1 : FN) (i l si cr : Nat) (t : TS) : TS := match L1 t l si cr with
  | (c, F, W, H, D, ro, co, C, CL) => (c, F, W, H, D, ro, co, meas C i (CL l 0) (CL l 1) (CL l 2), CL)
def frL (si : Nat) : Int32 := (if si = 0 then 7 else 4) * yS si
def frC (si : Nat) : Int32 := if si = 0 then 3 * yT si else yT si
def frY (si : Nat) : Int32 := yX si - yT si / 2
def frU (si : Nat) (d : Int32) : Int32 := mx (frL si) (frY si + yT si + frC si + d)
def frD (si : Nat) (h : Int32) : Int32 := mx (frL si) (h + frC si - frY si)
def frW (si : Nat) (a b : Int32) : Int32 := 2 * yT si + mx a b
def sFrac (N1 : FN) (i a b si cr : Nat) (t : TS) : TS := match N1 t a (yPa si) cr with
  | (c1, F1, W1, H1, D1, ro1, co1, C1, CL1) => match N1 (rsv c1, F1, W1, H1, D1, ro1, co1, C1, CL1) b (yPa si) 1 with
    | (c, F, W, H, D, ro, co, C, CL) => (c, putF (mvN (mvN F C a ((frW si (C a 0) (C b 0) - C a 0) / 2) (frU si (C a 2))) C b ((frW si (C a 0) (C b 0) - C b 0) / 2) (-(frD si (C b 1)))) c1 1 0 0 (frY si) (yT si) (frW si (C a 0) (C b 0)), W, H, D, ro, co, meas C i (frW si (C a 0) (C b 0)) (frU si (C a 2) + C a 1) (frD si (C b 1) + C b 2), CL)
def rtY (si : Nat) (h : Int32) : Int32 := h + yT si + (if si = 0 then yS si else yT si)
def rtT (si : Nat) (h d : Int32) : Int32 := yTa si (rtY si h + yT si + d)
def sRoot (N1 : FN) (i u si : Nat) : TS → TS
  | (c, F, W, H, D, ro, co, C, CL) => match N1 (rsv (rsv c), F, W, H, D, ro, co, C, CL) u si 1 with
    | (c2, F2, W2, H2, D2, ro2, co2, C2, CL2) => (c2, mvN (putF (putF F2 c 2 35 0 (rtY si (C2 u 1) + yT si - rtT si (C2 u 1) (C2 u 2)) (rtT si (C2 u 1) (C2 u 2)) (5 * yS si)) (rsv c) 1 0 (5 * yS si) (rtY si (C2 u 1)) (yT si) (C2 u 0)) C2 u (5 * yS si) 0, W2, H2, D2, ro2, co2, meas C2 i (5 * yS si + C2 u 0) (rtY si (C2 u 1) + yT si) (mx (C2 u 2) (rtT si (C2 u 1) (C2 u 2) - (rtY si (C2 u 1) + yT si))), CL2)
def htY (si : Nat) (h : Int32) : Int32 := mx 0 (h - 5 * yS si)
def sHat (N1 : FN) (i u si : Nat) (t : TS) : TS := match N1 t u si 1 with
  | (c, F, W, H, D, ro, co, C, CL) => (rsv c, putF F c 0 94 ((C u 0 - sgW 94 (yS si)) / 2) (htY si (C u 1)) (yS si) (sgW 94 (yS si)), W, H, D, ro, co, meas C i (C u 0) (mx (C u 1) (htY si (C u 1) + sgH 94 (yS si))) (C u 2), CL)
def sBar (N1 : FN) (i u si : Nat) (t : TS) : TS := match N1 t u si 1 with
  | (c, F, W, H, D, ro, co, C, CL) => (rsv c, putF F c 1 0 0 (C u 1 + yT si) (yT si) (C u 0), W, H, D, ro, co, meas C i (C u 0) (C u 1 + 3 * yT si) (C u 2), CL)
def sdT (si : Nat) (h d : Int32) : Int32 := yTa si (2 * mx (4 * yS si) (mx (h - yX si) (d + yX si)))
def sSide (L1 : FN) (i l si cr : Nat) : TS → TS
  | (c, F, W, H, D, ro, co, C, CL) => match L1 (if ¬ C i 7 = 46 then rsv c else c, F, W, H, D, ro, co, C, CL) l si cr with
    | (c2, F2, W2, H2, D2, ro2, co2, C2, CL2) =>
      (if ¬ C i 8 = 46 then rsv c2 else c2,
       (if ¬ C i 8 = 46 then fun z => putF z c2 2 (C2 i 8) ((if ¬ C i 7 = 46 then 4 * yS si else 0) + CL2 l 0) (yX si - sdT si (CL2 l 1) (CL2 l 2) / 2) (sdT si (CL2 l 1) (CL2 l 2)) (4 * yS si) else fun z => z) (mvN (if ¬ C i 7 = 46 then putF F2 c 2 (C2 i 7) 0 (yX si - sdT si (CL2 l 1) (CL2 l 2) / 2) (sdT si (CL2 l 1) (CL2 l 2)) (4 * yS si) else F2) CL2 l (if ¬ C i 7 = 46 then 4 * yS si else 0) 0),
       W2, H2, D2, ro2, co2,
       (if ¬ C i 7 = 46 ∨ ¬ C i 8 = 46 then fun z => sT (sT z i 1 (mx (CL2 l 1) (yX si + sdT si (CL2 l 1) (CL2 l 2) / 2))) i 2 (mx (CL2 l 2) (sdT si (CL2 l 1) (CL2 l 2) / 2 - yX si)) else fun z => z) (meas C2 i (if ¬ C i 8 = 46 then (if ¬ C i 7 = 46 then 4 * yS si else 0) + CL2 l 0 + 4 * yS si else (if ¬ C i 7 = 46 then 4 * yS si else 0) + CL2 l 0) (CL2 l 1) (CL2 l 2)), CL2)
/-- the grid of cells -/
abbrev GS : Type := (Nat → Int32) × (Nat → Int32) × (Nat → Int32) × Nat × Nat
def gmS (CL : Nat → Nat → Int32) : GS → Nat → GS
  | (W, H, D, ro, co), l => (upd W (ixI (CL l 7)) (mx (W (ixI (CL l 7))) (CL l 0)), upd H (ixI (CL l 6)) (mx (H (ixI (CL l 6))) (CL l 1)), upd D (ixI (CL l 6)) (mx (D (ixI (CL l 6))) (CL l 2)), Nat.max ro (ixI (CL l 6) + 1), Nat.max co (ixI (CL l 7) + 1))
def gmM (CL : Nat → Nat → Int32) (W H D : Nat → Int32) (s : Int32) (cs : List Nat) : GS := cs.foldl (gmS CL) (fiF W 0 8, fiF H (5 * s) 8, fiF D (2 * s) 8, 0, 0)
def gX (W : Nat → Int32) (CL : Nat → Nat → Int32) (s : Int32) (l : Nat) : Int32 := lfO W s (ixI (CL l 7)) + (W (ixI (CL l 7)) - CL l 0) / 2
def gY (H D : Nat → Int32) (CL : Nat → Nat → Int32) (s : Int32) (l : Nat) : Int32 := tpO H D s (ixI (CL l 6)) + H (ixI (CL l 6))
def sMat (L1 : FN) (i : Nat) (cs : List Nat) (si cr : Nat) (t : TS) : TS := match cs.foldl (fun t l => L1 t l (yCe si) cr) t with
  | (c, F, W, H, D, ro, co, C, CL) => match gmM CL W H D (yS si) cs with
    | (W2, H2, D2, ro2, co2) => (c, cs.foldl (fun F l => mvN F CL l (gX W2 CL (yS si) l) (yX si + (tpO H2 D2 (yS si) ro2 - yS si) / 2 - gY H2 D2 CL (yS si) l)) F, W2, H2, D2, nI ro2, nI co2, meas C i (lfO W2 (yS si) co2 - 4 * yS si) (yX si + (tpO H2 D2 (yS si) ro2 - yS si) / 2) (mx 0 (tpO H2 D2 (yS si) ro2 - yS si - (yX si + (tpO H2 D2 (yS si) ro2 - yS si) / 2))), CL)
/-- a nucleus -/
def sNu (R RL : Nat → Nat → Option Nat) (ch : Nat → Option Nat → List Nat) (N1 L1 : FN) (t : TS) (i si cr : Nat) : TS :=
  let t1 : TS := (t.1, t.2.1, t.2.2.1, t.2.2.2.1, t.2.2.2.2.1, t.2.2.2.2.2.1, t.2.2.2.2.2.2.1, sT t.2.2.2.2.2.2.2.1 i 3 (nI t.1), t.2.2.2.2.2.2.2.2)
  let k := (R i 5).getD 0
  let t2 : TS := if k = 0 then sChar i si t1 else if k = 1 then (R i 11).elim t1 (fun l => sGrp L1 i l si cr t1) else if k < 5 then sOper i si t1
    else if k = 5 then (R i 9).elim t1 (fun a => (R i 10).elim t1 (fun b => sFrac N1 i a b si cr t1)) else if k = 6 then (R i 9).elim t1 (fun u => sRoot N1 i u si t1)
    else if k = 7 then (R i 9).elim t1 (fun u => sHat N1 i u si t1) else if k = 8 then (R i 9).elim t1 (fun u => sBar N1 i u si t1)
    else if k = 9 then (R i 11).elim t1 (fun l => sSide L1 i l si cr t1) else sMat L1 i (ch 162 (R i 11)) si cr t1
  (t2.1, t2.2.1, t2.2.2.1, t2.2.2.2.1, t2.2.2.2.2.1, t2.2.2.2.2.2.1, t2.2.2.2.2.2.2.1, sT t2.2.2.2.2.2.2.2.1 i 4 (nI t2.1), t2.2.2.2.2.2.2.2.2)
/-- a chain by a column, at most so long -/
def chX (T : Nat → Nat → Option Nat) (q : Nat) : Nat → Option Nat → List Nat
  | 0, _ => []
  | _ + 1, none => []
  | k + 1, some i => i :: chX T q k (T i q)
/-- an item with its scripts -/
def pwW (w : Int32) (u : Option Int32) : Int32 := u.elim w (fun z => mx w z)
def sLim (R : Nat → Nat → Option Nat) (i si : Nat) : TS → TS
  | (c, F, W, H, D, ro, co, C, CL) =>
    let w := pwW (pwW (C i 0) ((R i 12).map (fun u => C u 0))) ((R i 13).map (fun l => C l 0))
    let F1 := mvN F C i ((w - C i 0) / 2) 0
    let F2 := (R i 12).elim F1 (fun u => mvN F1 C u ((w - C u 0) / 2) (C i 1 + 2 * yT si + C u 2))
    let F3 := (R i 13).elim F2 (fun l => mvN F2 C l ((w - C l 0) / 2) (-(C i 2 + 2 * yT si + C l 1)))
    (c, F3, W, H, D, ro, co, meas C i w ((R i 12).elim (C i 1) (fun u => C i 1 + 2 * yT si + C u 2 + C u 1)) ((R i 13).elim (C i 2) (fun l => C i 2 + 2 * yT si + C l 1 + C l 2)), CL)
def raO (si cr : Nat) (ud ih : Int32) : Int32 := mx ((if cr = 0 then 4 else 3) * yS si) (mx (ih - 2 * yS si) (ud + yS si))
def drO (si : Nat) (lh id : Int32) : Int32 := mx (2 * yS si) (mx (id + yS si / 2) (lh - 4 * yS si))
def drU (si : Nat) (lh id up ud : Int32) : Int32 := drO si lh id + mx 0 (4 * yT si - (up - ud - (lh - drO si lh id)))
def sScr (R : Nat → Nat → Option Nat) (i si cr : Nat) : TS → TS
  | (c, F, W, H, D, ro, co, C, CL) =>
    let up := (R i 12).elim 0 (fun u => raO si cr (C u 2) (C i 1))
    let F1 := (R i 12).elim F (fun u => mvN F C u (C i 0) up)
    let w1 := (R i 12).elim (C i 0) (fun u => mx (C i 0) (C i 0 + C u 0))
    let h1 := (R i 12).elim (C i 1) (fun u => mx (C i 1) (up + C u 1))
    let dn := fun l => (R i 12).elim (drO si (C l 1) (C i 2)) (fun u => drU si (C l 1) (C i 2) up (C u 2))
    let lx := if R i 5 = some 4 then C i 0 - yS si else C i 0
    let F2 := (R i 13).elim F1 (fun l => mvN F1 C l lx (-(dn l)))
    let w2 := (R i 13).elim w1 (fun l => mx w1 (lx + C l 0))
    let d2 := (R i 13).elim (C i 2) (fun l => mx (C i 2) (dn l + C l 2))
    (c, F2, W, H, D, ro, co, meas C i (w2 + yS si / 2) h1 d2, CL)
def sItem (R : Nat → Nat → Option Nat) (N : FN) (t : TS) (i si cr : Nat) : TS :=
  let t1 := N t i si cr
  if R i 12 = none ∧ R i 13 = none then t1 else
    let t2 := (R i 12).elim t1 (fun u => N t1 u (ySc si) cr)
    let t3 := (R i 13).elim t2 (fun l => N t2 l (ySc si) 1)
    let t4 := if si = 0 ∧ (R i 5 = some 2 ∨ R i 5 = some 3) then sLim R i si t3 else sScr R i si cr t3
    (t4.1, t4.2.1, t4.2.2.1, t4.2.2.2.1, t4.2.2.2.2.1, t4.2.2.2.2.2.1, t4.2.2.2.2.2.2.1, sT t4.2.2.2.2.2.2.2.1 i 4 (nI t4.1), t4.2.2.2.2.2.2.2.2)
/-- a line -/
def sIt (R : Nat → Nat → Option Nat) (N : FN) (j si cr : Nat) (t : TS) (bf : Option Nat) (i : Nat) : TS := match sItem R N t i si cr with
  | (c, F, W, H, D, ro, co, C, CL) =>
    let x := CL j 0 + bf.elim 0 (fun q => spB si ((R q 6).getD 0) ((R i 6).getD 0))
    (c, mvN F C i x 0, W, H, D, ro, co, C, meas CL j (x + C i 0) (mx (CL j 1) (C i 1)) (mx (CL j 2) (C i 2)))
def sIts (R : Nat → Nat → Option Nat) (N : FN) (j si cr : Nat) : Option Nat → List Nat → TS → TS
  | _, [], t => t
  | bf, i :: is, t => sIts R N j si cr (some i) is (sIt R N j si cr t bf i)
def sLi (R : Nat → Nat → Option Nat) (N : FN) (its : List Nat) (t : TS) (j si cr : Nat) : TS :=
  let t1 : TS := (t.1, t.2.1, t.2.2.1, t.2.2.2.1, t.2.2.2.2.1, t.2.2.2.2.2.1, t.2.2.2.2.2.2.1, t.2.2.2.2.2.2.2.1, meas (sT t.2.2.2.2.2.2.2.2 j 3 (nI t.1)) j 0 0 0)
  let t2 := sIts R N j si cr none its t1
  (t2.1, t2.2.1, t2.2.2.1, t2.2.2.2.1, t2.2.2.2.2.1, t2.2.2.2.2.2.1, t2.2.2.2.2.2.2.1, t2.2.2.2.2.2.2.2.1, sT t2.2.2.2.2.2.2.2.2 j 4 (nI t2.1))
/-- nuclei and lines, d levels above the deepest -/
def sN (R RL : Nat → Nat → Option Nat) : Nat → FN
  | 0 => fun t _ _ _ => t
  | d + 1 => sNu R RL (chX RL 8) (sN R RL d) (fun t j si cr => sLi R (sN R RL d) (chX R 14 61 (RL j 5)) t j si cr)
def sL (R RL : Nat → Nat → Option Nat) (d : Nat) : FN := fun t j si cr => sLi R (sN R RL d) (chX R 14 61 (RL j 5)) t j si cr
