/-! The Typesetter's memory as one function. Printed by wip/whole/gen/p58.py -/
/-- Typesetter, Sheet and Grid of the FormulaSetter at x; all else is g -/
def mkG (ct : Nat → ClassId) (x : Nat) (g : fh_H) (cnt : Int32) (F : Nat → Int32) (W0 : Nat → Int32) (H0 : Nat → Int32) (D0 : Nat → Int32) (rows : Int32) (cols : Int32) : fh_H := fun q => if q = x + 226 then some (.inr (4, [.ref (x + 227), .ref (x + 229)])) else if q = x + 227 then some (.inr (5, [.ref (x + 228), .int cnt])) else if q = x + 228 then some (.inl (ct 0, 720, .inl F)) else if q = x + 229 then some (.inr (6, [.ref (x + 230), .ref (x + 231), .ref (x + 232), .int rows, .int cols])) else if q = x + 230 then some (.inl (ct 0, 8, .inl W0)) else if q = x + 231 then some (.inl (ct 0, 8, .inl H0)) else if q = x + 232 then some (.inl (ct 0, 8, .inl D0)) else g q
theorem mkG_ts {ct : Nat → ClassId} {x : Nat} {g : fh_H} {cnt : Int32} {F : Nat → Int32} {W0 : Nat → Int32} {H0 : Nat → Int32} {D0 : Nat → Int32} {rows : Int32} {cols : Int32} : mkG ct x g cnt F W0 H0 D0 rows cols (x + 226) = some (.inr (4, [.ref (x + 227), .ref (x + 229)])) := by
  unfold mkG
  rw [if_pos rfl]
theorem mkG_sh {ct : Nat → ClassId} {x : Nat} {g : fh_H} {cnt : Int32} {F : Nat → Int32} {W0 : Nat → Int32} {H0 : Nat → Int32} {D0 : Nat → Int32} {rows : Int32} {cols : Int32} : mkG ct x g cnt F W0 H0 D0 rows cols (x + 227) = some (.inr (5, [.ref (x + 228), .int cnt])) := by
  unfold mkG
  rw [if_neg (by omega), if_pos rfl]
theorem mkG_fa {ct : Nat → ClassId} {x : Nat} {g : fh_H} {cnt : Int32} {F : Nat → Int32} {W0 : Nat → Int32} {H0 : Nat → Int32} {D0 : Nat → Int32} {rows : Int32} {cols : Int32} : mkG ct x g cnt F W0 H0 D0 rows cols (x + 228) = some (.inl (ct 0, 720, .inl F)) := by
  unfold mkG
  rw [if_neg (by omega), if_neg (by omega), if_pos rfl]
theorem mkG_gr {ct : Nat → ClassId} {x : Nat} {g : fh_H} {cnt : Int32} {F : Nat → Int32} {W0 : Nat → Int32} {H0 : Nat → Int32} {D0 : Nat → Int32} {rows : Int32} {cols : Int32} : mkG ct x g cnt F W0 H0 D0 rows cols (x + 229) = some (.inr (6, [.ref (x + 230), .ref (x + 231), .ref (x + 232), .int rows, .int cols])) := by
  unfold mkG
  rw [if_neg (by omega), if_neg (by omega), if_neg (by omega), if_pos rfl]
theorem mkG_gw {ct : Nat → ClassId} {x : Nat} {g : fh_H} {cnt : Int32} {F : Nat → Int32} {W0 : Nat → Int32} {H0 : Nat → Int32} {D0 : Nat → Int32} {rows : Int32} {cols : Int32} : mkG ct x g cnt F W0 H0 D0 rows cols (x + 230) = some (.inl (ct 0, 8, .inl W0)) := by
  unfold mkG
  rw [if_neg (by omega), if_neg (by omega), if_neg (by omega), if_neg (by omega), if_pos rfl]
theorem mkG_gh {ct : Nat → ClassId} {x : Nat} {g : fh_H} {cnt : Int32} {F : Nat → Int32} {W0 : Nat → Int32} {H0 : Nat → Int32} {D0 : Nat → Int32} {rows : Int32} {cols : Int32} : mkG ct x g cnt F W0 H0 D0 rows cols (x + 231) = some (.inl (ct 0, 8, .inl H0)) := by
  unfold mkG
  rw [if_neg (by omega), if_neg (by omega), if_neg (by omega), if_neg (by omega), if_neg (by omega), if_pos rfl]
theorem mkG_gd {ct : Nat → ClassId} {x : Nat} {g : fh_H} {cnt : Int32} {F : Nat → Int32} {W0 : Nat → Int32} {H0 : Nat → Int32} {D0 : Nat → Int32} {rows : Int32} {cols : Int32} : mkG ct x g cnt F W0 H0 D0 rows cols (x + 232) = some (.inl (ct 0, 8, .inl D0)) := by
  unfold mkG
  rw [if_neg (by omega), if_neg (by omega), if_neg (by omega), if_neg (by omega), if_neg (by omega), if_neg (by omega), if_pos rfl]
theorem mkG_g {ct : Nat → ClassId} {x : Nat} {g : fh_H} {cnt : Int32} {F : Nat → Int32} {W0 : Nat → Int32} {H0 : Nat → Int32} {D0 : Nat → Int32} {rows : Int32} {cols : Int32} {q : Nat} (h : ¬ (x + 226 ≤ q ∧ q < x + 233)) : mkG ct x g cnt F W0 H0 D0 rows cols q = g q := by
  unfold mkG
  rw [if_neg (by omega), if_neg (by omega), if_neg (by omega), if_neg (by omega), if_neg (by omega), if_neg (by omega), if_neg (by omega)]
theorem mkG_ush {ct : Nat → ClassId} {x : Nat} {g : fh_H} {cnt : Int32} {F : Nat → Int32} {W0 : Nat → Int32} {H0 : Nat → Int32} {D0 : Nat → Int32} {rows : Int32} {cols : Int32} {cnt' : Int32} : fh_up (mkG ct x g cnt F W0 H0 D0 rows cols) (x + 227) (.inr (5, [.ref (x + 228), .int cnt'])) = mkG ct x g cnt' F W0 H0 D0 rows cols := by
  funext q
  by_cases h : q = x + 227
  · subst h; rw [fh_up_same, mkG_sh]
  · rw [fh_up_ne h]; unfold mkG
    simp only [if_neg h]
theorem mkG_ufa {ct : Nat → ClassId} {x : Nat} {g : fh_H} {cnt : Int32} {F : Nat → Int32} {W0 : Nat → Int32} {H0 : Nat → Int32} {D0 : Nat → Int32} {rows : Int32} {cols : Int32} {F' : Nat → Int32} : fh_up (mkG ct x g cnt F W0 H0 D0 rows cols) (x + 228) (.inl (ct 0, 720, .inl F')) = mkG ct x g cnt F' W0 H0 D0 rows cols := by
  funext q
  by_cases h : q = x + 228
  · subst h; rw [fh_up_same, mkG_fa]
  · rw [fh_up_ne h]; unfold mkG
    simp only [if_neg h]
theorem mkG_ugr {ct : Nat → ClassId} {x : Nat} {g : fh_H} {cnt : Int32} {F : Nat → Int32} {W0 : Nat → Int32} {H0 : Nat → Int32} {D0 : Nat → Int32} {rows : Int32} {cols : Int32} {rows' : Int32} {cols' : Int32} : fh_up (mkG ct x g cnt F W0 H0 D0 rows cols) (x + 229) (.inr (6, [.ref (x + 230), .ref (x + 231), .ref (x + 232), .int rows', .int cols'])) = mkG ct x g cnt F W0 H0 D0 rows' cols' := by
  funext q
  by_cases h : q = x + 229
  · subst h; rw [fh_up_same, mkG_gr]
  · rw [fh_up_ne h]; unfold mkG
    simp only [if_neg h]
theorem mkG_ugw {ct : Nat → ClassId} {x : Nat} {g : fh_H} {cnt : Int32} {F : Nat → Int32} {W0 : Nat → Int32} {H0 : Nat → Int32} {D0 : Nat → Int32} {rows : Int32} {cols : Int32} {W0' : Nat → Int32} : fh_up (mkG ct x g cnt F W0 H0 D0 rows cols) (x + 230) (.inl (ct 0, 8, .inl W0')) = mkG ct x g cnt F W0' H0 D0 rows cols := by
  funext q
  by_cases h : q = x + 230
  · subst h; rw [fh_up_same, mkG_gw]
  · rw [fh_up_ne h]; unfold mkG
    simp only [if_neg h]
theorem mkG_ugh {ct : Nat → ClassId} {x : Nat} {g : fh_H} {cnt : Int32} {F : Nat → Int32} {W0 : Nat → Int32} {H0 : Nat → Int32} {D0 : Nat → Int32} {rows : Int32} {cols : Int32} {H0' : Nat → Int32} : fh_up (mkG ct x g cnt F W0 H0 D0 rows cols) (x + 231) (.inl (ct 0, 8, .inl H0')) = mkG ct x g cnt F W0 H0' D0 rows cols := by
  funext q
  by_cases h : q = x + 231
  · subst h; rw [fh_up_same, mkG_gh]
  · rw [fh_up_ne h]; unfold mkG
    simp only [if_neg h]
theorem mkG_ugd {ct : Nat → ClassId} {x : Nat} {g : fh_H} {cnt : Int32} {F : Nat → Int32} {W0 : Nat → Int32} {H0 : Nat → Int32} {D0 : Nat → Int32} {rows : Int32} {cols : Int32} {D0' : Nat → Int32} : fh_up (mkG ct x g cnt F W0 H0 D0 rows cols) (x + 232) (.inl (ct 0, 8, .inl D0')) = mkG ct x g cnt F W0 H0 D0' rows cols := by
  funext q
  by_cases h : q = x + 232
  · subst h; rw [fh_up_same, mkG_gd]
  · rw [fh_up_ne h]; unfold mkG
    simp only [if_neg h]
theorem mkR_up {x : Nat} {kA aA : Nat → Nat} {G : fh_H} {nc lc : Int32} {tx : Value} {len at_ : Int32} {C : Nat → Nat → Int32} {R : Nat → Nat → Option Nat} {CL : Nat → Nat → Int32} {RL : Nat → Nat → Option Nat} {q : Nat} {v : va_E} (h1 : q ≠ x + 2) (h2 : ¬ (x + 4 ≤ q ∧ q < x + 64)) (h3 : ¬ (x + 65 ≤ q ∧ q < x + 226)) : fh_up (mkR x kA aA G nc lc tx len at_ C R CL RL) q v = mkR x kA aA (fh_up G q v) nc lc tx len at_ C R CL RL := by
  funext z
  by_cases h : z = q
  · subst h; rw [fh_up_same, mkR_g h1 h2 h3, fh_up_same]
  · rw [fh_up_ne h]; unfold mkR; rw [fh_up_ne h]
/-- what a new FormulaSetter's Typesetter holds -/
theorem fs_1_mkG (ct : Nat → ClassId) (x : Nat) (h : fh_H) : fs_1 ct x h = mkG ct x (fs_1 ct x h) 0 (fun _ => 0) (fun _ => 0) (fun _ => 0) (fun _ => 0) 0 0 := by
  funext q
  by_cases hq : x + 226 ≤ q ∧ q < x + 233
  · have e : fs_1 ct x h q = ty_1 ct (x + 226) (fun _ => none) q := by
      unfold fs_1
      rw [if_neg (by omega), if_neg (by omega), if_neg (by omega), if_pos hq]
    rw [e]
    obtain ⟨k, rfl⟩ : ∃ k, q = x + 226 + k := ⟨q - (x + 226), by omega⟩
    rcases (by omega : k = 0 ∨ k = 1 ∨ k = 2 ∨ k = 3 ∨ k = 4 ∨ k = 5 ∨ k = 6) with rfl | rfl | rfl | rfl | rfl | rfl | rfl
    · refine Eq.trans ?_ mkG_ts.symm; unfold ty_1; rw [if_pos (by omega)]
    · refine Eq.trans ?_ mkG_sh.symm; unfold ty_1; rw [if_neg (by omega), if_pos (by omega)]
    · refine Eq.trans ?_ mkG_fa.symm; unfold ty_1; rw [if_neg (by omega), if_neg (by omega), if_pos (by omega)]
    · refine Eq.trans ?_ mkG_gr.symm; unfold ty_1; rw [if_neg (by omega), if_neg (by omega), if_neg (by omega), if_pos (by omega)]
    · refine Eq.trans ?_ mkG_gw.symm; unfold ty_1; rw [if_neg (by omega), if_neg (by omega), if_neg (by omega), if_neg (by omega), if_pos (by omega)]
    · refine Eq.trans ?_ mkG_gh.symm; unfold ty_1; rw [if_neg (by omega), if_neg (by omega), if_neg (by omega), if_neg (by omega), if_pos (by omega)]
    · refine Eq.trans ?_ mkG_gd.symm; unfold ty_1; rw [if_neg (by omega), if_neg (by omega), if_neg (by omega), if_neg (by omega), if_pos (by omega)]
  · rw [mkG_g hq]
