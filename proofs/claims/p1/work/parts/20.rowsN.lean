/-! Array rows by an index that is a natural number. -/
section FN
variable {p : Program} {l : Launch} {e : Env} {R : Room} {s : State} {m : MethodId} {args : Array Value} {below : List Frame} {meth : Method} {c : Code} {H : Heap} {locs : List Loc} {cells slots : Nat} {Q : State → Prop}
variable {cc : ByteArray} {pc : Nat} {ls : Array Slot} {rest : List Value} {D : va_G} {cl : List vw_C} {b n a : Nat} {h : fh_H} {tys : List (ClassId × FieldType)}
theorem fh_zast (hexec : p.tables.exec = Jvm.exec) (hb : c.code = cc) (hK : va_K D cl tys s) (hP : fh_P D cl b h n H) (hS : va_S (fh_A b) s.heap H locs) (t0 : Nat) {cA : ClassId} {N : Nat} {f : Nat → Int32} (ha : h a = some (.inl (cA, N, .inl f))) (ht : tys[t0]? = some (cA, .boolean)) {i : Int32} {x : Int32} (hin : vp_in i N) (hdg : decode cc pc = .ok (.bastore, 1))
    (kk : ∀ (H1 : Heap) (locs1 : List Loc), fh_P D cl b (fh_up h a (.inl (cA, N, .inl (upd f i.toNatClampNeg (vp_nar .boolean x))))) n H1 → va_S (fh_A b) s.heap H1 locs1 → W p l e R s m args below meth c H1 locs1 cells slots Q (F0 m (pc + 1) ls rest)) : W p l e R s m args below meth c H locs cells slots Q (F0 m pc ls (.int x :: .int i :: .ref a :: rest)) := by
  refine W.zast hexec hb (hP.2.2.1 a _ ha).1 ((hK.2 t0 _ ht).1 N (fun j => .int (f j))) (fun q => by cases q) (by show ¬ (i < 0 ∨ (arrV _ _ _).slots.size ≤ _); rw [arrV_size]; exact hin) rfl rfl hdg fun H1 e z oq => ?_
  refine kk H1 _ (hP.put ha z oq ?_) (hS.put z oq (hP.2.2.1 a _ ha).2)
  show H1[a]? = some (vp_cell _ _)
  rw [e]
  rw [vp_cell_i, vp_cell_i, arrV_store]
  congr 2
  funext q
  by_cases hq : q = i.toNatClampNeg
  · subst hq
    simp [updV, upd, vp_nar]
    try rfl
  · simp [updV, upd, hq]
theorem fn_iald (hexec : p.tables.exec = Jvm.exec) (hb : c.code = cc) (hK : va_K D cl tys s) (hP : fh_P D cl b h n H) (t0 : Nat) {cA : ClassId} {N k : Nat} {f : Nat → Int32} (ha : h a = some (.inl (cA, N, .inl f))) (ht : tys[t0]? = some (cA, .int)) {i : Int32} (hi : i = nI k) (hk : k < N) (hN : N < 2 ^ 31) (hdg : decode cc pc = .ok (.iaload, 1))
    (kk : W p l e R s m args below meth c H locs cells slots Q (F0 m (pc + 1) ls (.int (f k) :: rest))) : W p l e R s m args below meth c H locs cells slots Q (F0 m pc ls (.int i :: .ref a :: rest)) := by
  subst hi
  refine fh_iald hexec hb hK hP t0 ha ht (vp_in_nI hk hN) hdg ?_
  rw [nI_clamp (Nat.lt_trans hk hN)]
  exact kk
theorem fn_cald (hexec : p.tables.exec = Jvm.exec) (hb : c.code = cc) (hK : va_K D cl tys s) (hP : fh_P D cl b h n H) (t0 : Nat) {cA : ClassId} {N k : Nat} {f : Nat → Int32} (ha : h a = some (.inl (cA, N, .inl f))) (ht : tys[t0]? = some (cA, .char)) {i : Int32} (hi : i = nI k) (hk : k < N) (hN : N < 2 ^ 31) (hdg : decode cc pc = .ok (.caload, 1))
    (kk : W p l e R s m args below meth c H locs cells slots Q (F0 m (pc + 1) ls (.int (f k) :: rest))) : W p l e R s m args below meth c H locs cells slots Q (F0 m pc ls (.int i :: .ref a :: rest)) := by
  subst hi
  refine fh_cald hexec hb hK hP t0 ha ht (vp_in_nI hk hN) hdg ?_
  rw [nI_clamp (Nat.lt_trans hk hN)]
  exact kk
theorem fn_zald (hexec : p.tables.exec = Jvm.exec) (hb : c.code = cc) (hK : va_K D cl tys s) (hP : fh_P D cl b h n H) (t0 : Nat) {cA : ClassId} {N k : Nat} {f : Nat → Int32} (ha : h a = some (.inl (cA, N, .inl f))) (ht : tys[t0]? = some (cA, .boolean)) {i : Int32} (hi : i = nI k) (hk : k < N) (hN : N < 2 ^ 31) (hdg : decode cc pc = .ok (.baload, 1))
    (kk : W p l e R s m args below meth c H locs cells slots Q (F0 m (pc + 1) ls (.int (f k) :: rest))) : W p l e R s m args below meth c H locs cells slots Q (F0 m pc ls (.int i :: .ref a :: rest)) := by
  subst hi
  refine fh_zald hexec hb hK hP t0 ha ht (vp_in_nI hk hN) hdg ?_
  rw [nI_clamp (Nat.lt_trans hk hN)]
  exact kk
theorem fn_iast (hexec : p.tables.exec = Jvm.exec) (hb : c.code = cc) (hK : va_K D cl tys s) (hP : fh_P D cl b h n H) (hS : va_S (fh_A b) s.heap H locs) (t0 : Nat) {cA : ClassId} {N k : Nat} {f : Nat → Int32} (ha : h a = some (.inl (cA, N, .inl f))) (ht : tys[t0]? = some (cA, .int)) {i : Int32} {x : Int32} (hi : i = nI k) (hk : k < N) (hN : N < 2 ^ 31) (hdg : decode cc pc = .ok (.iastore, 1))
    (kk : ∀ (H1 : Heap) (locs1 : List Loc), fh_P D cl b (fh_up h a (.inl (cA, N, .inl (upd f k x)))) n H1 → va_S (fh_A b) s.heap H1 locs1 → W p l e R s m args below meth c H1 locs1 cells slots Q (F0 m (pc + 1) ls rest)) : W p l e R s m args below meth c H locs cells slots Q (F0 m pc ls (.int x :: .int i :: .ref a :: rest)) := by
  subst hi
  refine fh_iast hexec hb hK hP hS t0 ha ht (vp_in_nI hk hN) hdg ?_
  rw [nI_clamp (Nat.lt_trans hk hN)]
  exact kk
/-- a boolean is stored that is 0 or 1 -/
theorem fn_zast (hexec : p.tables.exec = Jvm.exec) (hb : c.code = cc) (hK : va_K D cl tys s) (hP : fh_P D cl b h n H) (hS : va_S (fh_A b) s.heap H locs) (t0 : Nat) {cA : ClassId} {N k : Nat} {f : Nat → Int32} (ha : h a = some (.inl (cA, N, .inl f))) (ht : tys[t0]? = some (cA, .boolean)) {i : Int32} {x : Int32} (hi : i = nI k) (hk : k < N) (hN : N < 2 ^ 31) (hx : vp_nar .boolean x = x) (hdg : decode cc pc = .ok (.bastore, 1))
    (kk : ∀ (H1 : Heap) (locs1 : List Loc), fh_P D cl b (fh_up h a (.inl (cA, N, .inl (upd f k x)))) n H1 → va_S (fh_A b) s.heap H1 locs1 → W p l e R s m args below meth c H1 locs1 cells slots Q (F0 m (pc + 1) ls rest)) : W p l e R s m args below meth c H locs cells slots Q (F0 m pc ls (.int x :: .int i :: .ref a :: rest)) := by
  subst hi
  refine fh_zast hexec hb hK hP hS t0 ha ht (vp_in_nI hk hN) hdg ?_
  rw [nI_clamp (Nat.lt_trans hk hN), hx]
  exact kk
end FN
