/-! The law: what its walk stands on. The first rows are the skeleton's. Printed by wip/whole/gen/p76.py -/
/-! THE CLAIM OUT OF ONE WALK OF THE LAW'S BODY. Your part is whole_start (and what it stands on); all else here is the same for every law, but numbers. -/
def R_law : String := "FormulaSetterLaw"
def lw_P (b : Addr) (xs : List Int32) (args : Array Value) (s : State) : Prop := args = #[.ref b] ∧ s.IntsAt b xs ∧ xs.length ≤ 4 ∧ (Jvm.Cond.and given_1 narrow_1).before args s = true
def lw_Q (_ : Array Value) (s : State) (o : Outcome) (t : State) : Prop := o = .returned (some (.int 1)) ∧ Framed s o t [] 600002 7302232
def lw_Z (below : List Frame) (a : Array Value) (s : State) : State → Prop := fun t => ∃ o, t.status = .running ∧ Ended t below o ∧ lw_Q a s o t
/-- the law's own end, with 1 on the stack, nothing written that was there before, its room as the claim has it -/
theorem lw_ret {p : Program} {l : Launch} {e : Env} {s : State} {m : MethodId} {below : List Frame} {meth : Method} {c : Code} {b : Nat} (hx : p.tables.exec = Jvm.exec) (hb : c.code = code) (hr : meth.sig.returnType = ret) (hlocks : meth.locks = false) {pc : Nat} {H : Heap} {ls : Array Slot} (hdg : decode code pc = .ok (.ireturn, 1)) : W p l e room_1 s m #[Value.ref b] below meth c H [] 600002 7302232 (lw_Z below #[Value.ref b] s) (F0 m pc ls [.int 1]) := by
  intro T hT X
  obtain ⟨fs, hret, hrun, hended, hW, hframe⟩ := X.leave (v := some (.int 1)) (hlocks := hlocks) (fun h => by rw [hr] at h; cases h)
  have hmeth' : T.vm.method? m = some meth := X.method'
  refine ⟨T.setFrames fs, ?_, .returned (some (.int 1)), hrun, hended, rfl, ⟨_, rfl⟩, hW, hframe⟩
  jvm_step X.here [X.here.top, hx, hb, hdg, hmeth', hr, ret, narrow_b1]
  (try refine ⟨rfl, ?_⟩); (try refine ⟨rfl, ?_⟩)
  first | (intro acts; rw [hret _ acts rfl rfl rfl]) | rw [hret _ _ rfl rfl rfl]
  exact Steps.refl _
/-- what holds at the law's entry: the machine, the code, the tables' words (any of lw_tbl by 'hts w (by decide +kernel)'), the script of L ints xs at the cell b, what the Statement gives of the start (any of its parts by flat_of_before) -/
def lw_At (p : Program) (s : State) (m : MethodId) (meth : Method) (c : Code) (b L : Nat) (xs : Nat → Int32) : Prop :=
  p.tables.exec = Jvm.exec ∧ c.code = code ∧ meth.sig.returnType = ret ∧ c.maxLocals = 7 ∧ s.vm.findClass R_law = some m.cls ∧ (∀ w ∈ lw_tbl, w.before #[Value.ref b] s = true) ∧ va_X b L xs s s.heap ∧ b < s.heap.size ∧ meth.locks = false ∧ (Jvm.Cond.and given_1 narrow_1).before #[Value.ref b] s = true
theorem law_ret {R : Room} {p : Program} {l : Launch} {e : Env} {s : State} {m : MethodId} {below : List Frame} {meth : Method} {c : Code} {b : Nat} (hx : p.tables.exec = Jvm.exec) (hb : c.code = code) (hr : meth.sig.returnType = ret) (hlocks : meth.locks = false) {pc : Nat} {H : Heap} {ls : Array Slot} (hdg : decode code pc = .ok (.ireturn, 1)) : W p l e R s m #[Value.ref b] below meth c H [] 600002 7302232 (lw_Z below #[Value.ref b] s) (F0 m pc ls [.int 1]) := by
  intro T hT X
  obtain ⟨fs, hret, hrun, hended, hW, hframe⟩ := X.leave (v := some (.int 1)) (hlocks := hlocks) (fun h => by rw [hr] at h; cases h)
  have hmeth' : T.vm.method? m = some meth := X.method'
  refine ⟨T.setFrames fs, ?_, .returned (some (.int 1)), hrun, hended, rfl, ⟨_, rfl⟩, hW, hframe⟩
  jvm_step X.here [X.here.top, hx, hb, hdg, hmeth', hr, ret, narrow_b1]
  (try refine ⟨rfl, ?_⟩); (try refine ⟨rfl, ?_⟩)
  first | (intro acts; rw [hret _ acts rfl rfl rfl]) | rw [hret _ _ rfl rfl rfl]
  exact Steps.refl _
theorem fh_Tsub {w : Cond} (h : w ∈ fh_T) : w ∈ lw_tbl := (List.mem_filter.mp h).1
theorem arr_K {args : Array Value} {s : State} {ty : FieldType} (h : (Cond.arrayClass ty).before args s = true) : ∃ cA : ClassId, ArrOfT s cA ty ∧ s.vm.findClass ("[" ++ ty.toString) = some cA := by
  obtain ⟨c, k, comp, h1, h2, h3⟩ := Cond.arrayClass_spec h
  exact ⟨c, fun n z => ⟨fun k h => (by cases h), k, h2, comp, h3⟩, h1⟩
theorem arr_KO {args : Array Value} {s : State} {C : String} (h : (Cond.arrayOver (.object C)).before args s = true) : ∃ cA : ClassId, ArrOfT s cA (.object C) ∧ va_RA s cA (.object C) := by
  obtain ⟨comp, c, k, h1, h2, h3, h4, h5⟩ := Cond.arrayOver_spec h
  exact ⟨c, fun n z => ⟨fun k h => (by cases h), k, h3, comp, h4⟩, k, comp, h3, h4, h1, h5⟩
theorem st_K {args : Array Value} {s : State} (hts : ∀ w ∈ lw_tbl, w.before args s = true) : ∃ (D : va_G) (ct : Nat → ClassId), va_K D fh_cl (fh_tys ct) s := by
  have hT : ∀ w ∈ fh_T, w.before args s = true := fun w h => hts w (fh_Tsub h)
  obtain ⟨c0, i0, k0⟩ := u_known (T := T_FS) (N := 7) (n := 7) hT i_FS (hts _ (List.mem_append_right _ (List.mem_of_getElem? (i := 28) (by decide +kernel))))
  obtain ⟨c1, i1, k1⟩ := u_known (T := T_Rd) (N := 7) (n := 7) hT i_Rd (hts _ (List.mem_append_right _ (List.mem_of_getElem? (i := 36) (by decide +kernel))))
  obtain ⟨c2, i2, k2⟩ := u_known (T := T_Nu) (N := 15) (n := 15) hT i_Nu (hts _ (List.mem_append_right _ (List.mem_of_getElem? (i := 43) (by decide +kernel))))
  obtain ⟨c3, i3, k3⟩ := u_known (T := T_Li) (N := 9) (n := 9) hT i_Li (hts _ (List.mem_append_right _ (List.mem_of_getElem? (i := 148) (by decide +kernel))))
  obtain ⟨c4, i4, k4⟩ := u_known (T := T_Ty) (N := 2) (n := 2) hT i_Ty (hts _ (List.mem_append_right _ (List.mem_of_getElem? (i := 203) (by decide +kernel))))
  obtain ⟨c5, i5, k5⟩ := u_known (T := T_Sh) (N := 2) (n := 2) hT i_Sh (hts _ (List.mem_append_right _ (List.mem_of_getElem? (i := 209) (by decide +kernel))))
  obtain ⟨c6, i6, k6⟩ := u_known (T := T_Gr) (N := 5) (n := 5) hT i_Gr (hts _ (List.mem_append_right _ (List.mem_of_getElem? (i := 226) (by decide +kernel))))
  obtain ⟨c7, i7, k7⟩ := u_known (T := T_Mo) (N := 53) (n := 53) hT i_Mo (hts _ (List.mem_append_right _ (List.mem_of_getElem? (i := 855) (by decide +kernel))))
  obtain ⟨a0, p0, q0⟩ := arr_K (ty := .int) (hts _ (List.mem_append_right _ (List.mem_of_getElem? (i := 224) (by decide +kernel))))
  obtain ⟨a1, p1, q1⟩ := arr_K (ty := .char) (hts _ (List.mem_append_right _ (List.mem_of_getElem? (i := 145) (by decide +kernel))))
  obtain ⟨a2, p2, q2⟩ := arr_K (ty := .long) (hts _ (List.mem_append_right _ (List.mem_of_getElem? (i := 1239) (by decide +kernel))))
  obtain ⟨a3, p3, q3⟩ := arr_K (ty := .boolean) (hts _ (List.mem_append_right _ (List.mem_of_getElem? (i := 1020) (by decide +kernel))))
  obtain ⟨a4, p4, q4⟩ := arr_KO (C := "FormulaSetter$Nucleus") (hts _ (List.mem_append_right _ (List.mem_of_getElem? (i := 42) (by decide +kernel))))
  obtain ⟨a5, p5, q5⟩ := arr_KO (C := "FormulaSetter$Line") (hts _ (List.mem_append_right _ (List.mem_of_getElem? (i := 147) (by decide +kernel))))
  refine ⟨(fun c => [c0, c1, c2, c3, c4, c5, c6, c7].getD c 0, fun c => [i0, i1, i2, i3, i4, i5, i6, i7].getD c (fun _ => 0)), fun k => [a0, a1, a2, a3, a4, a5].getD k 0, fun c q hq => ?_, fun k q hk => ?_⟩
  · have hc : c < 8 := (List.getElem?_eq_some_iff.mp hq).1
    rcases (by omega : c = 0 ∨ c = 1 ∨ c = 2 ∨ c = 3 ∨ c = 4 ∨ c = 5 ∨ c = 6 ∨ c = 7) with rfl | rfl | rfl | rfl | rfl | rfl | rfl | rfl
    · cases hq; exact k0
    · cases hq; exact k1
    · cases hq; exact k2
    · cases hq; exact k3
    · cases hq; exact k4
    · cases hq; exact k5
    · cases hq; exact k6
    · cases hq; exact k7
  · have hc : k < 6 := (List.getElem?_eq_some_iff.mp hk).1
    rcases (by omega : k = 0 ∨ k = 1 ∨ k = 2 ∨ k = 3 ∨ k = 4 ∨ k = 5) with rfl | rfl | rfl | rfl | rfl | rfl
    · cases hk; exact ⟨p0, q0⟩
    · cases hk; exact ⟨p1, q1⟩
    · cases hk; exact ⟨p2, q2⟩
    · cases hk; exact ⟨p3, q3⟩
    · cases hk; exact ⟨p4, q4⟩
    · cases hk; exact ⟨p5, q5⟩
theorem fh_less {p : Program} {l : Launch} {e : Env} {R R' : Room} {s : State} {m : MethodId} {args : Array Value} {below : List Frame} {meth : Method} {c : Code} {H : Heap} {locs : List Loc} {cells slots : Nat} {Q : State → Prop} {g : JFrame} (h1 : R'.frames ≤ R.frames) (h2 : R'.locals ≤ R.locals) (h3 : R'.cells ≤ R.cells) (h4 : R'.slots ≤ R.slots) (k : W p l e R' s m args below meth c H locs cells slots Q g) : W p l e R s m args below meth c H locs cells slots Q g := fun T hT X => k T hT { X with room := fx_room (s := s) (r := R) X.room rfl (by omega) (by omega) (by omega) (by omega) (fx_book X.room) }
section LSC
variable {p : Program} {l : Launch} {e : Env} {R : Room} {s : State} {m : MethodId} {args : Array Value} {below : List Frame} {meth : Method} {c : Code} {H : Heap} {locs : List Loc} {cells slots : Nat} {Q : State → Prop}
variable {cc : ByteArray} {pc : Nat} {ls : Array Slot} {rest : List Value} {A : Nat → Prop} {H0 : Heap}
/-- a place of the script -/
theorem law_sld (hexec : p.tables.exec = Jvm.exec) (hb : c.code = cc) {b L : Nat} {xs : Nat → Int32} (hX : va_X b L xs s H0) (hbl : b < H0.size) (hbA : ¬ A b) (hS : va_S A H0 H locs) {i : Int32} {k : Nat} (hi : i = nI k) (hk : k < L) (hL : L < 2 ^ 31) (hdg : decode cc pc = .ok (.iaload, 1))
    (kk : W p l e R s m args below meth c H locs cells slots Q (F0 m (pc + 1) ls (.int (xs k) :: rest))) : W p l e R s m args below meth c H locs cells slots Q (F0 m pc ls (.int i :: .ref b :: rest)) := by
  subst hi
  refine va_sld hexec hb hX hbl hbA hS (vp_in_nI hk hL) hdg ?_
  rw [nI_clamp (Nat.lt_trans hk hL)]
  exact kk
end LSC
theorem law_gt {L i : Nat} (hL : L ≤ 3000) (hi : i ≤ 3000) : (nI L - 4 < nI i) ↔ L < i + 4 := by
  have h1 : (nI L).toInt = (L : Int) := nI_toInt (by omega)
  have h2 : (nI i).toInt = (i : Int) := nI_toInt (by omega)
  have h3 : (nI L - 4).toInt = (L : Int) - 4 := by
    rw [Int32.toInt_sub, h1, show (4 : Int32).toInt = 4 from rfl]
    exact Int.bmod_eq_of_le (by omega) (by omega)
  rw [Int32.lt_iff_toInt_lt, h2, h3]
  omega
theorem law_cmp {x y : Int64} (h : x = y) : lg_cmp x y = 0 := by
  subst h
  unfold lg_cmp
  rw [if_neg (by simp), if_pos rfl]
/-- type of both sides: the same answer -/
def sp_type (l : Launch) (D : va_G) (ct : Nat → ClassId) (B : Nat) (RO : State → Prop) (c0 : Int64) (k0 : Int32) (h : fh_H) (n : Nat) (Post : fh_H → Nat → Prop) : Prop := ∃ P1 : Int32 → fh_H → Nat → Prop, fh_C l D fh_cl (fh_tys ct) B RO y_FS_type (Cond.code y_FS_type c_FS_type 6 (Option.some FieldType.int) :: fh_T) (fh_rm 1300 0 0) [.ref B, .long c0, .int k0] h n (fun v h' n' => ∃ w, v = some (.int w) ∧ P1 w h' n') 0 0 ∧ ∀ w h' n', P1 w h' n' → (∃ fs, h' (B + 233) = some (.inr (7, fs))) ∧ fh_C l D fh_cl (fh_tys ct) B RO y_Mo_type (Cond.code y_Mo_type c_Mo_type 7 (Option.some FieldType.int) :: fh_T) (fh_rm 1300 0 0) [.ref (B + 233), .long c0, .int k0] h' n' (fun v h'' n'' => v = some (.int w) ∧ Post h'' n'') 0 0
/-- wipe of both sides: the same answer -/
def sp_wipe (l : Launch) (D : va_G) (ct : Nat → ClassId) (B : Nat) (RO : State → Prop) (h : fh_H) (n : Nat) (Post : fh_H → Nat → Prop) : Prop := ∃ P1 : Int32 → fh_H → Nat → Prop, fh_C l D fh_cl (fh_tys ct) B RO y_FS_wipe (Cond.code y_FS_wipe c_FS_wipe 2 (Option.some FieldType.int) :: fh_T) (fh_rm 1300 0 0) [.ref B] h n (fun v h' n' => ∃ w, v = some (.int w) ∧ P1 w h' n') 0 0 ∧ ∀ w h' n', P1 w h' n' → (∃ fs, h' (B + 233) = some (.inr (7, fs))) ∧ fh_C l D fh_cl (fh_tys ct) B RO y_Mo_wipe (Cond.code y_Mo_wipe c_Mo_wipe 2 (Option.some FieldType.int) :: fh_T) (fh_rm 1300 0 0) [.ref (B + 233)] h' n' (fun v h'' n'' => v = some (.int w) ∧ Post h'' n'') 0 0
/-- isFormula of both sides: the same answer -/
def sp_isFormula (l : Launch) (D : va_G) (ct : Nat → ClassId) (B : Nat) (RO : State → Prop) (h : fh_H) (n : Nat) (Post : fh_H → Nat → Prop) : Prop := ∃ P1 : Int32 → fh_H → Nat → Prop, fh_C l D fh_cl (fh_tys ct) B RO y_FS_isFormula (Cond.code y_FS_isFormula c_FS_isFormula 1 (Option.some FieldType.boolean) :: fh_T) (fh_rm 1300 0 0) [.ref B] h n (fun v h' n' => ∃ w, v = some (.int w) ∧ P1 w h' n') 0 0 ∧ ∀ w h' n', P1 w h' n' → (∃ fs, h' (B + 233) = some (.inr (7, fs))) ∧ fh_C l D fh_cl (fh_tys ct) B RO y_Mo_isFormula (Cond.code y_Mo_isFormula c_Mo_isFormula 1 (Option.some FieldType.boolean) :: fh_T) (fh_rm 1300 0 0) [.ref (B + 233)] h' n' (fun v h'' n'' => v = some (.int w) ∧ Post h'' n'') 0 0
/-- pieces of both sides: the same answer -/
def sp_pieces (l : Launch) (D : va_G) (ct : Nat → ClassId) (B : Nat) (RO : State → Prop) (h : fh_H) (n : Nat) (Post : fh_H → Nat → Prop) : Prop := ∃ P1 : Int32 → fh_H → Nat → Prop, fh_C l D fh_cl (fh_tys ct) B RO y_FS_pieces (Cond.code y_FS_pieces c_FS_pieces 1 (Option.some FieldType.int) :: fh_T) (fh_rm 1300 0 0) [.ref B] h n (fun v h' n' => ∃ w, v = some (.int w) ∧ P1 w h' n') 0 0 ∧ ∀ w h' n', P1 w h' n' → (∃ fs, h' (B + 233) = some (.inr (7, fs))) ∧ fh_C l D fh_cl (fh_tys ct) B RO y_Mo_pieces (Cond.code y_Mo_pieces c_Mo_pieces 1 (Option.some FieldType.int) :: fh_T) (fh_rm 1300 0 0) [.ref (B + 233)] h' n' (fun v h'' n'' => v = some (.int w) ∧ Post h'' n'') 0 0
/-- width of both sides: the same answer -/
def sp_width (l : Launch) (D : va_G) (ct : Nat → ClassId) (B : Nat) (RO : State → Prop) (h : fh_H) (n : Nat) (Post : fh_H → Nat → Prop) : Prop := ∃ P1 : Int32 → fh_H → Nat → Prop, fh_C l D fh_cl (fh_tys ct) B RO y_FS_width (Cond.code y_FS_width c_FS_width 1 (Option.some FieldType.int) :: fh_T) (fh_rm 1300 0 0) [.ref B] h n (fun v h' n' => ∃ w, v = some (.int w) ∧ P1 w h' n') 0 0 ∧ ∀ w h' n', P1 w h' n' → (∃ fs, h' (B + 233) = some (.inr (7, fs))) ∧ fh_C l D fh_cl (fh_tys ct) B RO y_Mo_width (Cond.code y_Mo_width c_Mo_width 1 (Option.some FieldType.int) :: fh_T) (fh_rm 1300 0 0) [.ref (B + 233)] h' n' (fun v h'' n'' => v = some (.int w) ∧ Post h'' n'') 0 0
/-- height of both sides: the same answer -/
def sp_height (l : Launch) (D : va_G) (ct : Nat → ClassId) (B : Nat) (RO : State → Prop) (h : fh_H) (n : Nat) (Post : fh_H → Nat → Prop) : Prop := ∃ P1 : Int32 → fh_H → Nat → Prop, fh_C l D fh_cl (fh_tys ct) B RO y_FS_height (Cond.code y_FS_height c_FS_height 1 (Option.some FieldType.int) :: fh_T) (fh_rm 1300 0 0) [.ref B] h n (fun v h' n' => ∃ w, v = some (.int w) ∧ P1 w h' n') 0 0 ∧ ∀ w h' n', P1 w h' n' → (∃ fs, h' (B + 233) = some (.inr (7, fs))) ∧ fh_C l D fh_cl (fh_tys ct) B RO y_Mo_height (Cond.code y_Mo_height c_Mo_height 1 (Option.some FieldType.int) :: fh_T) (fh_rm 1300 0 0) [.ref (B + 233)] h' n' (fun v h'' n'' => v = some (.int w) ∧ Post h'' n'') 0 0
/-- depth of both sides: the same answer -/
def sp_depth (l : Launch) (D : va_G) (ct : Nat → ClassId) (B : Nat) (RO : State → Prop) (h : fh_H) (n : Nat) (Post : fh_H → Nat → Prop) : Prop := ∃ P1 : Int32 → fh_H → Nat → Prop, fh_C l D fh_cl (fh_tys ct) B RO y_FS_depth (Cond.code y_FS_depth c_FS_depth 1 (Option.some FieldType.int) :: fh_T) (fh_rm 1300 0 0) [.ref B] h n (fun v h' n' => ∃ w, v = some (.int w) ∧ P1 w h' n') 0 0 ∧ ∀ w h' n', P1 w h' n' → (∃ fs, h' (B + 233) = some (.inr (7, fs))) ∧ fh_C l D fh_cl (fh_tys ct) B RO y_Mo_depth (Cond.code y_Mo_depth c_Mo_depth 1 (Option.some FieldType.int) :: fh_T) (fh_rm 1300 0 0) [.ref (B + 233)] h' n' (fun v h'' n'' => v = some (.int w) ∧ Post h'' n'') 0 0
/-- set of both sides: refused alike; the same answer -/
def sp_set (l : Launch) (D : va_G) (ct : Nat → ClassId) (B : Nat) (RO : State → Prop) (p1 : Int32) (h : fh_H) (n : Nat) (Post : fh_H → Nat → Prop) : Prop := ∃ P1 : Int32 → fh_H → Nat → Prop, (fh_C l D fh_cl (fh_tys ct) B RO y_La_set (Cond.codeWith y_La_set c_La_set 4 (Option.some FieldType.int) [(0, 9, 12, 13)] :: fh_T) (fh_rm 1300 0 0) [.ref B, .int p1, .ref (B + 276)] h n (fun v h' n' => ∃ k, v = some (.int k) ∧ P1 k h' n') 0 0 ∨ fh_C l D fh_cl (fh_tys ct) B RO y_La_set (Cond.codeWith y_La_set c_La_set 4 (Option.some FieldType.int) [(0, 9, 12, 13)] :: fh_T) (fh_rm 1300 1 6) [.ref B, .int p1, .ref (B + 276)] h n (fun v h' n' => ∃ k, v = some (.int k) ∧ P1 k h' n') 1 6) ∧ ∀ k h' n', P1 k h' n' → (∃ fs, h' (B + 233) = some (.inr (7, fs))) ∧ ∃ P2 : Int32 → fh_H → Nat → Prop, fh_C l D fh_cl (fh_tys ct) B RO y_Mo_set (Cond.code y_Mo_set c_Mo_set 4 (Option.some FieldType.int) :: fh_T) (fh_rm 1300 0 0) [.ref (B + 233), .int p1] h' n' (fun v h'' n'' => ∃ w, v = some (.int w) ∧ P2 w h'' n'') 0 0 ∧ ∀ w h'' n'', P2 w h'' n'' → (∃ fs, h'' (B + 233) = some (.inr (7, fs))) ∧ fh_C l D fh_cl (fh_tys ct) B RO y_Mo_thrown (Cond.code y_Mo_thrown c_Mo_thrown 1 (Option.some FieldType.int) :: fh_T) (fh_rm 1300 0 0) [.ref (B + 233)] h'' n'' (fun v h3 n3 => v = some (.int k) ∧ Post h3 n3 ∧ (k = 0 → ∃ fo : Nat → Int64, h3 (B + 276) = some (.inl (ct 2, 1, .inr (.inl fo))) ∧ fo 0 = w.toInt64)) 0 0
/-- piece of both sides: refused alike; the same answer -/
def sp_piece (l : Launch) (D : va_G) (ct : Nat → ClassId) (B : Nat) (RO : State → Prop) (p1 p2 : Int32) (h : fh_H) (n : Nat) (Post : fh_H → Nat → Prop) : Prop := ∃ P1 : Int32 → fh_H → Nat → Prop, (fh_C l D fh_cl (fh_tys ct) B RO y_La_piece (Cond.codeWith y_La_piece c_La_piece 5 (Option.some FieldType.int) [(0, 10, 13, 19)] :: fh_T) (fh_rm 1300 0 0) [.ref B, .int p1, .int p2, .ref (B + 276)] h n (fun v h' n' => ∃ k, v = some (.int k) ∧ P1 k h' n') 0 0 ∨ fh_C l D fh_cl (fh_tys ct) B RO y_La_piece (Cond.codeWith y_La_piece c_La_piece 5 (Option.some FieldType.int) [(0, 10, 13, 19)] :: fh_T) (fh_rm 1300 1 6) [.ref B, .int p1, .int p2, .ref (B + 276)] h n (fun v h' n' => ∃ k, v = some (.int k) ∧ P1 k h' n') 1 6) ∧ ∀ k h' n', P1 k h' n' → (∃ fs, h' (B + 233) = some (.inr (7, fs))) ∧ ∃ P2 : Int32 → fh_H → Nat → Prop, fh_C l D fh_cl (fh_tys ct) B RO y_Mo_piece (Cond.code y_Mo_piece c_Mo_piece 3 (Option.some FieldType.int) :: fh_T) (fh_rm 1300 0 0) [.ref (B + 233), .int p1, .int p2] h' n' (fun v h'' n'' => ∃ w, v = some (.int w) ∧ P2 w h'' n'') 0 0 ∧ ∀ w h'' n'', P2 w h'' n'' → (∃ fs, h'' (B + 233) = some (.inr (7, fs))) ∧ fh_C l D fh_cl (fh_tys ct) B RO y_Mo_thrown (Cond.code y_Mo_thrown c_Mo_thrown 1 (Option.some FieldType.int) :: fh_T) (fh_rm 1300 0 0) [.ref (B + 233)] h'' n'' (fun v h3 n3 => v = some (.int k) ∧ Post h3 n3 ∧ (k = 0 → ∃ fo : Nat → Int64, h3 (B + 276) = some (.inl (ct 2, 1, .inr (.inl fo))) ∧ fo 0 = w.toInt64)) 0 0
/-- one turn of the law, at place i of the script xs -/
def law_step (l : Launch) (D : va_G) (ct : Nat → ClassId) (B : Nat) (RO : State → Prop) (L : Nat) (xs : Nat → Int32) (Inv : Nat → fh_H → Nat → Prop) : Prop := ∀ (i : Nat) (h : fh_H) (n : Nat), i + 4 ≤ L → Inv i h n → (∃ fs, h B = some (.inr (0, fs))) ∧ Inv (i + 4) h n ∧ sp_type l D ct B RO (((xs (i + 1)).toInt64 <<< ((32 : Int32).toInt64 &&& 63)) ||| ((xs (i + 2)).toInt64 &&& 4294967295)) (xs (i + 3)) h n (Inv (i + 4)) ∧ sp_wipe l D ct B RO h n (Inv (i + 4)) ∧ sp_set l D ct B RO (xs (i + 1)) h n (Inv (i + 4)) ∧ sp_isFormula l D ct B RO h n (Inv (i + 4)) ∧ sp_pieces l D ct B RO h n (Inv (i + 4)) ∧ sp_piece l D ct B RO (xs (i + 1)) (xs (i + 2)) h n (Inv (i + 4)) ∧ sp_width l D ct B RO h n (Inv (i + 4)) ∧ sp_height l D ct B RO h n (Inv (i + 4)) ∧ sp_depth l D ct B RO h n (Inv (i + 4))
