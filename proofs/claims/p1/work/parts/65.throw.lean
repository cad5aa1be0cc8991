/-! Throwing and catching: what a throw needs of tables and statics; contracts that end in a throw; a throw; a call that throws and is caught. By hand. -/
def xI : String := "java/lang/IllegalArgumentException"
def xO : String := "java/lang/IndexOutOfBoundsException"
def xUp : List String := ["java/lang/RuntimeException", "java/lang/Exception"]
/-- a static reference of Throwable, and where it stands -/
def ro_Zs (n d : String) (b : Nat) (U : State) : Prop := ∃ (c : ClassId) (k : Class) (i : Nat) (f : Field) (a : Nat) (cell : Cell) (v : Value), U.vm.findClass Bundle.tN = some c ∧ U.fieldFound? Bundle.tN n d = some (c, k, i, f) ∧ f.isStatic = true ∧ k.statics = some a ∧ U.heap[a]? = some cell ∧ cell.vm.isStatics = true ∧ cell.cls = c ∧ f.slot < cell.slots.size ∧ k.staticTypes[f.slot]? = some f.type ∧ a < b ∧ cell.slots[f.slot]? = some v ∧ v.isRef = true
theorem ro_Zs.lays {n d : String} {b : Nat} {U : State} (h : ro_Zs n d b U) (A : Array Value) : (Cond.laysStatic Bundle.tN n d).before A U = true := by
  obtain ⟨c, k, i, f, a, cell, v, h1, h2, h3, h4, h5, h6, h7, h8, h9, h10, h11, h12⟩ := h
  simp [Cond.before, Cond.holds, Cond.value, h1, h2, h3, h4, h5, h6, h7, h8, h9]
theorem ro_Zs.isr {n d : String} {b : Nat} {U : State} (h : ro_Zs n d b U) (A : Array Value) : (Cond.isRef (.static Bundle.tN n d)).before A U = true := by
  obtain ⟨c, k, i, f, a, cell, v, h1, h2, h3, h4, h5, h6, h7, h8, h9, h10, h11, h12⟩ := h
  have hv : (Term.static Bundle.tN n d).eval A U none [] U = some v := by simp [Term.eval, State.fieldNamed?, h2, h3, h4, h5, h6, h11]
  cases v <;> simp_all [Cond.before, Cond.holds, Cond.value, Value.isRef]
theorem ro_Zs.moved {n d : String} {b : Nat} {u U : State} (hvm : u.vm.Alike U.vm) (hh : ∀ q : Nat, q < b → U.heap[q]? = u.heap[q]?) (h : ro_Zs n d b u) : ro_Zs n d b U := by
  obtain ⟨c, k, i, f, a, cell, v, h1, h2, h3, h4, h5, h6, h7, h8, h9, h10, h11, h12⟩ := h
  obtain ⟨k', hi', he⟩ := State.fieldFound?_setVm hvm h2
  exact ⟨c, k', i, f, a, cell, v, by rw [hvm.findClass]; exact h1, hi', h3, by rw [he]; exact h4, by rw [hh a h10]; exact h5, h6, h7, h8, by rw [he]; exact h9, h10, h11, h12⟩
theorem ro_Zs.of {n d : String} {s : State} {A : Array Value} (hl : (Cond.laysStatic Bundle.tN n d).before A s = true) (hr : (Cond.isRef (.static Bundle.tN n d)).before A s = true) : ro_Zs n d s.heap.size s := by
  obtain ⟨c, k, i, f, a, cell, hc, hi, hst, ha, hcell, hs, hcls, hlt, hty⟩ := Cond.laysStatic_spec hl
  have hv : (Term.static Bundle.tN n d).eval A s none [] s = cell.slots[f.slot]? := by simp [Term.eval, State.fieldNamed?, hi, hst, ha, hcell, hs]
  have hsl : cell.slots[f.slot]? = some cell.slots[f.slot] := Array.getElem?_eq_getElem hlt
  refine ⟨c, k, i, f, a, cell, cell.slots[f.slot], hc, hi, hst, ha, hcell, hs, hcls, hlt, hty, (Array.getElem?_eq_some_iff.mp hcell).1, hsl, ?_⟩
  rw [hsl] at hv
  simp only [Cond.before, Cond.holds, Cond.value, hv] at hr
  generalize cell.slots[f.slot] = v at hr ⊢
  cases v <;> simp_all [Value.isRef]
/-- what a throw reads -/
def ro_X (b : Nat) (U : State) : Prop := (∀ w ∈ lw_tbl, w.onTables = true → w.keepsFace = true → va_Nw w U) ∧ ro_Zs "UNASSIGNED_STACK" Bundle.steD b U ∧ ro_Zs "SUPPRESSED_SENTINEL" Bundle.listD b U
theorem ro_X_R (b : Nat) : fh_R b (ro_X b) := by
  refine ⟨fun U g mk a h => ⟨fun w h1 h2 h3 => va_Nw.same h2 (u := U) rfl (h.1 w h1 h2 h3), ro_Zs.moved (u := U) (Vm.Alike.refl _) (fun _ _ => rfl) h.2.1, ro_Zs.moved (u := U) (Vm.Alike.refl _) (fun _ _ => rfl) h.2.2⟩, fun s U h _ hW hq => ⟨fun w h1 h2 h3 => ?_, h.2.1.moved hW.alike hq, h.2.2.moved hW.alike hq⟩⟩
  exact va_tabs h2 (rfl : (s.setVm U.vm).vm = U.vm) (Cond.before_shiftedFace (State.Shifted.of_warmed hW) w h3 (h.1 w h1 h2 h3))
def xchk : List Cond → List Nat → Bool
  | [], _ => true
  | _ :: _, [] => false
  | w :: ws, i :: is => ((decide (lw_tbl[i]? = some w) && w.onTables && w.keepsFace) || decide (w = .laysStatic Bundle.tN "UNASSIGNED_STACK" Bundle.steD) || decide (w = .laysStatic Bundle.tN "SUPPRESSED_SENTINEL" Bundle.listD) || decide (w = .isRef (.static Bundle.tN "UNASSIGNED_STACK" Bundle.steD)) || decide (w = .isRef (.static Bundle.tN "SUPPRESSED_SENTINEL" Bundle.listD))) && xchk ws is
theorem xchk_ok {b : Nat} {U : State} (h : ro_X b U) (A : Array Value) : ∀ (ws : List Cond) (is : List Nat), xchk ws is = true → ∀ w ∈ ws, w.before A U = true := by
  intro ws
  induction ws with
  | nil => intro is _ w hw; cases hw
  | cons x xs ih =>
    intro is hk w hw
    cases is with
    | nil => simp [xchk] at hk
    | cons i is =>
      simp only [xchk, Bool.and_eq_true, Bool.or_eq_true, decide_eq_true_eq] at hk
      rcases List.mem_cons.mp hw with e | e
      · subst e
        rcases hk.1 with (((⟨⟨h1, h2⟩, h3⟩ | h1) | h1) | h1) | h1
        · exact va_Nw.use h2 (h.1 _ (List.mem_of_getElem? h1) h2 h3)
        · subst h1; exact h.2.1.lays A
        · subst h1; exact h.2.2.lays A
        · subst h1; exact h.2.1.isr A
        · subst h1; exact h.2.2.isr A
      · exact ih is hk.2 w e
theorem xI_own {b : Nat} {U : State} (h : ro_X b U) (A : Array Value) : ∀ w ∈ Bundle.ownAtoms "FormulaSetter" 44 xI xUp, w.before A U = true := xchk_ok h A _ [73, 656, 665, 668, 671, 673, 657, 658, 96, 97, 659, 664, 669, 689, 646, 690, 648, 691, 650, 660, 661, 662, 663, 652, 685, 686, 688, 652, 676, 677, 678, 679, 638, 679, 680, 681, 682, 640, 682, 683, 684, 685, 642, 675, 635, 636, 643, 644, 645, 647, 649, 651, 9999, 9999, 655, 654, 653] (by decide +kernel)
theorem xO_own {b : Nat} {U : State} (h : ro_X b U) (A : Array Value) : ∀ w ∈ Bundle.ownAtoms "FormulaSetter" 90 xO xUp, w.before A U = true := xchk_ok h A _ [73, 656, 665, 668, 671, 673, 657, 658, 96, 97, 659, 664, 669, 689, 646, 690, 648, 691, 650, 660, 661, 662, 663, 652, 685, 686, 688, 652, 912, 913, 914, 679, 638, 679, 680, 681, 682, 640, 682, 683, 684, 685, 642, 911, 902, 903, 904, 667, 905, 906, 907, 908, 9999, 9999, 655, 654, 909] (by decide +kernel)
/-- the same walk, told from where it stands now -/
theorem fh_reroot {p : Program} {l : Launch} {e : Env} {R R' : Room} {s : State} {m : MethodId} {args : Array Value} {below : List Frame} {meth : Method} {c : Code} {T : State} {locs : List Loc} {cells slots : Nat} (X : Stand p l e R s m args below meth c T locs cells slots) (h1 : R'.frames ≤ R.frames) (h2 : R'.locals ≤ R.locals) (h3 : cells + R'.cells ≤ R.cells) (h4 : slots + R'.slots ≤ R.slots) :
    Stand p l e R' (T.setFrames (.invoking m args :: below)) m args below meth c T [] 0 0 := by
  obtain ⟨g₀, hg0⟩ := Option.isSome_iff_exists.mp X.here.top
  obtain ⟨r, hr⟩ := State.topJava?_eq_some.mp hg0
  have hcur : T.cur < T.threads.size := State.cur_lt_of_frames hr
  have hfr : (T.setFrames (.invoking m args :: below)).frames = .invoking m args :: below := State.frames_setFrames _ hcur
  obtain ⟨t, ht, -⟩ := State.frames_cons hr
  obtain ⟨t', ht', -⟩ := State.frames_cons hfr
  have hm' : (T.setFrames (.invoking m args :: below)).vm.method? m = some meth := X.method'
  refine ⟨X.admits, X.cas, X.clock, hfr, ?_, ?_, X.method', X.code, X.here, X.tail, State.WarmedH.refl _, (State.stackLimits_setFrames _ _ _).symm, (State.stackBytes_setFrames _ _).symm, ?_⟩
  · refine fx_room (s := s) (r := R) X.room ?_ ?_ ?_ ?_ ?_ ?_
    · rw [State.stackBytes_setFrames]; exact X.bytes
    · rw [hfr, X.frames]; simp only [List.length_cons]; omega
    · rw [State.localsInUse_invoking hfr hm' X.code, State.localsInUse_invoking X.frames X.method X.code]; omega
    · have := X.heapSize
      show T.heap.size + R'.cells ≤ s.heap.size + R.cells
      omega
    · have := X.used
      show T.slotsUsed + R'.slots ≤ s.slotsUsed + R.slots
      omega
    · exact X.book
  · have hh := X.hears
    have hal := X.warmed.alike
    cases hb : below with
    | nil => rw [hb] at hh; simp only [State.hears] at hh ⊢; show Option.any _ (T.vm.method? m) = true; rw [hal.method?]; exact hh
    | cons f r =>
      rw [hb] at hh
      cases f <;> simp only [State.hears] at hh ⊢ <;> first | rfl | (show Option.any _ (T.vm.method? m) = true; rw [hal.method?]; exact hh) | skip
      rename_i g9
      have hc : (T.setFrames (Frame.invoking m args :: Frame.java g9 :: r)).code? g9.method = s.code? g9.method := by
        rw [State.code?_eq, State.code?_eq]
        show (T.vm.method? _).bind _ = _
        rw [hal.method?]
      rw [hc]; exact hh
  · have h := (State.sameButNew.refl (T.setFrames (.invoking m args :: below)) ht').setFrames T.frames (State.cur_lt_of_frames hfr)
    rw [State.setFrames_setFrames, State.setFrames_self ht] at h
    exact h
