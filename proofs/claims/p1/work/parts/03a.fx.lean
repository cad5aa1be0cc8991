/-! Throwing and catching, from the library's ThrowLaws, Stand, Free and ClaimLaws alone: room carried along; a call that ends in a throw; the one handler of a method, its class cold or warm. By hand. -/
theorem fx_room {s u : State} {pl : Platform} {r r' : Room} (h : s.hasRoom pl r = true) (hb : u.me.stackBytes = s.me.stackBytes) (h1 : u.frames.length + r'.frames ≤ s.frames.length + r.frames) (h2 : u.localsInUse + r'.locals ≤ s.localsInUse + r.locals) (h3 : u.heap.size + r'.cells ≤ s.heap.size + r.cells) (h4 : u.slotsUsed + r'.slots ≤ s.slotsUsed + r.slots) (h5 : u.slotsTrue = true) : u.hasRoom pl r' = true := by
  have k1 := State.hasRoom_stack h
  have k2 := State.hasRoom_heap h
  have k3 := State.hasRoom_real h
  exact State.hasRoom_of (hb.trans (State.hasRoom_plain h)) (by omega) (by omega) (by omega) (by omega) h5 (by omega)
theorem fx_book {s : State} {pl : Platform} {r : Room} (h : s.hasRoom pl r = true) : s.slotsTrue = true := by
  unfold State.hasRoom at h
  exact (Bool.and_eq_true_iff.mp h).2
/-- what the end of a call that throws has left alone -/
def fx_end (st t : State) (L : List Loc) (k n : Nat) : Prop := st.WarmedH t.vm ∧ st.sameButNew (t.setVm st.vm) L k n
/-- the caller's state with the heap and the tables that the callee left -/
def fx_at (U t : State) : State := ({ U with heap := t.heap, slotsUsed := t.slotsUsed } : State).setVm t.vm
section FX
variable {p : Program} {l : Launch} {e : Env} {R : Room} {s : State} {m : MethodId} {args : Array Value} {below : List Frame} {meth : Method} {c : Code} {U : State} {locs : List Loc} {cells slots : Nat}
/-- the note of a throw over a frame of this walk -/
theorem fx_note (X : Stand p l e R s m args below meth c U locs cells slots) (g : JFrame) (v : Addr) : (U.setTop g).pushFrame (.throwing v) = U.setFrames (.throwing v :: .java g :: below) := by
  obtain ⟨g1, h1⟩ := X.frames_eq
  rw [State.setTop_of_frames g h1, State.pushFrame, State.frames_setFrames _ (State.cur_lt_of_frames h1), State.setFrames_setFrames]
/-- a call of a method whose every end is a throw -/
theorem fx_thrown {y : MethodName} {S : Spec} {P : Array Value → State → Prop} {Q : Array Value → State → Outcome → State → Prop} (hM : MetFree l y S P (fun _ _ _ _ _ => True) Q) (X : Stand p l e R s m args below meth c U locs cells slots)
    {g : JFrame} (hg : g.method = m) (hsize : g.locals.size = c.maxLocals) {ig : Instr} {len : Nat} (hdg : decode c.code g.pc = .ok (ig, len)) {mk : MethodId} (hn : U.methodNamed? y = some mk) {a : Array Value} {bytes : ByteArray} {maxL : Nat} {ret : Option FieldType}
    (hcode : (Cond.code y bytes maxL ret).before a U = true) (hini : (Cond.initialized y.cls).before a U = true) (hpre : S.pre.before a U = true) (hP : P a (U.calling g mk a))
    {w : Nat} (hw : 2 * g.monitorRoom + (g.stack.map fun v => v.category).sum ≤ w) (hr1 : S.room.frames + 1 ≤ R.frames) (hr2 : w + (maxL + 11) + S.room.locals ≤ R.locals) (hr3 : cells + S.room.cells ≤ R.cells) (hr4 : slots + S.room.slots ≤ R.slots)
    {k n : Nat} {F : Addr → Prop} (hQ : ∀ o t, Q a (U.calling g mk a) o t → (∃ v, o = .threw v) ∧ ∃ L, fx_end (U.calling g mk a) t L k n ∧ ∀ q ∈ L, F q.base) :
    ∃ (v : Addr) (t : State) (L : List Loc), Q a (U.calling g mk a) (.threw v) t ∧ (∀ q ∈ L, F q.base) ∧ Stand p l e R s m args below meth c (fx_at U t) (locs ++ L) (cells + k) (slots + n) ∧
      Steps p.tables e below (doInvoke e (U.setTop g) [] mk a).1 ((fx_at U t).setFrames (.throwing v :: .java g :: below)) := by
  subst hg
  obtain ⟨my, cy, hmy, hcy, -, hly, -⟩ := Cond.code_spec hn hcode
  obtain ⟨ky, hky, -⟩ := className_of_methodNamed hn
  have hroom := X.room_calling (g := g) (args' := a) (R' := S.room) hsize hmy hcy hr1 (by rw [hly]; omega) hr3 hr4
  have happ := Spec.appliesLoose_calling (g := g) X.here hdg hn hky (Cond.initialized_spec (findClass_of_methodNamed hn) hky hini) hroom hpre
  obtain ⟨g1, hfr⟩ := X.frames_eq
  have htop : (U.setTop g).frames = [.java g] ++ below := State.frames_setTop g hfr
  obtain ⟨o, t, hgo, -, hend, hq⟩ := Steps.callFree hM p X.admits X.cas X.clock (acts := []) htop happ hP trivial
  obtain ⟨⟨v, hv⟩, L, ⟨hW, hsame⟩, hL⟩ := hQ o t hq
  subst hv
  have hft : t.frames = .throwing v :: .java g :: below := by
    have h1 : t.frames = .throwing v :: (U.setTop g).frames := hend
    rw [h1, htop]; rfl
  have ht : t = (fx_at U t).setFrames (.throwing v :: .java g :: below) := by
    have h1 := congrArg (fun x : State => x.setVm t.vm) hsame.1
    have h2 : t = (({ (U.calling g mk a).setFrames t.frames with heap := t.heap, slotsUsed := t.slotsUsed } : State)).setVm t.vm := h1
    rw [State.calling_eq X.here.top, State.setFrames_setFrames, hft] at h2
    exact h2
  obtain ⟨th, hth, -⟩ := State.frames_cons hfr
  have hU : U.sameButNew ((fx_at U t).setVm U.vm) L k n := by
    refine ⟨?_, hsame.2⟩
    show ({ U with heap := t.heap, slotsUsed := t.slotsUsed } : State) = { U.setFrames U.frames with heap := t.heap, slotsUsed := t.slotsUsed }
    rw [State.setFrames_self hth]
  have hWU : U.WarmedH t.vm := hW
  refine ⟨v, t, L, hq, hL, X.moved ((X.here.setHeapUsed t.heap t.slotsUsed).setVm hWU.alike) X.tail rfl rfl hWU hU, ?_⟩
  rw [← ht]
  exact hgo
/-- what the search in a method's only handler finds; the class it names is noted in the tables -/
theorem fx_find {T : State} {g : JFrame} {v : Addr} {x : ExceptionTableEntry} (hm : T.vm.method? g.method = some meth) (hc : meth.code = some c) (htab : c.exceptionTable.toList = [x]) (hcov : covers x g.pc = true) (hx0 : x.catchType ≠ 0) {cT : ClassId} {ce : Cell} (hl : T.vm.ClassLinks e.platform g.method.cls x.catchType cT)
    (hce : T.heap[v]? = some ce) (hst : ce.vm.isStatics = false) (hk : ∃ k, T.vm.classes[cT]? = some k) (hfit : T.vm.assignable ce.cls cT = true) (Q : Handler → Pre) (E : CtlPost) (d : Bool) (acts : List Action) :
    wp (findHandler g v) Q E e d acts T ↔ Q (.found x.handlerPc) d acts (T.setVm (T.vm.noted g.method.cls x.catchType (.cls cT))) := by
  rw [W.findHandler_eq hm hc, htab]
  have hal : T.vm.Alike (T.vm.noted g.method.cls x.catchType (.cls cT)) := (Vm.Alike.refl T.vm).noted _ _ _
  obtain ⟨k1, h1⟩ := Vm.classAt_of_assignable hfit hk
  obtain ⟨k2, h2⟩ := hk
  obtain ⟨_, h3, -⟩ := hal.2.2 _ _ h1
  obtain ⟨_, h4, -⟩ := hal.2.2 _ _ h2
  rw [← hal.assignable] at hfit
  obtain ⟨h5, h6⟩ := (resolveClass_links e.toSetting hl).op (op := VmOp.resolveClass g.method.cls x.catchType) rfl
  have h7 : ∀ k, ce.vm ≠ .statics k := VmData.ne_statics_of hst
  simp only [covers] at hcov
  simp [findHandler.go, hcov, hx0, h5, h6, hce, h7, h3, h4, hfit, VmOp.dirties, VmOp.acts]
/-- caught by the only handler of the method that is walked -/
theorem fx_caught (X : Stand p l e R s m args below meth c U locs cells slots) (v : Addr) {g : JFrame} (hg : g.method = m) {own name : String} (hown : s.vm.findClass own = some m.cls) {x : ExceptionTableEntry} (htab : c.exceptionTable.toList = [x]) (hcov : covers x g.pc = true) (hx0 : x.catchType ≠ 0)
    (hlink : (Cond.classLink own x.catchType name).before args s = true) {cT : ClassId} (hcT : s.vm.findClass name = some cT) {ce : Cell} (hce : U.heap[v]? = some ce) (hst : ce.vm.isStatics = false) (hfit : s.vm.assignable ce.cls cT = true) :
    ∃ vm', Stand p l e R s m args below meth c (U.setVm vm') locs cells slots ∧
      ∀ target, Steps p.tables e below ((U.setVm vm').setTop { g with pc := x.handlerPc, stack := [.ref v] }) target → Steps p.tables e below (U.setFrames (.throwing v :: .java g :: below)) target := by
  subst hg
  obtain ⟨c9, h9, hl⟩ := Cond.classLink_spec hown hlink e.platform (by rw [X.admits.platform])
  cases h9.symm.trans hcT
  obtain ⟨kd, _, _, kt, hkd, _, _, _, _, hkt, _, hopen⟩ := hl.here
  have hal := X.warmed.alike
  have hW := X.warmed.noted hkd hopen (State.rightAt_cls hl)
  obtain ⟨kt', hkt', -⟩ := hal.2.2 _ _ hkt
  refine ⟨_, X.noted hW, fun target hrest => ?_⟩
  obtain ⟨g1, hfr⟩ := X.frames_eq
  obtain ⟨hgo, hwi⟩ := X.here.throwing v
  have hF := fx_find (e := e) (T := U.setFrames (.throwing v :: .java g :: below)) (g := g) (v := v) X.method' X.code htab hcov hx0 (X.warmed.classLinks hl) hce hst ⟨kt', hkt'⟩ (by show U.vm.assignable _ _ = true; rw [hal.assignable]; exact hfit)
  rw [fx_note X] at hgo hwi
  refine Steps.head hgo hwi ?_
  have hfs : (U.setFrames (.throwing v :: .java g :: below)).frames = .throwing v :: .java g :: below := State.frames_setFrames _ (State.cur_lt_of_frames hfr)
  rw [stepThread_throwing hfs]
  have hstep : (stepThrowing e (U.setFrames (.throwing v :: .java g :: below)) v (.java g :: below)).1 = (U.setVm (U.vm.noted g.method.cls x.catchType (.cls cT))).setFrames (.java { g with pc := x.handlerPc, stack := [.ref v] } :: below) := by
    simp only [stepThrowing, searchFrame, vmDo]
    generalize hres : Sem.go _ e false [] (U.setFrames (.throwing v :: .java g :: below)) = res
    obtain ⟨as, rfl, -⟩ := Sem.eq_ok_of hres (a := Handler.found x.handlerPc) (s' := (U.setFrames (.throwing v :: .java g :: below)).setVm (U.vm.noted g.method.cls x.catchType (.cls cT))) (acts' := []) (by simp [hF])
    exact State.setFrames_setFrames (U.setVm (U.vm.noted g.method.cls x.catchType (.cls cT))) _ _
  rw [hstep]
  have hfr' : (U.setVm (U.vm.noted g.method.cls x.catchType (.cls cT))).frames = .java g1 :: below := hfr
  rw [State.setTop_of_frames _ hfr'] at hrest
  exact hrest
end FX
