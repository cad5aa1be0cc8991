/-! Entry, ends and calls of a method over the heap as a function; all methods share the words fh_T. -/
abbrev fh_rm (r mc ms : Nat) : Room := { frames := r, cells := mc, slots := ms, locals := 60 * r }
/-- what a method's body may use -/
def fh_X (p : Program) (l : Launch) (s : State) (m : MethodId) (args : Array Value) (meth : Method) (c : Code) (D : va_G) (tys : List (ClassId × FieldType)) (b : Nat) (RO : State → Prop) (y : MethodName) (cc : ByteArray) (nL : Nat) (ret : Option FieldType) : Prop :=
  p.tables.exec = Jvm.exec ∧ c.code = cc ∧ c.maxLocals = nL ∧ s.vm.findClass y.cls = some m.cls ∧ (∀ w ∈ fh_T, w.before args s = true) ∧ va_K D fh_cl tys s ∧ RO s ∧ b ≤ s.heap.size ∧ meth.sig.returnType = ret ∧ meth.locks = false ∧ meth.name = y.name
theorem fh_enter {l : Launch} {D : va_G} {tys : List (ClassId × FieldType)} {b : Nat} {RO : State → Prop} {y : MethodName} {rm : Room} {av : List Value} {h : fh_H} {n : Nat} {post : Option Value → fh_H → Nat → Prop} {mc ms : Nat} {cc : ByteArray} {nL : Nat} {ret : Option FieldType}
    (hy : plainName y.cls = true) (hsl : (lg_sl av).length ≤ nL) (lv : List (Nat × Value)) (hlv : lv_args 0 av = lv)
    (body : ∀ (p : Program) (e : Env) (s : State) (m : MethodId) (args : Array Value) (below : List Frame) (meth : Method) (c : Code) (H : Heap) (ls : Array Slot), fh_X p l s m args meth c D tys b RO y cc nL ret → fh_P D fh_cl b h n H → va_S (fh_A b) s.heap H [] → lv_has ls nL lv → W p l e rm s m args below meth c H [] 0 0 (MQ below (fh_Post D fh_cl b post) args s mc ms (fh_A b)) (F0 m 0 ls [])) :
    fh_C l D fh_cl tys b RO y (Cond.code y cc nL ret :: fh_T) rm av h n post mc ms := by
  refine Met.ofW (cc := cc) (maxL := nL) (ret := ret) hy rfl ?_
  intro p e s m args below meth c s₁ B hml hv
  obtain ⟨rfl, hK, hRO, hP⟩ := hv
  have hts := atoms_spec (ws := Cond.code y cc nL ret :: fh_T) B.pre
  have hown : s.vm.findClass y.cls = some m.cls := findClass_of_methodNamed B.named
  have hn9 := (name_of_methodNamed B.named B.method).1
  have hl := lv_entry av (n := nL) hsl
  rw [lg_entry_eq]
  rw [hlv] at hl
  have hb9 : b ≤ s.heap.size := by have h1 := hP.1; have h2 := hP.2.1; omega
  exact body p e s m av.toArray below meth c s.heap _ ⟨B.exec, B.bytes, hml, hown, fun w h => hts w (List.mem_cons_of_mem _ h), hK, hRO, hb9, B.returns, B.notSynchronized, hn9⟩ hP va_S.rf hl
section FR
variable {p : Program} {l : Launch} {e : Env} {R : Room} {s : State} {m : MethodId} {args : Array Value} {below : List Frame} {meth : Method} {c : Code} {H : Heap} {locs : List Loc} {cells slots : Nat} {Q : State → Prop}
variable {cc : ByteArray} {pc nL : Nat} {ls : Array Slot} {rest st0 : List Value} {D : va_G} {b n a : Nat} {h : fh_H} {tys : List (ClassId × FieldType)} {RO : State → Prop} {y : MethodName} {ret : Option FieldType} {post : Option Value → fh_H → Nat → Prop} {mc ms : Nat}
theorem fh_iret {v : Int32} (X : fh_X p l s m args meth c D tys b RO y cc nL (some .int)) (hP : fh_P D fh_cl b h n H) (hS : va_S (fh_A b) s.heap H locs) (hdg : decode cc pc = .ok (.ireturn, 1)) (hp : post (some (.int v)) h n) : W p l e R s m args below meth c H locs mc ms (MQ below (fh_Post D fh_cl b post) args s mc ms (fh_A b)) (F0 m pc ls [.int v]) :=
  W.iret X.1 X.2.1 X.2.2.2.2.2.2.2.2.1 (fun t ht _ => ⟨_, h, n, rfl, hp, by rw [ht]; exact hP, hS.F ht⟩) hS.2.2 hdg X.2.2.2.2.2.2.2.2.2.1
theorem fh_zret {v : Int32} {ty : FieldType} (X : fh_X p l s m args meth c D tys b RO y cc nL (some ty)) (hP : fh_P D fh_cl b h n H) (hS : va_S (fh_A b) s.heap H locs) (hdg : decode cc pc = .ok (.ireturn, 1)) (hn : narrow ty (.int v) = .int v) (hp : post (some (.int v)) h n) : W p l e R s m args below meth c H locs mc ms (MQ below (fh_Post D fh_cl b post) args s mc ms (fh_A b)) (F0 m pc ls [.int v]) :=
  W.zret X.1 X.2.1 X.2.2.2.2.2.2.2.2.1 hn (fun t ht _ => ⟨_, h, n, rfl, hp, by rw [ht]; exact hP, hS.F ht⟩) hS.2.2 hdg X.2.2.2.2.2.2.2.2.2.1
theorem fh_lret {v : Int64} (X : fh_X p l s m args meth c D tys b RO y cc nL (some .long)) (hP : fh_P D fh_cl b h n H) (hS : va_S (fh_A b) s.heap H locs) (hdg : decode cc pc = .ok (.lreturn, 1)) (hp : post (some (.long v)) h n) : W p l e R s m args below meth c H locs mc ms (MQ below (fh_Post D fh_cl b post) args s mc ms (fh_A b)) (F0 m pc ls [.long v]) :=
  W.lret X.1 X.2.1 X.2.2.2.2.2.2.2.2.1 (fun t ht _ => ⟨_, h, n, rfl, hp, by rw [ht]; exact hP, hS.F ht⟩) hS.2.2 hdg X.2.2.2.2.2.2.2.2.2.1
theorem fh_vret (X : fh_X p l s m args meth c D tys b RO y cc nL none) (hP : fh_P D fh_cl b h n H) (hS : va_S (fh_A b) s.heap H locs) (hdg : decode cc pc = .ok (.return_, 1)) (hp : post none h n) : W p l e R s m args below meth c H locs mc ms (MQ below (fh_Post D fh_cl b post) args s mc ms (fh_A b)) (F0 m pc ls []) :=
  W.vret X.1 X.2.1 X.2.2.2.2.2.2.2.2.1 (fun t ht _ => ⟨_, h, n, rfl, hp, by rw [ht]; exact hP, hS.F ht⟩) hS.2.2 hdg X.2.2.2.2.2.2.2.2.2.1
theorem fh_aret {r : Option Nat} {C : String} (X : fh_X p l s m args meth c D tys b RO y cc nL (some (.object C))) (hP : fh_P D fh_cl b h n H) (hS : va_S (fh_A b) s.heap H locs) (hdg : decode cc pc = .ok (.areturn, 1)) (hp : post (some (va_rf r)) h n) : W p l e R s m args below meth c H locs mc ms (MQ below (fh_Post D fh_cl b post) args s mc ms (fh_A b)) (F0 m pc ls [va_rf r]) :=
  W.aret X.1 X.2.1 X.2.2.2.2.2.2.2.2.1 (Or.inl ⟨_, rfl⟩) (va_rf_or r) (fun t ht _ => ⟨_, h, n, rfl, hp, by rw [ht]; exact hP, hS.F ht⟩) hS.2.2 hdg X.2.2.2.2.2.2.2.2.2.1
/-- what a call needs of the callee: its code, its links; rank by rank -/
theorem fh_room {r r' mL : Nat} (h : r' + 1 ≤ r) (hm : mL ≤ 41) : r' + 1 ≤ r ∧ 8 + (mL + 11) + 60 * r' ≤ 60 * r := by omega
variable {y' : MethodName} {cc' : ByteArray} {nL' r r' mc' ms' N mc0 ms0 index : Nat} {ret' : Option FieldType} {av : List Value} {post' : Option Value → fh_H → Nat → Prop}
/-- a call of an instance method of a class of ours, by invokevirtual -/
theorem fh_callV {As : List Value} (X : fh_X p l s m args meth c D tys b RO y cc nL ret) (hR : fh_R b RO) (hC : fh_C l D fh_cl tys b RO y' (Cond.code y' cc' nL' ret' :: fh_T) (fh_rm r' mc' ms') (.ref a :: As) h n post' mc' ms') (hcode : Cond.code y' cc' nL' ret' ∈ fh_T) (hlink : Cond.methodLink y.cls index y' ∈ fh_T) (hinst : Cond.instanceMethod y' ∈ fh_T) (hsel : Cond.selects y'.cls y' y' ∈ fh_T) (hini : Cond.initialized y'.cls ∈ fh_T)
    (hd : y'.cls ≠ "java/lang/invoke/MethodHandle" ∧ y'.cls ≠ "java/lang/invoke/VarHandle" ∧ (parseMethodDescriptor y'.desc).map (fun d => d.parameters.length) = some As.length) (hr : r' + 1 ≤ r) (hm : nL' ≤ 41) (hrecv : ∃ cell : Cell, H[a]? = some cell ∧ cell.vm.isStatics = false ∧ s.vm.findClass y'.cls = some cell.cls)
    (hP : fh_P D fh_cl b h n H) (hS : va_S (fh_A b) s.heap H locs) (hl : ls.size = nL) (hst : st0 = As.reverse ++ .ref a :: rest) (hw : (rest.map fun v => v.category).sum ≤ 8) (hdg : decode cc pc = .ok (.invokevirtual index, 3)) (hf : cells + mc' ≤ mc0 ∧ slots + ms' ≤ ms0)
    (kk : ∀ (v : Option Value) (h' : fh_H) (n' : Nat) (H1 : Heap) (locs1 : List Loc), post' v h' n' → fh_P D fh_cl b h' n' H1 → va_S (fh_A b) s.heap H1 locs1 → W p l e (fh_rm r mc0 ms0) s m args below meth c H1 locs1 (cells + mc') (slots + ms') Q (F0 m (pc + 3) ls (v.toList ++ rest))) : W p l e (fh_rm r mc0 ms0) s m args below meth c H locs cells slots Q (F0 m pc ls st0) := by
  subst hst
  obtain ⟨hx, hb, hml, hown, hT, hK, hRO, hbs, -⟩ := X
  have hb9 : CallB (fh_rm r mc0 ms0) s args y.cls index y' cc' nL' ret' (Cond.code y' cc' nL' ret' :: fh_T) (fh_rm r' mc' ms') mc' ms' As.length :=
    callB_of (Ts := Cond.tt :: fh_T) As.length (fun w h => (List.mem_cons.mp h).elim (fun e => by rw [e]; rfl) (hT w)) (fh_good hcode) rfl rfl rfl (hT _ hini) (hT _ hlink) hd (fh_room hr hm)
  exact fh_call (va_runV (Ts := fh_T) ⟨hx, hb, hml, hown, hT⟩ hC ⟨hb9, hT _ hinst, hT _ hsel⟩ ⟨fh_blind hR, hrecv, fh_pre hR hK hRO hbs hP hS _⟩ rfl rfl hl rfl (lv_room hw) hdg hf) hS kk
/-- a call of a static method of ours -/
theorem fh_callS (X : fh_X p l s m args meth c D tys b RO y cc nL ret) (hR : fh_R b RO) (hC : fh_C l D fh_cl tys b RO y' (Cond.code y' cc' nL' ret' :: fh_T) (fh_rm r' mc' ms') av h n post' mc' ms') (hcode : Cond.code y' cc' nL' ret' ∈ fh_T) (hlink : Cond.methodLink y.cls index y' ∈ fh_T) (hstat : Cond.static y' ∈ fh_T) (hini : Cond.initialized y'.cls ∈ fh_T)
    (hd : y'.cls ≠ "java/lang/invoke/MethodHandle" ∧ y'.cls ≠ "java/lang/invoke/VarHandle" ∧ (parseMethodDescriptor y'.desc).map (fun d => d.parameters.length) = some av.length) (hr : r' + 1 ≤ r) (hm : nL' ≤ 41)
    (hP : fh_P D fh_cl b h n H) (hS : va_S (fh_A b) s.heap H locs) (hl : ls.size = nL) (hst : st0 = av.reverse ++ rest) (hw : (rest.map fun v => v.category).sum ≤ 8) (hdg : decode cc pc = .ok (.invokestatic index, 3)) (hf : cells + mc' ≤ mc0 ∧ slots + ms' ≤ ms0)
    (kk : ∀ (v : Option Value) (h' : fh_H) (n' : Nat) (H1 : Heap) (locs1 : List Loc), post' v h' n' → fh_P D fh_cl b h' n' H1 → va_S (fh_A b) s.heap H1 locs1 → W p l e (fh_rm r mc0 ms0) s m args below meth c H1 locs1 (cells + mc') (slots + ms') Q (F0 m (pc + 3) ls (v.toList ++ rest))) : W p l e (fh_rm r mc0 ms0) s m args below meth c H locs cells slots Q (F0 m pc ls st0) := by
  subst hst
  obtain ⟨hx, hb, hml, hown, hT, hK, hRO, hbs, -⟩ := X
  have hb9 : CallB (fh_rm r mc0 ms0) s args y.cls index y' cc' nL' ret' (Cond.code y' cc' nL' ret' :: fh_T) (fh_rm r' mc' ms') mc' ms' av.length :=
    callB_of (Ts := Cond.tt :: fh_T) av.length (fun w h => (List.mem_cons.mp h).elim (fun e => by rw [e]; rfl) (hT w)) (fh_good hcode) rfl rfl rfl (hT _ hini) (hT _ hlink) hd (fh_room hr hm)
  exact fh_call (va_runS (Ts := fh_T) ⟨hx, hb, hml, hown, hT⟩ hC ⟨hb9, hT _ hstat⟩ ⟨fh_blind hR, fh_pre hR hK hRO hbs hP hS _⟩ rfl rfl hl rfl (lv_room hw) hdg hf) hS kk
/-- a constructor's call -/
theorem fh_callI {As : List Value} (X : fh_X p l s m args meth c D tys b RO y cc nL ret) (hR : fh_R b RO) (hC : fh_C l D fh_cl tys b RO y' (Cond.code y' cc' nL' none :: fh_T) (fh_rm r' mc' ms') (.ref a :: As) h n post' mc' ms') (hcode : Cond.code y' cc' nL' none ∈ fh_T) (hlink : Cond.methodLink y.cls index y' ∈ fh_T) (hinst : Cond.instanceMethod y' ∈ fh_T) (hini : Cond.initialized y'.cls ∈ fh_T) (hnm : y'.name = "<init>")
    (hd : y'.cls ≠ "java/lang/invoke/MethodHandle" ∧ y'.cls ≠ "java/lang/invoke/VarHandle" ∧ (parseMethodDescriptor y'.desc).map (fun d => d.parameters.length) = some As.length) (hr : r' + 1 ≤ r) (hm : nL' ≤ 41)
    (hP : fh_P D fh_cl b h n H) (hS : va_S (fh_A b) s.heap H locs) (hl : ls.size = nL) (hst : st0 = As.reverse ++ .ref a :: rest) (hw : (rest.map fun v => v.category).sum ≤ 8) (hdg : decode cc pc = .ok (.invokespecial index, 3)) (hf : cells + mc' ≤ mc0 ∧ slots + ms' ≤ ms0)
    (kk : ∀ (v : Option Value) (h' : fh_H) (n' : Nat) (H1 : Heap) (locs1 : List Loc), post' v h' n' → fh_P D fh_cl b h' n' H1 → va_S (fh_A b) s.heap H1 locs1 → W p l e (fh_rm r mc0 ms0) s m args below meth c H1 locs1 (cells + mc') (slots + ms') Q (F0 m (pc + 3) ls (v.toList ++ rest))) : W p l e (fh_rm r mc0 ms0) s m args below meth c H locs cells slots Q (F0 m pc ls st0) := by
  subst hst
  obtain ⟨hx, hb, hml, hown, hT, hK, hRO, hbs, -⟩ := X
  have hb9 : CallB (fh_rm r mc0 ms0) s args y.cls index y' cc' nL' none (Cond.code y' cc' nL' none :: fh_T) (fh_rm r' mc' ms') mc' ms' As.length :=
    callB_of (Ts := Cond.tt :: fh_T) As.length (fun w h => (List.mem_cons.mp h).elim (fun e => by rw [e]; rfl) (hT w)) (fh_good hcode) rfl rfl rfl (hT _ hini) (hT _ hlink) hd (fh_room hr hm)
  exact fh_call (va_runI (Ts := fh_T) ⟨hx, hb, hml, hown, hT⟩ hC ⟨hb9, hnm, hT _ hinst⟩ ⟨fh_blind hR, fh_pre hR hK hRO hbs hP hS _⟩ rfl rfl hl rfl (lv_room hw) hdg hf) hS kk
/-- the same, of a nest mate's private constructor -/
theorem fh_callIN {As : List Value} {host : String} (X : fh_X p l s m args meth c D tys b RO y cc nL ret) (hR : fh_R b RO) (hC : fh_C l D fh_cl tys b RO y' (Cond.code y' cc' nL' none :: fh_T) (fh_rm r' mc' ms') (.ref a :: As) h n post' mc' ms') (hcode : Cond.code y' cc' nL' none ∈ fh_T) (hlink : va_Nw (.methodLinkNest y.cls index y' host) s) (hinst : Cond.instanceMethod y' ∈ fh_T) (hini : Cond.initialized y'.cls ∈ fh_T) (hnm : y'.name = "<init>")
    (hd : y'.cls ≠ "java/lang/invoke/MethodHandle" ∧ y'.cls ≠ "java/lang/invoke/VarHandle" ∧ (parseMethodDescriptor y'.desc).map (fun d => d.parameters.length) = some As.length) (hr : r' + 1 ≤ r) (hm : nL' ≤ 41)
    (hP : fh_P D fh_cl b h n H) (hS : va_S (fh_A b) s.heap H locs) (hl : ls.size = nL) (hst : st0 = As.reverse ++ .ref a :: rest) (hw : (rest.map fun v => v.category).sum ≤ 8) (hdg : decode cc pc = .ok (.invokespecial index, 3)) (hf : cells + mc' ≤ mc0 ∧ slots + ms' ≤ ms0)
    (kk : ∀ (v : Option Value) (h' : fh_H) (n' : Nat) (H1 : Heap) (locs1 : List Loc), post' v h' n' → fh_P D fh_cl b h' n' H1 → va_S (fh_A b) s.heap H1 locs1 → W p l e (fh_rm r mc0 ms0) s m args below meth c H1 locs1 (cells + mc') (slots + ms') Q (F0 m (pc + 3) ls (v.toList ++ rest))) : W p l e (fh_rm r mc0 ms0) s m args below meth c H locs cells slots Q (F0 m pc ls st0) := by
  subst hst
  obtain ⟨hx, hb, hml, hown, hT, hK, hRO, hbs, -⟩ := X
  exact fh_call (va_runIN (Ts := fh_T) ⟨hx, hb, hml, hown, hT⟩ hC ⟨va_cnB (Ts := Cond.tt :: fh_T) As.length (fun w h => (List.mem_cons.mp h).elim (fun e => by rw [e]; rfl) (hT w)) (fh_good hcode) rfl rfl rfl hlink (hT _ hini) hd (fh_room hr hm), hnm, hT _ hinst⟩ ⟨fh_blind hR, fh_pre hR hK hRO hbs hP hS _⟩ rfl rfl hl rfl (lv_room hw) hdg hf) hS kk
/-- an object of h as a receiver -/
theorem fh_recv {ci : Nat} {fs : List Value} {q : vw_C} (hK : va_K D fh_cl tys s) (hP : fh_P D fh_cl b h n H) (he : h a = some (.inr (ci, fs))) (hc : fh_cl[ci]? = some q) : ∃ cell : Cell, H[a]? = some cell ∧ cell.vm.isStatics = false ∧ s.vm.findClass q.1 = some cell.cls := by
  obtain ⟨⟨r, h1, cell, q1, q2, q3, -⟩, -⟩ := hP.2.2.1 a _ he
  exact ⟨cell, q1, by rw [q3]; rfl, by rw [q2]; exact (hK.1 ci q hc).2.1⟩
end FR
