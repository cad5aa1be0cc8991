/-! A call of a method that throws, caught here; methods with handlers, and calls of them. By hand. -/
section FTC
variable {p : Program} {l : Launch} {e : Env} {R : Room} {s : State} {m : MethodId} {args : Array Value} {below : List Frame} {meth : Method} {c : Code} {H : Heap} {locs : List Loc} {cells slots : Nat} {Q : State → Prop}
variable {cc : ByteArray} {pc nL : Nat} {ls : Array Slot} {rest st0 : List Value} {D : va_G} {b n a : Nat} {h : fh_H} {tys : List (ClassId × FieldType)} {RO : State → Prop} {y : MethodName} {ret : Option FieldType}
variable {y' : MethodName} {cc' : ByteArray} {nL' r r' mc' ms' N mc0 ms0 index : Nat} {ret' : Option FieldType} {av : List Value}
theorem fh_words (hT : ∀ w ∈ fh_T, w.before args s = true) {w0 : Cond} (h0 : w0 ∈ fh_T) : ∀ w ∈ w0 :: fh_T, ∀ (a' : Array Value) (U : State), s.WarmedH U.vm → w.before a' U = true := fun w hw a' U hW => by
  have hm : w ∈ fh_T := (List.mem_cons.mp hw).elim (fun e => e ▸ h0) id
  exact word_at hW (fh_Tgood _ hm) (hT w hm)
set_option maxHeartbeats 4000000 in
/-- invokevirtual of a method that throws; the one handler of this method catches -/
theorem fh_callVT {As : List Value} {Xc : String} {post' : fh_H → Nat → Prop} (X : fh_X p l s m args meth c D tys b RO y cc nL ret) (hR : fh_R b RO) (hRX : ∀ U, RO U → ro_X b U) (hC : fh_CT l D fh_cl tys b RO y' (Cond.code y' cc' nL' ret' :: fh_T) (fh_rm r' mc' ms') (.ref a :: As) h n Xc post' mc' ms') (hcode : Cond.code y' cc' nL' ret' ∈ fh_T) (hlink : Cond.methodLink y.cls index y' ∈ fh_T) (hinst : Cond.instanceMethod y' ∈ fh_T) (hsel : Cond.selects y'.cls y' y' ∈ fh_T) (hini : Cond.initialized y'.cls ∈ fh_T)
    (hd : y'.cls ≠ "java/lang/invoke/MethodHandle" ∧ y'.cls ≠ "java/lang/invoke/VarHandle" ∧ (parseMethodDescriptor y'.desc).map (fun d => d.parameters.length) = some As.length) (hr : r' + 1 ≤ r) (hm : nL' ≤ 41) (hrecv : ∃ cell : Cell, H[a]? = some cell ∧ cell.vm.isStatics = false ∧ s.vm.findClass y'.cls = some cell.cls)
    (hP : fh_P D fh_cl b h n H) (hS : va_S (fh_A b) s.heap H locs) (hl : ls.size = nL) (hst : st0 = As.reverse ++ .ref a :: rest) (hw : (rest.map fun v => v.category).sum ≤ 8) (hdg : decode cc pc = .ok (.invokevirtual index, 3)) (hf : cells + mc' ≤ mc0 ∧ slots + ms' ≤ ms0)
    {x : ExceptionTableEntry} (htab : c.exceptionTable.toList = [x]) (hcov : covers x pc = true) (hx0 : x.catchType ≠ 0) (hcl : Cond.classLink y.cls x.catchType Xc ∈ fh_T) {ik : Nat} (hcast : lw_tbl[ik]? = some (Cond.castable Xc Xc))
    (kk : ∀ (xa : Nat) (h' : fh_H) (n' : Nat) (H1 : Heap) (locs1 : List Loc), post' h' n' → fh_P D fh_cl b h' n' H1 → va_S (fh_A b) s.heap H1 locs1 → W p l e (fh_rm r mc0 ms0) s m args below meth c H1 locs1 (cells + mc') (slots + ms') Q (F0 m x.handlerPc ls [.ref xa])) : W p l e (fh_rm r mc0 ms0) s m args below meth c H locs cells slots Q (F0 m pc ls st0) := by
  subst hst
  obtain ⟨hx, hb, hml, hown, hT, hK, hRO, hbs, -⟩ := X
  have hpre := fh_pre hR hK hRO hbs hP hS (.ref a :: As)
  have hcst : (Cond.castable Xc Xc).before args s = true := va_Nw.use rfl ((hRX _ hRO).1 _ (List.mem_of_getElem? hcast) rfl rfl)
  intro T hTH XT
  obtain ⟨mk, methM, hnamed, hmethM, hstM, habM⟩ := Cond.instanceMethod_spec (hT _ hinst)
  obtain ⟨methM', cM, hmethM', -, -, -, -, -, -, hsigM⟩ := Cond.code_spec hnamed (hT _ hcode)
  cases hmethM.symm.trans hmethM'
  obtain ⟨cellB, hcB, hoB, hclB⟩ := hrecv
  obtain ⟨c2, r2, m2, q1, q2, q3, q4, kP, hkP, hkPi⟩ := Cond.selects_spec (hT _ hsel)
  cases hclB.symm.trans q1
  cases (State.methodFound?_of_named hnamed ⟨hd.1, hd.2.1⟩).symm.trans q2
  cases hnamed.symm.trans q3
  have hselP : selectMethod e.platform s.vm cellB.cls mk = .method mk := by rw [Launch.admits_selectMethod XT.admits]; exact q4
  have hlen : As.length = methM.sig.parameters.length := by
    have h2 := hd.2.2
    rw [hsigM] at h2
    exact (Option.some.inj h2).symm
  obtain ⟨vm₁, X₁, hstep₁⟩ := XT.invokevirtual hx hown (hT _ hlink) hnamed hmethM hstM hkP hkPi ⟨hd.1, hd.2.1⟩ (a := a) (cell := cellB) (by rw [hTH]; exact hcB) (fun z h => by rw [h] at hoB; cases hoB) hselP hmethM habM hkP hkPi (g := F0 m pc ls (As.reverse ++ .ref a :: rest)) rfl (argsL := As) (rest := rest) hlen rfl (by rw [hb]; exact hdg)
  obtain ⟨v, t, L, hq, hL, X', hsteps⟩ := fx_thrown (S := headSpec (Cond.code y' cc' nL' ret' :: fh_T) (fh_rm r' mc' ms')) (k := mc') (n := ms') (F := fh_A b) hC X₁ (g := F0 m pc ls rest) rfl (hl.trans hml.symm) (by rw [hb]; exact hdg) (X₁.named hnamed) (a := (Value.ref a :: As).toArray) (fh_words hT hcode _ List.mem_cons_self _ _ X₁.warmed) (fh_words hT hcode _ (List.mem_cons_of_mem _ hini) _ _ X₁.warmed) (atoms_intro fun w hw => fh_words hT hcode w hw _ _ X₁.warmed) (fh_blind hR _ _ _ _ (hpre _ hTH X₁.warmed)) (lv_room hw) hr (fh_room hr hm).2 hf.1 hf.2 (fun o t hq => by obtain ⟨⟨v9, _, _, _, h9, -⟩, hr9⟩ := hq; exact ⟨⟨v9, h9⟩, hr9⟩)
  obtain ⟨⟨x9, h', n', ce, e3, hp9, hP9, hF9, hce, hcc, hcv⟩, -⟩ := hq
  cases e3
  have hcall : s.vm.findClass Xc = some ce.cls := by
    rw [← X₁.warmed.alike.findClass]; exact hcc
  obtain ⟨c3, cT, hc3, hcT, hasg⟩ := Cond.castable_spec hcst
  cases hcall.symm.trans hc3
  cases hcall.symm.trans hcT
  obtain ⟨vm', XV, stV⟩ := fx_caught X' v (g := F0 m pc ls rest) rfl hown htab hcov hx0 (hT _ hcl) hcall (ce := ce) hce (by rw [hcv]; rfl) hasg
  obtain ⟨hz, hk9⟩ := hF9
  have hhe : ((T.setVm vm₁).calling (F0 m pc ls rest) mk (Value.ref a :: As).toArray).heap = H := hTH
  rw [hhe] at hz hk9
  obtain ⟨t2, a1, b1⟩ := kk v h' n' t.heap (locs ++ L) hp9 hP9 ⟨Nat.le_trans hS.1 hz, fun q h1 h2 => by rw [hk9 q (Nat.lt_of_lt_of_le h1 hS.1) h2]; exact hS.2.1 q h1 h2, fun q hq => (List.mem_append.mp hq).elim (hS.2.2 q) (hL q)⟩ ((fx_at (T.setVm vm₁) t).setVm vm') rfl XV
  refine ⟨t2, hstep₁ _ fun acts => ?_, b1⟩
  rw [doInvoke_state]
  exact hsteps.trans (stV _ a1)
/-- a method with handlers -/
theorem fh_enterW {rm : Room} {post : Option Value → fh_H → Nat → Prop} {mc ms : Nat} {hs9 : List (Nat × Nat × Nat × Nat)}
    (hy : plainName y.cls = true) (hsl : (lg_sl av).length ≤ nL) (lv : List (Nat × Value)) (hlv : lv_args 0 av = lv)
    (body : ∀ (p : Program) (e : Env) (s : State) (m : MethodId) (args : Array Value) (below : List Frame) (meth : Method) (c : Code) (H : Heap) (ls : Array Slot), c.exceptionTable.toList = tableOf hs9 → fh_X p l s m args meth c D tys b RO y cc nL ret → fh_P D fh_cl b h n H → va_S (fh_A b) s.heap H [] → lv_has ls nL lv → W p l e rm s m args below meth c H [] 0 0 (MQ below (fh_Post D fh_cl b post) args s mc ms (fh_A b)) (F0 m 0 ls [])) :
    fh_C l D fh_cl tys b RO y (Cond.codeWith y cc nL ret hs9 :: fh_T) rm av h n post mc ms := by
  unfold fh_C Met
  refine MetFree.of_bodyS (code := cc) (maxLocals := nL) (ret := ret) hy ?_ ?_
  · intro args s m h hn
    obtain ⟨m', meth, c, hn', h1, h2, h3, h4, -, h5, h6, -⟩ := Cond.codeWith_spec (atoms_spec (ws := Cond.codeWith y cc nL ret hs9 :: fh_T) h _ List.mem_cons_self)
    cases hn.symm.trans hn'
    exact ⟨meth, c, h1, h2, h3, h4, h5, h6⟩
  · intro p e s m args below meth c s₁ B hml hv _
    obtain ⟨rfl, hK, hRO, hP⟩ := hv
    have hts := atoms_spec (ws := Cond.codeWith y cc nL ret hs9 :: fh_T) B.pre
    have hown : s.vm.findClass y.cls = some m.cls := findClass_of_methodNamed B.named
    have hn9 := (name_of_methodNamed B.named B.method).1
    have hl := lv_entry av (n := nL) hsl
    have hb9 : b ≤ s.heap.size := by have h1 := hP.1; have h2 := hP.2.1; omega
    have hh0 : s₁.heap = s.heap := by rw [B.state]; rfl
    have X0 := Stand.of_body B
    have htab : c.exceptionTable.toList = tableOf hs9 := by
      obtain ⟨m', meth', c', hn', h1, h2, h3, h4, htb, h5, h6, -⟩ := Cond.codeWith_spec (hts _ List.mem_cons_self)
      cases B.named.symm.trans hn'
      cases h1.symm.trans X0.method
      cases h2.symm.trans X0.code
      rw [← htb, table_eq]
    rw [hlv] at hl
    rw [lg_entry_eq]
    obtain ⟨t, a1, o, b1, b2, b3⟩ := body p e s m av.toArray below meth c s.heap _ htab ⟨B.exec, B.bytes, hml, hown, fun w h => hts w (List.mem_cons_of_mem _ h), hK, hRO, hb9, B.returns, B.notSynchronized, hn9⟩ hP va_S.rf hl s₁ hh0 X0
    exact ⟨t, o, a1, b1, b2, b3⟩
set_option maxHeartbeats 4000000 in
/-- a call of a static method that has handlers -/
theorem fh_callSW {post' : Option Value → fh_H → Nat → Prop} {hs9 : List (Nat × Nat × Nat × Nat)} (X : fh_X p l s m args meth c D tys b RO y cc nL ret) (hR : fh_R b RO) (hC : fh_C l D fh_cl tys b RO y' (Cond.codeWith y' cc' nL' ret' hs9 :: fh_T) (fh_rm r' mc' ms') av h n post' mc' ms') (hcode : Cond.codeWith y' cc' nL' ret' hs9 ∈ fh_T) (hlink : Cond.methodLink y.cls index y' ∈ fh_T) (hstat : Cond.static y' ∈ fh_T) (hini : Cond.initialized y'.cls ∈ fh_T)
    (hd : y'.cls ≠ "java/lang/invoke/MethodHandle" ∧ y'.cls ≠ "java/lang/invoke/VarHandle" ∧ (parseMethodDescriptor y'.desc).map (fun d => d.parameters.length) = some av.length) (hr : r' + 1 ≤ r) (hm : nL' ≤ 41)
    (hP : fh_P D fh_cl b h n H) (hS : va_S (fh_A b) s.heap H locs) (hl : ls.size = nL) (hst : st0 = av.reverse ++ rest) (hw : (rest.map fun v => v.category).sum ≤ 8) (hdg : decode cc pc = .ok (.invokestatic index, 3)) (hf : cells + mc' ≤ mc0 ∧ slots + ms' ≤ ms0)
    (kk : ∀ (v : Option Value) (h' : fh_H) (n' : Nat) (H1 : Heap) (locs1 : List Loc), post' v h' n' → fh_P D fh_cl b h' n' H1 → va_S (fh_A b) s.heap H1 locs1 → W p l e (fh_rm r mc0 ms0) s m args below meth c H1 locs1 (cells + mc') (slots + ms') Q (F0 m (pc + 3) ls (v.toList ++ rest))) : W p l e (fh_rm r mc0 ms0) s m args below meth c H locs cells slots Q (F0 m pc ls st0) := by
  subst hst
  unfold fh_C Met at hC
  obtain ⟨hx, hb, hml, hown, hT, hK, hRO, hbs, -⟩ := X
  have hpre := fh_pre hR hK hRO hbs hP hS av
  have hK9 : Back l (fh_rm r mc0 ms0) p e below s args y' 3 8 (PreOf (fh_rm r mc0 ms0) mc' ms' (fh_Pre D fh_cl tys b RO av h n)) (PostOf (fh_Post D fh_cl b post') mc' ms' (fh_A b)) := by
    refine Back.of_freeWith (handlers := hs9) (S := headSpec (Cond.codeWith y' cc' nL' ret' hs9 :: fh_T) (fh_rm r' mc' ms')) (bytes := cc') (maxL := nL') (ret := ret') (E := fun a st o t L k n => k = mc' ∧ n = ms' ∧ ∀ q ∈ L, fh_A b q.base) hC hr (fh_room hr hm).2 ?_ ?_ (fun _ _ _ _ _ _ _ _ _ => trivial) ?_ ?_
    · intro m2 meth2 c2 A a2 X2 hp
      exact ⟨atoms_intro fun w hw => fh_words hT hcode w hw _ _ X2.warmed, fh_words hT hcode _ List.mem_cons_self _ _ X2.warmed, fh_words hT hcode _ (List.mem_cons_of_mem _ hini) _ _ X2.warmed, hp.1, hp.2.1⟩
    · intro m2 meth2 c2 A a2 g mk X2 hp
      exact fh_blind hR _ _ _ _ hp.2.2
    · intro a2 st o t ⟨hq, L, hF, hL⟩
      exact ⟨L, mc', ms', hF, rfl, rfl, hL⟩
    · intro m2 meth2 c2 A a2 g mk v t L k n2 X2 hp hq hF ⟨e1, e2, hL⟩
      subst e1; subst e2
      exact ⟨g, mk, t, L, rfl, rfl, hq.1, rfl, hL, rfl, rfl⟩
  refine fh_call (av := av.toArray) (rest := rest) ?_ hS kk
  intro T hTH XT
  obtain ⟨mk, methM, cM, hnamed, hmethM, -, -, -, -, -, -, hsigM⟩ := Cond.codeWith_spec (hT _ hcode)
  have hstatic : methM.isStatic = true := Cond.static_spec hnamed hmethM (hT _ hstat)
  obtain ⟨kP, hkP, -⟩ := className_of_methodNamed hnamed
  have hinitP : kP.init = .initialized := Cond.initialized_spec (findClass_of_methodNamed hnamed) hkP (hT _ hini)
  have hlen : av.length = methM.sig.parameters.length := by
    have h2 := hd.2.2
    rw [hsigM] at h2
    exact (Option.some.inj h2).symm
  obtain ⟨vm₁, X₁, hstep₁⟩ := XT.invokestatic hx hown (hT _ hlink) hnamed hmethM hstatic hkP hinitP ⟨hd.1, hd.2.1⟩ (g := F0 m pc ls (av.reverse ++ rest)) rfl (argsL := av) (rest := rest) hlen rfl (by rw [hb]; exact hdg)
  obtain ⟨v, B, X', ⟨g', mk', t, L, e1, e2, hq, e4, hL, e5, e6⟩, hsteps⟩ := hK9 m meth c ⟨T.setVm vm₁, locs, cells, slots⟩ (F0 m pc ls rest) (.invokestatic index) mk av.toArray X₁ rfl (hl.trans hml.symm) (by rw [hb]; exact hdg) (lv_room hw) (X₁.named hnamed) ⟨hf.1, hf.2, hpre _ hTH X₁.warmed⟩
  obtain ⟨BU, BL, BC, BS⟩ := B
  dsimp only [Pt.U, Pt.locs, Pt.cells, Pt.slots] at X' e1 e2 e4 e5 e6 hsteps
  subst e4; subst e5; subst e6
  exact ⟨v, (T.setVm vm₁).calling g' mk' av.toArray, t, BU, L, hTH, X', hL, e1, e2, hq, fun target h9 => hstep₁ _ fun acts => by rw [doInvoke_state]; exact hsteps.trans h9⟩
end FTC
