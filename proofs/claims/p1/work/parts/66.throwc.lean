/-! Contracts that end in a throw. By hand. -/
def MQT (below : List Frame) (Qc : Array Value → State → Outcome → State → Prop) (a : Array Value) (s : State) (mc ms : Nat) (free : Addr → Prop) : State → Prop := fun t => ∃ o, t.status = .running ∧ Ended t below o ∧ Qc a s o t ∧ ∃ L, fx_end s t L mc ms ∧ ∀ q ∈ L, free q.base
def fh_PostT (D : va_G) (cl : List vw_C) (b : Nat) (X : String) (post : fh_H → Nat → Prop) : Array Value → State → Outcome → State → Prop := fun _ st oc t => ∃ (x : Addr) (h' : fh_H) (n' : Nat) (ce : Cell), oc = .threw x ∧ post h' n' ∧ fh_P D cl b h' n' t.heap ∧ va_F (fh_A b) st t ∧ t.heap[x]? = some ce ∧ st.vm.findClass X = some ce.cls ∧ ce.vm = .none
def fh_CT (l : Launch) (D : va_G) (cl : List vw_C) (tys : List (ClassId × FieldType)) (b : Nat) (RO : State → Prop) (y : MethodName) (ws : List Cond) (rm : Room) (av : List Value) (h : fh_H) (n : Nat) (X : String) (post : fh_H → Nat → Prop) (mc ms : Nat) : Prop :=
  MetFree l y (headSpec ws rm) (fh_Pre D cl tys b RO av h n) (fun _ _ _ _ _ => True) (fun a st o t => fh_PostT D cl b X post a st o t ∧ ∃ L, fx_end st t L mc ms ∧ ∀ q ∈ L, fh_A b q.base)
theorem fh_enterT {l : Launch} {D : va_G} {tys : List (ClassId × FieldType)} {b : Nat} {RO : State → Prop} {y : MethodName} {rm : Room} {av : List Value} {h : fh_H} {n : Nat} {Xc : String} {post : fh_H → Nat → Prop} {mc ms : Nat} {cc : ByteArray} {nL : Nat} {ret : Option FieldType}
    (hy : plainName y.cls = true) (hsl : (lg_sl av).length ≤ nL) (lv : List (Nat × Value)) (hlv : lv_args 0 av = lv)
    (body : ∀ (p : Program) (e : Env) (s : State) (m : MethodId) (args : Array Value) (below : List Frame) (meth : Method) (c : Code) (H : Heap) (ls : Array Slot), (∀ pc : Nat, ∀ x ∈ c.exceptionTable.toList, covers x pc = false) → fh_X p l s m args meth c D tys b RO y cc nL ret → fh_P D fh_cl b h n H → va_S (fh_A b) s.heap H [] → lv_has ls nL lv → W p l e rm s m args below meth c H [] 0 0 (MQT below (fh_PostT D fh_cl b Xc post) args s mc ms (fh_A b)) (F0 m 0 ls [])) :
    fh_CT l D fh_cl tys b RO y (Cond.code y cc nL ret :: fh_T) rm av h n Xc post mc ms := by
  refine MetFree.of_bodyS (code := cc) (maxLocals := nL) (ret := ret) hy ?_ ?_
  · intro args s m h hn
    obtain ⟨meth, c, h1, h2, h3, h4, h5, h6, -, -⟩ := Cond.code_spec hn (atoms_spec (ws := Cond.code y cc nL ret :: fh_T) h _ List.mem_cons_self)
    exact ⟨meth, c, h1, h2, h3, h4, h5, h6⟩
  · intro p e s m args below meth c s₁ B hml hv _
    obtain ⟨rfl, hK, hRO, hP⟩ := hv
    have hts := atoms_spec (ws := Cond.code y cc nL ret :: fh_T) B.pre
    have hown : s.vm.findClass y.cls = some m.cls := findClass_of_methodNamed B.named
    have hn9 := (name_of_methodNamed B.named B.method).1
    have hl := lv_entry av (n := nL) hsl
    have hb9 : b ≤ s.heap.size := by have h1 := hP.1; have h2 := hP.2.1; omega
    have hh0 : s₁.heap = s.heap := by rw [B.state]; rfl
    rw [hlv] at hl
    rw [lg_entry_eq]
    obtain ⟨t, a1, o, b1, b2, b3⟩ := body p e s m av.toArray below meth c s.heap _ (fun pc => covers_of_empty (B.noHandlers (hts _ List.mem_cons_self)) pc) ⟨B.exec, B.bytes, hml, hown, fun w h => hts w (List.mem_cons_of_mem _ h), hK, hRO, hb9, B.returns, B.notSynchronized, hn9⟩ hP va_S.rf hl s₁ hh0 (Stand.of_body B)
    exact ⟨t, o, a1, b1, b2, b3⟩
/-- a cell more that nobody knows of -/
theorem fh_P.more {D : va_G} {cl : List vw_C} {b n : Nat} {h : fh_H} {H H1 : Heap} (hP : fh_P D cl b h n H) (hs : H1.size = n + 1) (ho : ∀ q : Nat, q < n → H1[q]? = H[q]?) {cell : Cell} (hn : H1[n]? = some cell) (hv : cell.vm.isStatics = false) : fh_P D cl b h (n + 1) H1 := by
  refine ⟨hs, by have := hP.2.1; omega, fun q x hq => ?_, fun q ce hq hc => ?_⟩
  · exact ⟨(hP.2.2.1 q x hq).1.kept (ho q (hP.lt hq)), (hP.2.2.1 q x hq).2⟩
  · by_cases hqa : q = n
    · subst hqa; cases hc.symm.trans hn; exact hv
    · have hlt : q < n + 1 := by rw [← hs]; exact (Array.getElem?_eq_some_iff.mp hc).1
      rw [ho q (by omega)] at hc; exact hP.2.2.2 q ce hq hc
section FT
variable {p : Program} {l : Launch} {e : Env} {R : Room} {s : State} {m : MethodId} {args : Array Value} {below : List Frame} {meth : Method} {c : Code} {H : Heap} {locs : List Loc} {cells slots : Nat} {Q : State → Prop}
variable {cc : ByteArray} {pc nL : Nat} {ls : Array Slot} {rest st0 : List Value} {D : va_G} {b n a : Nat} {h : fh_H} {tys : List (ClassId × FieldType)} {RO : State → Prop} {y : MethodName} {ret : Option FieldType} {mc0 ms0 r : Nat}
set_option maxHeartbeats 4000000 in
/-- new, dup, ldc, the constructor, athrow: the method ends in a throw -/
theorem fh_throw {post : fh_H → Nat → Prop} (X : fh_X p l s m args meth c D tys b RO y cc nL ret) (hR : fh_R b RO) (htr : l.stackTraces = false) (hRX : ∀ U, RO U → ro_X b U) {cls tx : String} {ixn ixs ic q : Nat} (hq : ∀ U, RO U → vk_R y.cls ixs tx q U) (hfit : Bundle.fit cls = true) (hown9 : ∀ (U : State), ro_X b U → ∀ A : Array Value, ∀ w ∈ Bundle.ownAtoms y.cls ic cls xUp, w.before A U = true)
    (hnl : Cond.classLink y.cls ixn cls ∈ fh_T) (hins : Cond.instantiable cls 6 ∈ fh_T) (hini : Cond.initialized cls ∈ fh_T) (hout : ∀ pc : Nat, ∀ x ∈ c.exceptionTable.toList, covers x pc = false) (hP : fh_P D fh_cl b h n H) (hS : va_S (fh_A b) s.heap H locs) (hl : ls.size = nL)
    (h0 : decode cc pc = .ok (.new ixn, 3)) (h3 : decode cc (pc + 3) = .ok (.dup, 1)) (h4 : decode cc (pc + 4) = .ok (.ldc ixs, 2)) (h6 : decode cc (pc + 6) = .ok (.invokespecial ic, 3)) (h9 : decode cc (pc + 9) = .ok (.athrow, 1)) (hr : 8 ≤ r) (hf : cells + 1 ≤ mc0 ∧ slots + 6 ≤ ms0) (hp : post h (n + 1)) :
    W p l e (fh_rm r mc0 ms0) s m args below meth c H locs cells slots (MQT below (fh_PostT D fh_cl b cls post) args s (cells + 1) (slots + 6) (fh_A b)) (F0 m pc ls []) := by
  obtain ⟨hx, hb, hml, hown, hT, hK, hRO, hbs, hrt, hlk, hnm⟩ := X
  intro T hTH XT
  have hXr := fh_reroot (R' := fh_rm r 1 6) XT (Nat.le_refl _) (Nat.le_refl _) hf.1 hf.2
  generalize hs' : T.setFrames (.invoking m args :: below) = s' at hXr
  have hvm : s'.vm = T.vm := by rw [← hs']; rfl
  have hhp : s'.heap = H := by rw [← hs']; exact hTH
  have hW : s.WarmedH s'.vm := by rw [hvm]; exact XT.warmed
  have hRO' : RO s' := hR.2 s s' hRO hbs hW (fun q hq => by rw [hhp]; exact hS.2.1 q (by omega) (by show ¬ b ≤ q; omega))
  have hown' : s'.vm.findClass y.cls = some m.cls := by rw [hW.alike.findClass]; exact hown
  have hT' : ∀ w ∈ fh_T, w.before args s' = true := fun w hw => word_at hW (fh_Tgood _ hw) (hT w hw)
  have key : W p l e (fh_rm r 1 6) s' m args below meth c H [] 0 0 (fun t => t.status = .running ∧ Ended t below (.threw n) ∧ s'.WarmedH t.vm ∧ s'.sameButNew ({ t with vm := s'.vm } : State) [] 1 6 ∧ ∃ ce, t.heap[n]? = some ce ∧ Bundle.OwnCell args s' cls n (.ref q) ce) (F0 m pc ls []) := by
    refine W.newc (own := y.cls) (C := cls) (n := 6) hx hb hown' (hT' _ hnl) (hT' _ hins) (hT' _ hini) rfl h0 (Nat.le_refl _) (Nat.le_refl _) (fun cC kC f1 f2 f3 f4 => ?_)
    have hsz := hP.1
    rw [hsz]
    show W p l e (fh_rm r 1 6) s' m args below meth c _ [] 1 6 _ (F0 m (pc + 3) ls [.ref n])
    refine lv_dup hx hb h3 rfl ?_
    refine va_ldcS (own := y.cls) hx hb hown' (hq _ hRO') h4 ?_
    intro T2 hT2 X2
    obtain ⟨U, st, hrun, hend, hWU, hsame, hce⟩ := X2.ctorThrowS hx (by rw [XT.admits.platform]; exact htr) (own := y.cls) (cls := cls) (names := xUp) (ic := ic) hown' hfit (by decide +kernel) (hown9 s' (hRX _ hRO') args) (fun _ hy => by cases hy) f1 f2 (a := n) (by rw [hT2, ← hsz]; exact Array.getElem?_push_size ..) (by rw [hhp, hsz]; exact Nat.le_refl _) (msg := .ref q) rfl
      (g := F0 m (pc + 6) ls [.ref q, .ref n, .ref n]) rfl (hl.trans hml.symm) rfl rfl (rest := []) rfl (by rw [hb]; exact h6) (by rw [hb]; exact h9) (hout _) (by simp [xUp]; omega) (by simp [xUp, Value.category, JFrame.monitorRoom]; omega) hlk
    exact ⟨U, st, hrun, hend, hWU, hsame, hce⟩
  obtain ⟨t, st, hrun, hend, hWt, hsame, ce, hce, K⟩ := key T hTH hXr
  have hsz := hP.1
  have hold : ∀ q9 : Nat, q9 < n → t.heap[q9]? = H[q9]? := by
    intro q9 hq9
    have hlt : q9 < H.size := by omega
    have hcell : H[q9]? = some H[q9] := Array.getElem?_eq_getElem hlt
    obtain ⟨c', g1, g2, g3, g4⟩ := hsame.2.2.2.2.2 q9 H[q9] (by rw [hhp]; exact hcell)
    have g1' : t.heap[q9]? = some c' := g1
    rw [g1', hcell, g2]
    have : c'.slots = H[q9].slots := Array.ext (by rw [g3]) (fun i i1 i2 => by
      have := g4 i (by simp)
      rw [Array.getElem?_eq_getElem i1, Array.getElem?_eq_getElem i2] at this
      exact Option.some.inj this)
    rw [this]
  have htsz : t.heap.size = n + 1 := by
    have k1 : t.heap.size ≤ s'.heap.size + 1 := hsame.2.2.1
    have k2 := (Array.getElem?_eq_some_iff.mp hce).1
    rw [hhp] at k1
    omega
  have hbn := hP.2.1
  have hs1 := hS.1
  refine ⟨t, st, .threw n, hrun, hend, ⟨n, h, n + 1, ce, rfl, hp, hP.more htsz hold hce (by rw [K.vm]; rfl), ⟨by omega, fun q9 k1 k2 => (hold q9 (by omega)).trans (hS.2.1 q9 k1 k2)⟩, hce, by rw [← hW.alike.findClass]; exact K.cls, K.vm⟩, locs, ⟨State.WarmedH.trans hW hWt, ?_⟩, hS.2.2⟩
  have hs2 : s.sameButNew (s'.setVm s.vm) locs cells slots := by
    have := XT.same.setFrames (.invoking m args :: below) XT.cur
    rw [← hs']; exact this
  have hs3 := hs2.trans (hsame.setVm s.vm)
  rw [List.append_nil] at hs3
  exact hs3
end FT
