/-! Contracts over the heap as a function, and calls. -/
def fh_Pre (D : va_G) (cl : List vw_C) (tys : List (ClassId × FieldType)) (b : Nat) (RO : State → Prop) (av : List Value) (h : fh_H) (n : Nat) : Array Value → State → Prop := fun v U => v = av.toArray ∧ va_K D cl tys U ∧ RO U ∧ fh_P D cl b h n U.heap
def fh_Post (D : va_G) (cl : List vw_C) (b : Nat) (post : Option Value → fh_H → Nat → Prop) : Array Value → State → Outcome → State → Prop := fun _ st oc t => ∃ (r : Option Value) (h' : fh_H) (n' : Nat), oc = .returned r ∧ post r h' n' ∧ fh_P D cl b h' n' t.heap ∧ va_F (fh_A b) st t
/-- what is read only: it stays while nothing below b is written -/
def fh_R (b : Nat) (RO : State → Prop) : Prop := (∀ (U : State) (g : JFrame) (mk : MethodId) (a : Array Value), RO U → RO (U.calling g mk a)) ∧ ∀ s U : State, RO s → b ≤ s.heap.size → s.WarmedH U.vm → (∀ q : Nat, q < b → U.heap[q]? = s.heap[q]?) → RO U
def fh_C (l : Launch) (D : va_G) (cl : List vw_C) (tys : List (ClassId × FieldType)) (b : Nat) (RO : State → Prop) (y : MethodName) (ws : List Cond) (rm : Room) (av : List Value) (h : fh_H) (n : Nat) (post : Option Value → fh_H → Nat → Prop) (mc ms : Nat) : Prop :=
  Met l y ws rm (fh_Pre D cl tys b RO av h n) (fh_Post D cl b post) mc ms (fh_A b)
theorem fh_blind {D : va_G} {cl : List vw_C} {tys : List (ClassId × FieldType)} {b : Nat} {RO : State → Prop} {av : List Value} {h : fh_H} {n : Nat} (hR : fh_R b RO) : FrameBlind (fh_Pre D cl tys b RO av h n) := fun a U g mk q => ⟨q.1, va_K.moved (u := U) (U := U.calling g mk a) (Vm.Alike.refl U.vm) q.2.1, hR.1 U g mk a q.2.2.1, q.2.2.2⟩
section FC
variable {p : Program} {l : Launch} {e : Env} {R : Room} {s : State} {m : MethodId} {args : Array Value} {below : List Frame} {meth : Method} {c : Code} {H : Heap} {locs : List Loc} {cells slots : Nat} {Q : State → Prop}
variable {cc : ByteArray} {pc : Nat} {ls : Array Slot} {rest st0 : List Value} {D : va_G} {cl : List vw_C} {b n a : Nat} {h : fh_H} {tys : List (ClassId × FieldType)} {RO : State → Prop}
theorem fh_pre (hR : fh_R b RO) (hK : va_K D cl tys s) (hRO : RO s) (hbs : b ≤ s.heap.size) (hP : fh_P D cl b h n H) (hS : va_S (fh_A b) s.heap H locs) (av : List Value) : ∀ U : State, U.heap = H → s.WarmedH U.vm → fh_Pre D cl tys b RO av h n av.toArray U := fun U hU hW => ⟨rfl, va_K.moved hW.alike hK, hR.2 s U hRO hbs hW (fun q hq => by rw [hU]; exact hS.2.1 q (by omega) (by omega)), by rw [hU]; exact hP⟩
theorem fh_call {post : Option Value → fh_H → Nat → Prop} {av : Array Value} {mc ms : Nat} (hr : va_Run p l e R s m args below meth c H locs cells slots mc ms (F0 m pc ls st0) rest (fh_Post D cl b post av) (fh_A b)) (hS : va_S (fh_A b) s.heap H locs)
    (kk : ∀ (r : Option Value) (h' : fh_H) (n' : Nat) (H1 : Heap) (locs1 : List Loc), post r h' n' → fh_P D cl b h' n' H1 → va_S (fh_A b) s.heap H1 locs1 → W p l e R s m args below meth c H1 locs1 (cells + mc) (slots + ms) Q (F0 m (pc + 3) ls (r.toList ++ rest))) : W p l e R s m args below meth c H locs cells slots Q (F0 m pc ls st0) := by
  intro T hT X
  obtain ⟨v, st₀, t, T', L, h0, X', hL, e1, e2, ⟨r, h', n', hv, hp, hP, hz, hk⟩, st⟩ := hr T hT X
  cases hv
  rw [h0] at hz hk
  obtain ⟨t2, a1, b1⟩ := kk v h' n' T'.heap (locs ++ L) hp (by rw [e1]; exact hP)
    ⟨Nat.le_trans hS.1 (by rw [e1]; exact hz), fun q h1 h2 => by rw [e1, hk q (Nat.lt_of_lt_of_le h1 hS.1) h2]; exact hS.2.1 q h1 h2, fun q hq => by
      rcases List.mem_append.mp hq with h | h
      · exact hS.2.2 q h
      · exact hL q h⟩ T' rfl X'
  exact ⟨t2, st t2 a1, b1⟩
end FC
