/-! Pure: the class's setting against the reference's arrays: scripts and limits. By hand. -/
/-- both sides' words for scripts -/
theorem e_up {s cr : Nat} {cv h ud : Int32} (hcr : cr < 2) (hcv : cv = nI cr) : raO s cr ud h = vUp s cv h ud := by
  have e : (if cr = 0 then (4 : Int32) else 3) = if cv = 0 then 4 else 3 := by
    rcases (by omega : cr = 0 ∨ cr = 1) with rfl | rfl
    · rw [hcv]; rfl
    · rw [hcv]; rfl
  unfold raO vUp
  rw [ms_mx, ms_mx, mx_assoc, e]
theorem e_d0 {s : Nat} {d lh : Int32} : drO s lh d = vD0 s d lh := by
  unfold drO vD0
  rw [ms_mx, ms_mx, mx_assoc]
theorem e_dn {s : Nat} (hs : s < 4) {up ud lh d : Int32} (h1 : 0 ≤ ud.toInt ∧ ud.toInt ≤ 100000000) (h2 : 0 ≤ lh.toInt ∧ lh.toInt ≤ 100000000) (h3 : ud.toInt + 5 ≤ up.toInt ∧ up.toInt ≤ 300000000) (h4 : 0 ≤ d.toInt ∧ d.toInt ≤ 100000000) : drU s lh d up ud = vDn s up ud lh (vD0 s d lh) := by
  obtain ⟨-, -, -, -, -, -, -, -, -, -, -, c12, -⟩ := cy s hs
  have f0 := v_d0 hs (d := d) (lh := lh) h4 h2
  have f2 := v_dn hs (up := up) (ud := ud) (lh := lh) (d0 := vD0 s d lh) h1 h2 h3 (by omega)
  apply Int32.toInt_inj.mp
  rw [f2.2.2]
  unfold drU
  rw [e_d0]
  have e1 : (up - ud).toInt = up.toInt - ud.toInt := tS (by omega) (by omega)
  have e2 : (lh - vD0 s d lh).toInt = lh.toInt - (vD0 s d lh).toInt := tS (by omega) (by omega)
  have e3 : ((up - ud) - (lh - vD0 s d lh)).toInt = (up - ud).toInt - (lh - vD0 s d lh).toInt := tS (by omega) (by omega)
  have e4 : (4 * yT s - (up - ud - (lh - vD0 s d lh))).toInt = (4 * yT s).toInt - (up - ud - (lh - vD0 s d lh)).toInt := tS (by omega) (by omega)
  have e5 := mx_toInt 0 (4 * yT s - (up - ud - (lh - vD0 s d lh)))
  rw [show (0 : Int32).toInt = 0 from by decide] at e5
  have e6 : (vD0 s d lh + mx 0 (4 * yT s - (up - ud - (lh - vD0 s d lh)))).toInt = (vD0 s d lh).toInt + (mx 0 (4 * yT s - (up - ud - (lh - vD0 s d lh)))).toInt := tA (by split at e5 <;> omega) (by split at e5 <;> omega)
  rw [e6, e5]
  (repeat' split) <;> omega
theorem e_w1 {w u : Int32} (h1 : 0 ≤ w.toInt ∧ w.toInt ≤ 100000000) (h2 : 0 ≤ u.toInt ∧ u.toInt ≤ 100000000) : mx w (w + u) = w + u := by
  have e : (w + u).toInt = w.toInt + u.toInt := tA (by omega) (by omega)
  apply Int32.toInt_inj.mp
  rw [mx_toInt]
  split <;> omega
theorem e_lim {w : Int32} (hw : 0 ≤ w.toInt) (u l : Option Int32) (h : ¬ (u = none ∧ l = none)) : pwW (pwW w u) l = ms w (ms (u.elim 0 id) (l.elim 0 id)) := by
  have z : (0 : Int32).toInt = 0 := by decide
  cases u with
  | none =>
    cases l with
    | none => exact absurd ⟨rfl, rfl⟩ h
    | some l =>
      show mx w l = ms w (ms 0 l)
      apply Int32.toInt_inj.mp
      rw [ms_mx, ms_mx, mx_toInt, mx_toInt, mx_toInt, z]
      (repeat' split) <;> omega
  | some u =>
    cases l with
    | none =>
      show mx w u = ms w (ms u 0)
      apply Int32.toInt_inj.mp
      rw [ms_mx, ms_mx, mx_toInt, mx_toInt, mx_toInt, z]
      (repeat' split) <;> omega
    | some l =>
      show mx (mx w u) l = ms w (ms u l)
      rw [ms_mx, ms_mx, mx_assoc]
section
variable {C0 : Nat → Nat → Int32} {R : Nat → Nat → Option Nat} {CL0 : Nat → Nat → Int32} {RL : Nat → Nat → Option Nat} {B X : Nat → Nat → Int32} {N s0 : Nat}
theorem mz_F (hF : FINX X B N s0) {a e : Nat} (he : e ≤ N) : MZ X B a e := ⟨hF.1, fun m _ m2 => ⟨(hF.2.1 m (by omega)).2.2.2, (hF.2.1 m (by omega)).1⟩⟩
theorem SN_lim {d : Nat} {x : XT} (h : SN C0 R CL0 RL B d x.1 x.2.1 x.2.2.1 x.2.2.2) (hF : FINX X B N s0) (si : Nat) : ((si = 0 ∧ (R x.1 5 = some 2 ∨ R x.1 5 = some 3)) ↔ (X 1 (xn x) = 2 ∧ ¬ X 2 (xn x) = 73 ∧ si = 0)) ∧ (R x.1 5 = some 4 ↔ (X 1 (xn x) = 2 ∧ X 2 (xn x) = 73)) := by
  cases d with
  | zero => exact h.elim
  | succ d =>
    obtain ⟨k, hk, h5, ⟨h1, -⟩, h2, -, h⟩ := h
    have e1 : X 1 (xn x) = kR k := by rw [hF.1 1 (by decide)]; exact h1
    have e2 : X 2 (xn x) = C0 x.1 7 := by rw [hF.1 2 (by decide)]; exact h2
    have hkk : 2 ≤ k ∧ k ≤ 4 → C0 x.1 7 = kO k := fun hk4 => by
      unfold SK at h
      rw [if_pos (Or.inr hk4)] at h
      exact h.2.2.2.2.resolve_left (by omega)
    rw [h5, e1, e2]
    by_cases c : 2 ≤ k ∧ k ≤ 4
    · rw [hkk c]
      rcases (by omega : k = 2 ∨ k = 3 ∨ k = 4) with rfl | rfl | rfl
      · simp [kR, kO]; try decide
      · simp [kR, kO]; try decide
      · simp [kR, kO]; try decide
    · have e3 : ¬ kR k = 2 := by
        rcases (by omega : k = 0 ∨ k = 1 ∨ k = 5 ∨ k = 6 ∨ k = 7 ∨ k = 8 ∨ k = 9 ∨ k = 10) with rfl | rfl | rfl | rfl | rfl | rfl | rfl | rfl <;> decide
      refine ⟨⟨fun z => ?_, fun z => absurd z.1 e3⟩, ⟨fun z => ?_, fun z => absurd z.1 e3⟩⟩
      · rcases z.2 with w | w
        · have := Option.some.inj w; omega
        · have := Option.some.inj w; omega
      · have := Option.some.inj z; omega
end
