/-! Pure: the class's tables and the reference's arrays say the same tree. A part lies at nuclei i to before i' and lines l to before l'; its node is i + l. By hand. -/
abbrev XT : Type := Nat × Nat × Nat × Nat
abbrev PR : Type := Nat → Nat → Nat → Nat → Prop
abbrev xn (q : XT) : Nat := q.1 + q.2.1
abbrev xo (o : Option XT) : Nat := o.elim 0 xn
/-- the reference's kind of the class's kind -/
def kR (k : Nat) : Int32 := ([1, 3, 2, 2, 2, 4, 5, 6, 7, 8, 9] : List Int32).getD k 0
/-- parts one behind the other -/
def chn : Nat → Nat → List XT → Nat → Nat → Prop
  | i, l, [], i', l' => i = i' ∧ l = l'
  | i, l, q :: t, i', l' => q.1 = i ∧ q.2.1 = l ∧ chn q.2.2.1 q.2.2.2 t i' l'
/-- links from each to the next -/
def lkR (R : Nat → Nat → Option Nat) : List XT → Prop
  | [] => True
  | q :: t => R q.1 14 = t.head?.map (fun z => z.1) ∧ lkR R t
def lkL (RL : Nat → Nat → Option Nat) : List XT → Prop
  | [] => True
  | q :: t => RL q.2.1 8 = t.head?.map (fun z => z.2.1) ∧ lkL RL t
def lkA (f : Nat → Int32) : List XT → Prop
  | [] => True
  | q :: t => f (xn q) = nI (xo t.head?) ∧ lkA f t
/-- classes as they become in a line -/
def se1 : Option Nat → List Nat → List Nat
  | _, [] => []
  | bf, s :: t => (if s = 2 ∧ (bf = none ∨ bf = some 2 ∨ bf = some 1 ∨ bf = some 3 ∨ bf = some 4 ∨ bf = some 6) then 0 else s) :: se1 (some (if s = 2 ∧ (bf = none ∨ bf = some 2 ∨ bf = some 1 ∨ bf = some 3 ∨ bf = some 4 ∨ bf = some 6) then 0 else s)) t
def se2 : List Nat → List Nat
  | [] => []
  | s :: t => (if s = 2 ∧ (t.head? = none ∨ t.head? = some 3 ∨ t.head? = some 5 ∨ t.head? = some 6) then 0 else s) :: se2 t
/-- a nucleus without scripts that belongs to node o; sc: as a script -/
def SB (R : Nat → Nat → Option Nat) (A : Nat → Nat → Int32) (P : PR) (o : Nat) (sc : Int32) (q : XT) : Prop := P q.1 q.2.1 q.2.2.1 q.2.2.2 ∧ (R q.1 12 = none ∧ R q.1 13 = none) ∧ (A 12 (xn q) = 0 ∧ A 13 (xn q) = 0) ∧ A 14 (xn q) = nI o ∧ A 15 (xn q) = sc
/-- an item: a nucleus with its scripts -/
def SI (R : Nat → Nat → Option Nat) (A : Nat → Nat → Int32) (P : PR) (x : XT) : Prop := ∃ (i1 l1 : Nat) (ou ol : Option XT), P x.1 x.2.1 i1 l1 ∧ (i1 ≤ x.2.2.1 ∧ l1 ≤ x.2.2.2) ∧ (R x.1 12 = ou.map (fun z => z.1) ∧ R x.1 13 = ol.map (fun z => z.1)) ∧ (A 12 (xn x) = nI (xo ou) ∧ A 13 (xn x) = nI (xo ol)) ∧ (∀ q, ou = some q → SB R A P (xn x) 1 q ∧ (i1 ≤ q.1 ∧ l1 ≤ q.2.1 ∧ q.2.2.1 ≤ x.2.2.1 ∧ q.2.2.2 ≤ x.2.2.2)) ∧ (∀ q, ol = some q → SB R A P (xn x) 1 q ∧ (i1 ≤ q.1 ∧ l1 ≤ q.2.1 ∧ q.2.2.1 ≤ x.2.2.1 ∧ q.2.2.2 ≤ x.2.2.2)) ∧ (∀ q p, ou = some q → ol = some p → (q.2.2.1 ≤ p.1 ∧ q.2.2.2 ≤ p.2.1) ∨ (p.2.2.1 ≤ q.1 ∧ p.2.2.2 ≤ q.2.1)) ∧ ∃ ys : List XT, chn i1 l1 ys x.2.2.1 x.2.2.2 ∧ (ys = ou.toList ++ ol.toList ∨ ys = ol.toList ++ ou.toList)
/-- a line -/
def SL (R RL : Nat → Nat → Option Nat) (A : Nat → Nat → Int32) (P : PR) (x : XT) : Prop := (A 1 (xn x) = 0 ∧ A 10 (xn x) = 0 ∧ A 11 (xn x) = 0 ∧ A 12 (xn x) = 0 ∧ A 13 (xn x) = 0) ∧ ∃ (xs : List XT) (so : List Nat), chn x.1 (x.2.1 + 1) xs x.2.2.1 x.2.2.2 ∧ (∀ q ∈ xs, SI R A P q ∧ A 14 (xn q) = nI (xn x) ∧ A 15 (xn q) = 0) ∧ RL x.2.1 5 = xs.head?.map (fun z => z.1) ∧ A 6 (xn x) = nI (xo xs.head?) ∧ lkR R xs ∧ lkA (A 7) xs ∧ xs.map (fun q => A 4 (xn q)) = so.map nI ∧ (∀ s ∈ so, s < 8) ∧ xs.map (fun q => R q.1 6) = (se2 (se1 none so)).map some
/-- where the cells stand -/
def cpo (CL : Nat → Nat → Int32) : Nat → Nat → List XT → Prop
  | _, _, [] => True
  | r, c, q :: t => r < 8 ∧ c < 8 ∧ CL q.2.1 6 = nI r ∧ CL q.2.1 7 = nI c ∧ (cpo CL r (c + 1) t ∨ cpo CL (r + 1) 0 t)
abbrev okd (v : Int32) : Prop := v = nI (ixI v) ∧ ixI v < 128
/-- what lies within nucleus i of kind k -/
def SK (C : Nat → Nat → Int32) (R : Nat → Nat → Option Nat) (CL : Nat → Nat → Int32) (RL : Nat → Nat → Option Nat) (A : Nat → Nat → Int32) (P : PR) (k : Nat) (x : XT) : Prop :=
  if k = 0 ∨ (2 ≤ k ∧ k ≤ 4) then x.2.2.1 = x.1 + 1 ∧ x.2.2.2 = x.2.1 ∧ A 10 (xn x) = 0 ∧ A 11 (xn x) = 0 ∧ (k = 0 ∨ C x.1 7 = kO k)
  else if k = 1 ∨ k = 9 then R x.1 11 = some x.2.1 ∧ A 10 (xn x) = nI (xn x + 1) ∧ A 11 (xn x) = 0 ∧ SL R RL A P (x.1 + 1, x.2.1, x.2.2.1, x.2.2.2) ∧ A 14 (xn x + 1) = nI (xn x) ∧ A 15 (xn x + 1) = 0 ∧ (k = 9 → A 3 (xn x) = C x.1 8 ∧ okd (C x.1 8))
  else if k = 5 then ∃ i1 l1, R x.1 9 = some (x.1 + 1) ∧ R x.1 10 = some i1 ∧ A 10 (xn x) = nI (xn x + 1) ∧ A 11 (xn x) = nI (i1 + l1) ∧ SB R A P (xn x) 0 (x.1 + 1, x.2.1, i1, l1) ∧ SB R A P (xn x) 0 (i1, l1, x.2.2.1, x.2.2.2)
  else if k < 9 then R x.1 9 = some (x.1 + 1) ∧ A 10 (xn x) = nI (xn x + 1) ∧ A 11 (xn x) = 0 ∧ SB R A P (xn x) 0 (x.1 + 1, x.2.1, x.2.2.1, x.2.2.2)
  else ∃ xs : List XT, ¬ xs = [] ∧ R x.1 11 = some x.2.1 ∧ A 10 (xn x) = 0 ∧ A 11 (xn x) = 0 ∧ A 6 (xn x) = nI (xn x + 1) ∧ chn (x.1 + 1) x.2.1 xs x.2.2.1 x.2.2.2 ∧ lkL RL xs ∧ lkA (A 7) xs ∧ (∀ q ∈ xs, SL R RL A P q ∧ A 14 (xn q) = nI (xn x) ∧ A 15 (xn q) = 0 ∧ A 8 (xn q) = CL q.2.1 6 ∧ A 9 (xn q) = CL q.2.1 7) ∧ cpo CL 0 0 xs
/-- a nucleus of at most d levels -/
def SN (C : Nat → Nat → Int32) (R : Nat → Nat → Option Nat) (CL : Nat → Nat → Int32) (RL : Nat → Nat → Option Nat) (A : Nat → Nat → Int32) : Nat → PR
  | 0 => fun _ _ _ _ => False
  | d + 1 => fun i l i' l' => ∃ k, k < 11 ∧ R i 5 = some k ∧ (A 1 (i + l) = kR k ∧ (k ≠ 10 → A 6 (i + l) = 0)) ∧ A 2 (i + l) = C i 7 ∧ okd (C i 7) ∧ SK C R CL RL A (SN C R CL RL A d) k (i, l, i', l')
theorem chn_le {P : PR} (hP : ∀ i l i' l', P i l i' l' → i < i' ∧ l ≤ l') : ∀ (xs : List XT) (i l i' l' : Nat), chn i l xs i' l' → (∀ q ∈ xs, q.1 ≤ q.2.2.1 ∧ q.2.1 ≤ q.2.2.2) → i ≤ i' ∧ l ≤ l'
  | [], i, l, i', l', h, _ => ⟨Nat.le_of_eq h.1, Nat.le_of_eq h.2⟩
  | q :: t, i, l, i', l', h, hq => by
    have g := chn_le hP t _ _ _ _ h.2.2 (fun z hz => hq z (List.mem_cons_of_mem _ hz))
    have g2 := hq q List.mem_cons_self
    have e1 := h.1
    have e2 := h.2.1
    omega
theorem SI_le {R : Nat → Nat → Option Nat} {A : Nat → Nat → Int32} {P : PR} (hP : ∀ i l i' l', P i l i' l' → i < i' ∧ l ≤ l') {x : XT} (h : SI R A P x) : x.1 < x.2.2.1 ∧ x.2.1 ≤ x.2.2.2 := by
  obtain ⟨i1, l1, ou, ol, h1, h2, -⟩ := h
  have := hP _ _ _ _ h1
  omega
theorem SL_le {R RL : Nat → Nat → Option Nat} {A : Nat → Nat → Int32} {P : PR} (hP : ∀ i l i' l', P i l i' l' → i < i' ∧ l ≤ l') {x : XT} (h : SL R RL A P x) : x.1 ≤ x.2.2.1 ∧ x.2.1 < x.2.2.2 := by
  obtain ⟨-, xs, so, h1, h2, -⟩ := h
  have := chn_le hP xs _ _ _ _ h1 (fun q hq => by have := SI_le hP (h2 q hq).1; omega)
  omega
theorem SN_le {C : Nat → Nat → Int32} {R : Nat → Nat → Option Nat} {CL : Nat → Nat → Int32} {RL : Nat → Nat → Option Nat} {A : Nat → Nat → Int32} : ∀ (d i l i' l' : Nat), SN C R CL RL A d i l i' l' → i < i' ∧ l ≤ l'
  | 0, _, _, _, _, h => h.elim
  | d + 1, i, l, i', l', h => by
    obtain ⟨k, hk, -, -, -, -, h⟩ := h
    have hP := SN_le (C := C) (R := R) (CL := CL) (RL := RL) (A := A) d
    unfold SK at h
    by_cases c1 : k = 0 ∨ (2 ≤ k ∧ k ≤ 4)
    · rw [if_pos c1] at h
      have e1 := h.1
      have e2 := h.2.1
      dsimp only at e1 e2
      omega
    · rw [if_neg c1] at h
      by_cases c2 : k = 1 ∨ k = 9
      · rw [if_pos c2] at h
        have := SL_le hP h.2.2.2.1
        dsimp only at this
        omega
      · rw [if_neg c2] at h
        by_cases c3 : k = 5
        · rw [if_pos c3] at h
          obtain ⟨i1, l1, -, -, -, -, g1, g2⟩ := h
          have e1 := hP _ _ _ _ g1.1
          have e2 := hP _ _ _ _ g2.1
          dsimp only at e1 e2
          omega
        · rw [if_neg c3] at h
          by_cases c4 : k < 9
          · rw [if_pos c4] at h
            have e1 := hP _ _ _ _ h.2.2.2.1
            dsimp only at e1
            omega
          · rw [if_neg c4] at h
            obtain ⟨xs, -, -, -, -, -, g1, -, -, g2, -⟩ := h
            have := chn_le hP xs _ _ _ _ g1 (fun q hq => by have := SL_le hP (g2 q hq).1; omega)
            dsimp only at this
            omega
