/-! What the law keeps: both sides show the same; the steps but set and isFormula. Printed by wip/whole/gen/p79.py -/
theorem fh_C.mono {l : Launch} {D : va_G} {cl : List vw_C} {tys : List (ClassId × FieldType)} {b : Nat} {RO : State → Prop} {y : MethodName} {ws : List Cond} {rm : Room} {av : List Value} {h : fh_H} {n : Nat} {post post' : Option Value → fh_H → Nat → Prop} {mc ms : Nat} (hC : fh_C l D cl tys b RO y ws rm av h n post mc ms) (hp : ∀ v h' n', post v h' n' → post' v h' n') : fh_C l D cl tys b RO y ws rm av h n post' mc ms := by
  intro p e ha hc hk s m args below hf happ hP hK
  obtain ⟨k, o, h1, h2, h3, ⟨r, h', n', e1, e2, e3, e4⟩, h5⟩ := hC p e ha hc hk s m args below hf happ hP hK
  exact ⟨k, o, h1, h2, h3, ⟨r, h', n', e1, hp _ _ _ e2, e3, e4⟩, h5⟩
/-- both sides show the same -/
def wInv (ct : Nat → ClassId) (kA aA : Nat → Nat) (B : Nat) (h : fh_H) (n : Nat) : Prop := ∃ (L P : Nat) (w hh d : Int32) (f F W0 H0 D0 : Nat → Int32) (rows cols nc lc : Int32) (tx : Value) (len at_ : Int32) (C : Nat → Nat → Int32) (R : Nat → Nat → Option Nat) (CL : Nat → Nat → Int32) (RL : Nat → Nat → Option Nat) (A : Nat → Nat → Int32) (th at2 wr no nu op : Int32) (fo : Nat → Int64), h = bigH ct kA aA B (nI L) w hh d f (nI P) F W0 H0 D0 rows cols nc lc tx len at_ C R CL RL A th (nI L) at2 wr no nu op (nI P) w hh d fo ∧ B + 277 ≤ n ∧ L ≤ 160 ∧ P ≤ 120 ∧ f = A 0 ∧ (∀ j, f j = nI (ixI (f j)) ∧ ixI (f j) < 128) ∧ (∀ j, j < 6 * P → F j = A 41 j) ∧ okR C CL
theorem wInv_0 (ct : Nat → ClassId) (kA aA : Nat → Nat) (B : Nat) : wInv ct kA aA B (law_h0 ct B) (B + 277) :=
  ⟨0, 0, 0, 0, 0, fun _ => 0, fun _ => 0, fun _ => 0, fun _ => 0, fun _ => 0, 0, 0, 0, 0, .null, 0, 0, fun _ _ => 0, fun _ _ => none, fun _ _ => 0, fun _ _ => none, fun _ _ => 0, 0, 0, 0, 0, 0, 0, fun _ => 0, law_h0_big ct kA aA B, Nat.le_refl _, by omega, by omega, rfl, fun _ => (by decide : (0 : Int32) = nI (ixI 0) ∧ ixI 0 < 128), fun j hj => by omega, okR_0⟩
theorem sp_width_ok {l : Launch} {D : va_G} {ct : Nat → ClassId} {B : Nat} {RO : State → Prop} {kA aA : Nat → Nat} {h : fh_H} {n : Nat} (hI : wInv ct kA aA B h n) : sp_width l D ct B RO h n (wInv ct kA aA B) := by
  obtain ⟨L, P, w, hh, d, f, F, W0, H0, D0, rows, cols, nc, lc, tx, len, at_, C, R, CL, RL, A, th, at2, wr, no, nu, op, fo, e, h1, h2, h3, h4, h5, h6, h7⟩ := hI
  refine ⟨fun w' h' n' => w = w' ∧ h' = h ∧ n' = n, (m_FS_width l D ct B RO 1300 n B (nI L) w hh d h (by rw [e]; exact big_x)).mono (fun v h' n' q => ⟨_, q.1, rfl, q.2⟩), ?_⟩
  rintro w' h' n' ⟨rfl, rfl, rfl⟩
  have hy : h' (B + 233) = some (mo_s (B + 233) th (nI L) at2 wr no nu op (nI P) w hh d) := by rw [e]; exact big_y
  refine ⟨⟨_, hy⟩, (m_Mo_width l D ct B RO 1300 n' (B + 233) th (nI L) at2 wr no nu op (nI P) w hh d h' hy).mono (fun v h'' n'' q => ⟨q.1, ?_⟩)⟩
  obtain ⟨-, q1, q2⟩ := q
  rw [q2]
  exact ⟨L, P, w, hh, d, f, F, W0, H0, D0, rows, cols, nc, lc, tx, len, at_, C, R, CL, RL, A, 0, at2, wr, no, nu, op, fo, by rw [q1, e, big_uy], h1, h2, h3, h4, h5, h6, h7⟩
theorem sp_height_ok {l : Launch} {D : va_G} {ct : Nat → ClassId} {B : Nat} {RO : State → Prop} {kA aA : Nat → Nat} {h : fh_H} {n : Nat} (hI : wInv ct kA aA B h n) : sp_height l D ct B RO h n (wInv ct kA aA B) := by
  obtain ⟨L, P, w, hh, d, f, F, W0, H0, D0, rows, cols, nc, lc, tx, len, at_, C, R, CL, RL, A, th, at2, wr, no, nu, op, fo, e, h1, h2, h3, h4, h5, h6, h7⟩ := hI
  refine ⟨fun w' h' n' => hh = w' ∧ h' = h ∧ n' = n, (m_FS_height l D ct B RO 1300 n B (nI L) w hh d h (by rw [e]; exact big_x)).mono (fun v h' n' q => ⟨_, q.1, rfl, q.2⟩), ?_⟩
  rintro w' h' n' ⟨rfl, rfl, rfl⟩
  have hy : h' (B + 233) = some (mo_s (B + 233) th (nI L) at2 wr no nu op (nI P) w hh d) := by rw [e]; exact big_y
  refine ⟨⟨_, hy⟩, (m_Mo_height l D ct B RO 1300 n' (B + 233) th (nI L) at2 wr no nu op (nI P) w hh d h' hy).mono (fun v h'' n'' q => ⟨q.1, ?_⟩)⟩
  obtain ⟨-, q1, q2⟩ := q
  rw [q2]
  exact ⟨L, P, w, hh, d, f, F, W0, H0, D0, rows, cols, nc, lc, tx, len, at_, C, R, CL, RL, A, 0, at2, wr, no, nu, op, fo, by rw [q1, e, big_uy], h1, h2, h3, h4, h5, h6, h7⟩
theorem sp_depth_ok {l : Launch} {D : va_G} {ct : Nat → ClassId} {B : Nat} {RO : State → Prop} {kA aA : Nat → Nat} {h : fh_H} {n : Nat} (hI : wInv ct kA aA B h n) : sp_depth l D ct B RO h n (wInv ct kA aA B) := by
  obtain ⟨L, P, w, hh, d, f, F, W0, H0, D0, rows, cols, nc, lc, tx, len, at_, C, R, CL, RL, A, th, at2, wr, no, nu, op, fo, e, h1, h2, h3, h4, h5, h6, h7⟩ := hI
  refine ⟨fun w' h' n' => d = w' ∧ h' = h ∧ n' = n, (m_FS_depth l D ct B RO 1300 n B (nI L) w hh d h (by rw [e]; exact big_x)).mono (fun v h' n' q => ⟨_, q.1, rfl, q.2⟩), ?_⟩
  rintro w' h' n' ⟨rfl, rfl, rfl⟩
  have hy : h' (B + 233) = some (mo_s (B + 233) th (nI L) at2 wr no nu op (nI P) w hh d) := by rw [e]; exact big_y
  refine ⟨⟨_, hy⟩, (m_Mo_depth l D ct B RO 1300 n' (B + 233) th (nI L) at2 wr no nu op (nI P) w hh d h' hy).mono (fun v h'' n'' q => ⟨q.1, ?_⟩)⟩
  obtain ⟨-, q1, q2⟩ := q
  rw [q2]
  exact ⟨L, P, w, hh, d, f, F, W0, H0, D0, rows, cols, nc, lc, tx, len, at_, C, R, CL, RL, A, 0, at2, wr, no, nu, op, fo, by rw [q1, e, big_uy], h1, h2, h3, h4, h5, h6, h7⟩
theorem sp_pieces_ok {l : Launch} {D : va_G} {ct : Nat → ClassId} {B : Nat} {RO : State → Prop} {kA aA : Nat → Nat} {h : fh_H} {n : Nat} (hI : wInv ct kA aA B h n) : sp_pieces l D ct B RO h n (wInv ct kA aA B) := by
  obtain ⟨L, P, w, hh, d, f, F, W0, H0, D0, rows, cols, nc, lc, tx, len, at_, C, R, CL, RL, A, th, at2, wr, no, nu, op, fo, e, h1, h2, h3, h4, h5, h6, h7⟩ := hI
  refine ⟨fun w' h' n' => (nI P) = w' ∧ h' = h ∧ n' = n, (m_FS_pieces l D ct B RO 1300 n B (nI L) w hh d (nI P) h (by rw [e]; exact big_x) (by rw [e]; exact big_ts) (by rw [e]; exact big_sh)).mono (fun v h' n' q => ⟨_, q.1, rfl, q.2⟩), ?_⟩
  rintro w' h' n' ⟨rfl, rfl, rfl⟩
  have hy : h' (B + 233) = some (mo_s (B + 233) th (nI L) at2 wr no nu op (nI P) w hh d) := by rw [e]; exact big_y
  refine ⟨⟨_, hy⟩, (m_Mo_pieces l D ct B RO 1300 n' (B + 233) th (nI L) at2 wr no nu op (nI P) w hh d h' hy).mono (fun v h'' n'' q => ⟨q.1, ?_⟩)⟩
  obtain ⟨-, q1, q2⟩ := q
  rw [q2]
  exact ⟨L, P, w, hh, d, f, F, W0, H0, D0, rows, cols, nc, lc, tx, len, at_, C, R, CL, RL, A, 0, at2, wr, no, nu, op, fo, by rw [q1, e, big_uy], h1, h2, h3, h4, h5, h6, h7⟩
theorem sp_wipe_ok {l : Launch} {D : va_G} {ct : Nat → ClassId} {B : Nat} {RO : State → Prop} {kA aA : Nat → Nat} {h : fh_H} {n : Nat} (hI : wInv ct kA aA B h n) : sp_wipe l D ct B RO h n (wInv ct kA aA B) := by
  obtain ⟨L, P, w, hh, d, f, F, W0, H0, D0, rows, cols, nc, lc, tx, len, at_, C, R, CL, RL, A, th, at2, wr, no, nu, op, fo, e, h1, h2, h3, h4, h5, h6, h7⟩ := hI
  have ez : (0 : Int32) = nI 0 := by decide
  refine ⟨fun w' h' n' => w' = nI L ∧ h' = fh_up h B (fs_o B 0 w hh d) ∧ n' = n, (m_FS_wipe l D ct B RO 1300 n B (nI L) w hh d h (by rw [e]; exact big_x)).mono (fun v h' n' q => ⟨_, q.1, rfl, q.2⟩), ?_⟩
  rintro w' h' n' ⟨rfl, e1, rfl⟩
  rw [e, big_ux] at e1
  have hy : h' (B + 233) = some (mo_s (B + 233) th (nI L) at2 wr no nu op (nI P) w hh d) := by rw [e1]; exact big_y
  refine ⟨⟨_, hy⟩, (m_Mo_wipe l D ct B RO 1300 n' (B + 233) th (nI L) at2 wr no nu op (nI P) w hh d h' hy).mono (fun v h'' n'' q => ⟨q.1, ?_⟩)⟩
  obtain ⟨-, q1, q2⟩ := q
  rw [q2]
  rw [e1, big_uy, ez] at q1
  exact ⟨0, P, w, hh, d, f, F, W0, H0, D0, rows, cols, nc, lc, tx, len, at_, C, R, CL, RL, A, nI 0, at2, wr, no, nu, op, fo, q1, h1, by omega, h3, h4, h5, h6, h7⟩
theorem ty_t_ok {c : Int64} {K L t : Nat} {tx : Nat → Int32} (hb : ∀ i, i < K → 32 ≤ fb c i ∧ fb c i ≤ 126) (hK : 1 ≤ K) (h : ∀ j, tx j = nI (ixI (tx j)) ∧ ixI (tx j) < 128) : ∀ j, ty_t c K L t tx j = nI (ixI (ty_t c K L t tx j)) ∧ ixI (ty_t c K L t tx j) < 128 := by
  intro j
  unfold ty_t
  by_cases g : L ≤ j ∧ j < L + t
  · rw [if_pos g]
    have h9 := hb (K - 1 - (j - L)) (by omega)
    have h8 : ixI (nI (fb c (K - 1 - (j - L)))) = fb c (K - 1 - (j - L)) := nI_clamp (by omega)
    rw [h8]
    exact ⟨rfl, by omega⟩
  · rw [if_neg g]; exact h j
theorem sp_type_ok {l : Launch} {D : va_G} {ct : Nat → ClassId} {B : Nat} {RO : State → Prop} {kA aA : Nat → Nat} {h : fh_H} {n : Nat} (hR : fh_R B RO) (c0 : Int64) (k0 : Int32) (hI : wInv ct kA aA B h n) : sp_type l D ct B RO c0 k0 h n (wInv ct kA aA B) := by
  obtain ⟨L, P, w, hh, d, f, F, W0, H0, D0, rows, cols, nc, lc, tx, len, at_, C, R, CL, RL, A, th, at2, wr, no, nu, op, fo, e, h1, h2, h3, h4, h5, h6, h7⟩ := hI
  refine ⟨fun w' h' n' => n' = n ∧ ((∃ J, ty_ok c0 k0 L J ∧ w' = nI (L + J) ∧ h' = fh_up (fh_up h (B + 1) (.inl (ct 1, 160, .inl (ty_t c0 J L J f)))) B (fs_o B (nI (L + J)) w hh d)) ∨ ((∀ J, ¬ ty_ok c0 k0 L J) ∧ w' = -1000000 ∧ h' = h)), (m_FS_type l D ct B RO hR 1300 n B (by omega) c0 k0 L h2 w hh d f h (by rw [e]; exact big_x) (by rw [e]; exact big_1)).mono (fun v h' n' q => ?_), ?_⟩
  · obtain ⟨q1, ⟨J, q2, q3, q4⟩ | ⟨q2, q3, q4⟩⟩ := q
    · exact ⟨_, q3, q1, Or.inl ⟨J, q2, rfl, q4⟩⟩
    · exact ⟨_, q3, q1, Or.inr ⟨q2, rfl, q4⟩⟩
  rintro w' h' n' ⟨rfl, ⟨J, j1, rfl, e1⟩ | ⟨j1, rfl, rfl⟩⟩
  · rw [e, big_u1, big_ux] at e1
    have hy : h' (B + 233) = some (mo_s (B + 233) th (nI L) at2 wr no nu op (nI P) w hh d) := by rw [e1]; exact big_y
    refine ⟨⟨_, hy⟩, (m_Mo_type l D ct B RO 1300 n' (B + 233) c0 k0 L h2 th at2 wr no nu op (nI P) w hh d (A 0) h' hy (by rw [e1]; exact big_y1)).mono (fun v h'' n'' q => ?_)⟩
    obtain ⟨q1, ⟨J', q2, q3, q4⟩ | ⟨q2, q3, q4⟩⟩ := q
    · have hJ : J' = J := (nI_eq (Nat.lt_of_le_of_lt q2.2.2.1 (by decide)) (Nat.lt_of_le_of_lt j1.2.2.1 (by decide))).mp (q2.1.symm.trans j1.1)
      subst hJ
      refine ⟨q3, ?_⟩
      rw [q1]
      rw [e1, show B + 233 + 1 = B + 234 from rfl, big_uy1, big_uy] at q4
      refine ⟨L + J', P, w, hh, d, ty_t c0 J' L J' f, F, W0, H0, D0, rows, cols, nc, lc, tx, len, at_, C, R, CL, RL, up2 A 0 (ty_t c0 J' L J' (A 0)), 0, at2, wr, no, nu, op, fo, q4, h1, q2.2.2.2.1, h3, ?_, ty_t_ok q2.2.2.2.2 q2.2.1 h5, fun j hj => h6 j hj, h7⟩
      show ty_t c0 J' L J' f = up2 A 0 (ty_t c0 J' L J' (A 0)) 0
      rw [h4]; rfl
    · exact absurd j1 (q2 J)
  · have hy : h' (B + 233) = some (mo_s (B + 233) th (nI L) at2 wr no nu op (nI P) w hh d) := by rw [e]; exact big_y
    refine ⟨⟨_, hy⟩, (m_Mo_type l D ct B RO 1300 n' (B + 233) c0 k0 L h2 th at2 wr no nu op (nI P) w hh d (A 0) h' hy (by rw [e]; exact big_y1)).mono (fun v h'' n'' q => ?_)⟩
    obtain ⟨q1, ⟨J', q2, q3, q4⟩ | ⟨q2, q3, q4⟩⟩ := q
    · exact absurd q2 (j1 J')
    · refine ⟨q3, ?_⟩
      rw [q1]
      rw [e, big_uy] at q4
      exact ⟨L, P, w, hh, d, f, F, W0, H0, D0, rows, cols, nc, lc, tx, len, at_, C, R, CL, RL, A, 0, at2, wr, no, nu, op, fo, q4, h1, h2, h3, h4, h5, h6, h7⟩
theorem sp_piece_ok {l : Launch} {D : va_G} {ct : Nat → ClassId} {B : Nat} {RO : State → Prop} {kA aA : Nat → Nat} {h : fh_H} {n : Nat} {sA sV : Nat → Nat} (hR : fh_R B RO) (hSt : ∀ U, RO U → ro_S B sA sV U) (htr : l.stackTraces = false) (hRX : ∀ U, RO U → ro_X B U) (p1 p2 : Int32) (hI : wInv ct kA aA B h n) : sp_piece l D ct B RO p1 p2 h n (wInv ct kA aA B) := by
  obtain ⟨L, P, w, hh, d, f, F, W0, H0, D0, rows, cols, nc, lc, tx, len, at_, C, R, CL, RL, A, th, at2, wr, no, nu, op, fo, e, h1, h2, h3, h4, h5, h6, h7⟩ := hI
  by_cases hb : ¬ p1 < 0 ∧ p1 < nI P ∧ ¬ p2 < 0 ∧ p2 < 6
  · obtain ⟨i0, gi, rfl⟩ := nI_of hb.1
    obtain ⟨w0, gw, rfl⟩ := nI_of hb.2.2.1
    have gi2 : i0 < P := (nI_ltI gi (by omega)).mp hb.2.1
    have gw2 : w0 < 6 := (nI_ltI (b := 6) gw (by decide)).mp hb.2.2.2
    have hF : F (i0 * 6 + w0) = A 41 (6 * i0 + w0) := by rw [Nat.mul_comm i0 6]; exact h6 _ (by omega)
    refine ⟨fun k h' n' => k = 0 ∧ h' = bigH ct kA aA B (nI L) w hh d f (nI P) F W0 H0 D0 rows cols nc lc tx len at_ C R CL RL A th (nI L) at2 wr no nu op (nI P) w hh d (vp_updL fo 0 (F (i0 * 6 + w0)).toInt64) ∧ n' = n, Or.inl ((m_La_pieceOk l D ct B RO hR 1300 n B (B + 276) (by omega) _ _ (nI L) w hh d h (by rw [e]; exact big_x) (F (i0 * 6 + w0)) (fun h' n' => h' = h ∧ n' = n) (fun _ => fo) (fun h' n' q => by rw [q.1, e]; exact big_o) (m_FS_piece l D ct B RO (1300 - 1) n B P i0 w0 h3 gi2 gw2 (nI L) w hh d F h (by rw [e]; exact big_x) (by rw [e]; exact big_ts) (by rw [e]; exact big_sh) (by rw [e]; exact big_fa))).mono (fun v h' n' q => ?_)), ?_⟩
    · obtain ⟨q1, hz, ⟨rfl, q2⟩, q3⟩ := q
      rw [e, big_uo] at q3
      exact ⟨0, q1, rfl, q3, q2⟩
    rintro k h' n' ⟨rfl, e1, rfl⟩
    have hy : h' (B + 233) = some (mo_s (B + 233) th (nI L) at2 wr no nu op (nI P) w hh d) := by rw [e1]; exact big_y
    rw [big_M] at e1
    refine ⟨⟨_, hy⟩, fun w' h'' n'' => w' = A 41 (6 * i0 + w0) ∧ h'' = bigH ct kA aA B (nI L) w hh d f (nI P) F W0 H0 D0 rows cols nc lc tx len at_ C R CL RL A 0 (nI L) at2 wr no nu op (nI P) w hh d (vp_updL fo 0 (F (i0 * 6 + w0)).toInt64) ∧ n'' = n', ?_, ?_⟩
    · rw [e1]
      refine (m_Mo_piece l D ct B RO 1300 n' (B + 233) _ A th (nI L) at2 wr no nu op w hh d (nI i0) (nI w0) P (by omega)).mono (fun v h'' n'' q => ?_)
      obtain ⟨q1, ⟨a, c, g1, g2, g3, g4, g5, g6⟩ | ⟨g1, -⟩⟩ := q
      · have ha : i0 = a := (nI_eq gi (by omega)).mp g1
        have hc : w0 = c := (nI_eq gw (by omega)).mp g2
        subst ha; subst hc
        exact ⟨_, g5, rfl, by rw [g6, big_M], q1⟩
      · exact absurd (by omega) (g1 i0 w0 rfl rfl gi2)
    rintro w' h'' n'' ⟨rfl, e2, rfl⟩
    have hy2 : h'' (B + 233) = some (mo_s (B + 233) 0 (nI L) at2 wr no nu op (nI P) w hh d) := by rw [e2]; exact big_y
    refine ⟨⟨_, hy2⟩, (m_Mo_thrown l D ct B RO 1300 n'' (B + 233) 0 (nI L) at2 wr no nu op (nI P) w hh d h'' hy2).mono (fun v h3 n3 q => ?_)⟩
    obtain ⟨q1, rfl, q3⟩ := q
    rw [q3]
    refine ⟨q1, ⟨L, P, w, hh, d, f, F, W0, H0, D0, rows, cols, nc, lc, tx, len, at_, C, R, CL, RL, A, 0, at2, wr, no, nu, op, vp_updL fo 0 (F (i0 * 6 + w0)).toInt64, e2, h1, h2, by assumption, h4, h5, h6, h7⟩, fun _ => ⟨_, by rw [e2]; exact big_o, ?_⟩⟩
    show vp_updL fo 0 _ 0 = _
    rw [← hF]
    unfold vp_updL
    exact if_pos rfl
  · refine ⟨fun k h' n' => k = 1 ∧ h' = h ∧ n' = n + 1, Or.inr ((m_La_pieceT l D ct B RO hR 1300 n B (B + 276) (by omega) p1 p2 (nI L) w hh d h (by rw [e]; exact big_x) hRX (fun h' n' => h' = h ∧ n' = n + 1) (m_FS_pieceT l D ct B RO hR sA sV hSt htr hRX (1300 - 1) n B (by omega) (nI P) p1 p2 hb (nI L) w hh d F h (by rw [e]; exact big_x) (by rw [e]; exact big_ts) (by rw [e]; exact big_sh) (by rw [e]; exact big_fa))).mono (fun v h' n' q => ⟨1, q.1, rfl, q.2⟩)), ?_⟩
    rintro k h' n' ⟨rfl, rfl, e9⟩
    have hy : h' (B + 233) = some (mo_s (B + 233) th (nI L) at2 wr no nu op (nI P) w hh d) := by rw [e]; exact big_y
    rw [big_M] at e
    refine ⟨⟨_, hy⟩, fun w' h'' n'' => h'' = bigH ct kA aA B (nI L) w hh d f (nI P) F W0 H0 D0 rows cols nc lc tx len at_ C R CL RL A 1 (nI L) at2 wr no nu op (nI P) w hh d fo ∧ n'' = n', ?_, ?_⟩
    · rw [e]
      refine (m_Mo_piece l D ct B RO 1300 n' (B + 233) _ A th (nI L) at2 wr no nu op w hh d p1 p2 P (by omega)).mono (fun v h'' n'' q => ?_)
      obtain ⟨q1, ⟨a, c, g1, g2, g3, g4, g5, g6⟩ | ⟨g1, g5, g6⟩⟩ := q
      · subst g1; subst g2
        exact absurd ⟨nI_pos (by omega), (nI_ltI (by omega) (by omega)).mpr g3, nI_pos (by omega), (nI_ltI (b := 6) (by omega) (by decide)).mpr (by omega)⟩ hb
      · exact ⟨_, g5, by rw [g6, big_M], q1⟩
    rintro w' h'' n'' ⟨e2, rfl⟩
    have hy2 : h'' (B + 233) = some (mo_s (B + 233) 1 (nI L) at2 wr no nu op (nI P) w hh d) := by rw [e2]; exact big_y
    refine ⟨⟨_, hy2⟩, (m_Mo_thrown l D ct B RO 1300 n'' (B + 233) 1 (nI L) at2 wr no nu op (nI P) w hh d h'' hy2).mono (fun v h3 n3 q => ?_)⟩
    obtain ⟨q1, rfl, q3⟩ := q
    rw [q3]
    exact ⟨q1, ⟨L, P, w, hh, d, f, F, W0, H0, D0, rows, cols, nc, lc, tx, len, at_, C, R, CL, RL, A, 1, at2, wr, no, nu, op, fo, e2, by omega, h2, by assumption, h4, h5, h6, h7⟩, fun z => absurd z (by decide)⟩
