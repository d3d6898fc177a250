/-! Pure part 28: points and board -/
section Points
variable {c T Rd nh fu : Nat} {st sv hn hb hp hr : Nat → Nat} {x x' m m' σ : hs_T} {A B C D : Nat → Int32}
/-- rows that nobody asks for again -/
theorem Rl_scr (h : Rl c T Rd nh st sv hn hb hp hr x m) (x1 : x'.1 = x.1) (x2 : x'.2.2.1 = x.2.2.1) (x3 : x'.2.2.2.2 = x.2.2.2.2) (xF : hs_F x' = hs_F x) (xR : ∀ q, q ≠ 16 → hs_R x' q = hs_R x q) (m1 : m'.1 = m.1) (m2 : m'.2.2.1 = m.2.2.1) (mF : hs_F m' = hs_F m) (mR : ∀ a, a < 28 → hs_R m' a = hs_R m a) : Rl c T Rd nh st sv hn hb hp hr x' m' := by
  have hrest := Rl_rest h
  obtain ⟨hM, hC, hN, hnh, hrn, hS, hT, hL, hV, hP, hc, -⟩ := h
  have h5 := hrn.1
  refine Rl_mk (mS_of m1 m2 hM) (cS_of x1 x2 hC) (by rw [hs_N_of x1]; exact hN) hnh (by unfold rN; rw [xF, mF]; exact hrn) (rS_of2 (xR 1 (by decide)) (mR 13 (by decide)) hS) ?_ ?_ (rC_low (x := x) (m := m) hV.1 (fun k q _ => by rw [xF]) (fun q hq => xR q (by omega)) (fun a ha => mR a (by omega)) hc) (rest_of (x := x) (m := m) h5 x1 x2 x3 (fun k q _ _ _ => by rw [xF]) (by rw [xF]) (by rw [xF]) (fun q hq _ => xR q (by omega)) (by rw [mF]) (fun a ha => mR a (by omega)) (fun a i ha => congrFun (mR a (by omega)) i) hrest)
  · unfold rT
    rw [xF, mF, xR 5 (by decide), mR 1 (by decide)]
    exact hT
  · unfold rL
    rw [xF, mF, xR 13 (by decide), xR 14 (by decide), xR 15 (by decide), mR 15 (by decide), mR 16 (by decide), mR 17 (by decide)]
    exact hL
theorem Rl_fP (h : Rl c T Rd nh st sv hn hb hp hr x m) (hF : fP T m m' A B C D) : Rl c T Rd nh st sv hn hb hp hr x m' := Rl_scr h rfl rfl rfl rfl (fun _ _ => rfl) hF.1 hF.2.1 hF.2.2.1 hF.2.2.2.1
theorem Rl_mV (h : Rl c T Rd nh st sv hn hb hp hr x m) : mV T Rd m := by
  obtain ⟨hM, hC, hN, hnh, ⟨h5, h100, -⟩, hS, hT, hL, hV, hP, hc, hK, hA, hH, -⟩ := h
  refine ⟨fun r p b hr2 hp2 hb2 => ?_, fun r p hr2 hp2 => ?_⟩
  · obtain ⟨v1, v2, v3, v4⟩ := rH_x hH h100 (b := b) hp2 (by omega) (show r < 100 by omega)
    exact ⟨v2, by omega⟩
  · obtain ⟨-, -, -, -, -, hu⟩ := hc p hp2
    obtain ⟨u, u1, u2, -⟩ := hu r hr2
    exact ⟨u, u1, u2⟩
theorem tk_lim {v a b : Nat} (ha : v ≤ a) (hb2 : v ≤ b) : tkN v a = tkN v b := by
  unfold tkN
  by_cases q : v = 0
  · rw [if_pos (Or.inl q), if_pos (Or.inl q)]
  · rw [if_neg (by omega), if_neg (by omega)]
theorem lims (hV : ∀ r p b, r < Rd → p < 3 * T → b < T → hVn m r p b ≤ 100) (h100 : Rd ≤ 100) {t : Nat} (ht : t < T) : UPv m T Rd 100 t = UPv m T Rd 1000 t ∧ STv m T Rd 100 t = STv m T Rd 1000 t ∧ OFv m T Rd 100 t = OFv m T Rd 1000 t ∧ HNv m T Rd 100 t = HNv m T Rd 1000 t := by
  have ek : ∀ r p, r < Rd → p < 3 * T → kNm m T 100 r p = kNm m T 1000 r p := fun r p hr2 hp2 => smN_ext (fun b hb2 => by have := hV r p b hr2 hp2 hb2; exact tk_lim this (by omega))
  have et : ∀ r p, r < Rd → p < 3 * T → tkN (hVn m r p t) 100 = tkN (hVn m r p t) 1000 := fun r p hr2 hp2 => by have := hV r p t hr2 hp2 ht; exact tk_lim this (by omega)
  refine ⟨?_, ?_, ?_, ?_⟩
  · refine sm_ext (fun r hr2 => sm_ext (fun p hp2 => ?_))
    rw [if_pos (show r < 100 by omega), if_pos (show r < 1000 by omega)]
  · refine sm_ext (fun r hr2 => sm_ext (fun p hp2 => ?_))
    rw [et r p hr2 hp2, ek r p hr2 hp2]
  · refine sm_ext (fun r hr2 => sm_ext (fun p hp2 => ?_))
    rw [ek r p hr2 hp2]
  · refine sm_ext (fun r hr2 => sm_ext (fun p hp2 => ?_))
    rw [et r p hr2 hp2]
theorem Rl_V100 (h : Rl c T Rd nh st sv hn hb hp hr x m) : ∀ r p b, r < Rd → p < 3 * T → b < T → hVn m r p b ≤ 100 := by
  obtain ⟨hM, hC, hN, hnh, ⟨h5, h100, -⟩, hS, hT, hL, hV, hP, hc, hK, hA, hH, -⟩ := h
  intro r p b hr2 hp2 hb2
  obtain ⟨v1, v2, v3, v4⟩ := rH_x hH h100 (b := b) hp2 (by omega) (show r < 100 by omega)
  omega
theorem op_points (hfu : 600 < fu) (hc5 : c ≤ 512) (h : Rl c T Rd nh st sv hn hb hp hr x m) (a b : Int32) : Op c (fX7_points fu x 0 a b) (fX8_points fu m 0 a b) := by
  have h0 := h
  obtain ⟨hM, hC, hN, hnh, ⟨h5, h100, n1, n2, n3, n4, -⟩, hS, hT, hL, hV, hP, hc, -⟩ := h
  unfold fX7_points fX8_points
  rw [c_ck0 hC, pb_bind, m_ck hM, pb_bind]
  rcases i_lt (a := a) (n := T) (by omega) with ha | ⟨t, ht, rfl⟩
  · exact Op_same h0 ⟨-1000000, by rw [c_isTeam_n hC n4 h5 ha, pb_b2, if_pos rfl], by rw [m_isTeam_n hM n1 ha, pb_b2, if_pos rfl]⟩
  obtain ⟨m1, f1, f2⟩ := m_findPoints (fu := fu) (e := 1000) hfu hM n1 n2 h5 h100 (Rl_mV h0) (by decide)
  have h1 := Rl_fP h0 f2
  have hM1 := fP_mS hM f2
  obtain ⟨w1, w2, w3, w4⟩ := f2.2.2.2.2 t ht
  obtain ⟨l1, l2, l3, l4⟩ := lims (m := m) (Rl_V100 h0) h100 ht
  rw [c_isTeam_y hC n4 h5 ht, pb_b2, if_neg o_nz, m_isTeam_y hM n1 h5 ht, pb_b2, if_neg o_nz, m_ck hM, pb_bind, show fX8_findPoints fu m 0 1000 = _ from f1, pb_b2]
  have fin : ∀ {rx rm : Option (Int32 × hs_T)} (v : Int32), rx = some (v, x) → rm = some (v, m1) → Op c rx rm := fun v e1 e2 => ⟨v, x, m1, e1, e2, T, Rd, nh, st, sv, hn, hb, hp, hr, Rl_le (by omega) h1⟩
  by_cases q0 : b = 0
  · rw [if_pos q0, if_pos q0]
    refine fin (UPv m T Rd 1000 t + STv m T Rd 1000 t - OFv m T Rd 1000 t) ?_ ?_
    · rw [c_ck0 hC, pb_bind, show fX7_pointsAhead fu x 0 (nI t) 100 = _ from c_ahead (lim := 100) hfu hc5 h0 ht (by decide), pb_b2, l1, l2, l3]
    · rw [m_ck hM1, pb_bind, m_sum hM h5 f2 ht, pb_b2]
  rw [if_neg q0, if_neg q0]
  by_cases q1 : b = 1
  · rw [if_pos q1, if_pos q1]
    refine fin (UPv m T Rd 1000 t) ?_ ?_
    · rw [c_ck0 hC, pb_bind, show fX7_upPoints fu x 0 (nI t) 100 = _ from c_upPoints (lim := 100) hfu h0 ht (by decide), pb_b2, up_eq hc, l1]
    · rw [m_g39 hM1, pb_bind, m_ld28 hM1 (by omega), pb_bind, w1]
  rw [if_neg q1, if_neg q1]
  by_cases q2 : b = 2
  · rw [if_pos q2, if_pos q2]
    refine fin (STv m T Rd 1000 t) ?_ ?_
    · rw [c_ck0 hC, pb_bind, show fX7_stolenPoints fu x 0 (nI t) 100 = _ from c_stolen (lim := 100) hfu hc5 h0 ht (by decide), pb_b2, st_eq h0 ht, l2]
    · rw [m_g40 hM1, pb_bind, m_ld29 hM1 (by omega), pb_bind, w2]
  rw [if_neg q2, if_neg q2]
  by_cases q3 : b = 3
  · rw [if_pos q3, if_pos q3]
    refine fin (OFv m T Rd 1000 t) ?_ ?_
    · rw [c_ck0 hC, pb_bind, show fX7_takenOff fu x 0 (nI t) 100 = _ from c_off (lim := 100) hfu hc5 h0 ht (by decide), pb_b2, of_eq h0, l3]
    · rw [m_g41 hM1, pb_bind, m_ld30 hM1 (by omega), pb_bind, w3]
  rw [if_neg q3, if_neg q3]
  by_cases q4 : b = 4
  · rw [if_pos q4, if_pos q4]
    refine fin (HNv m T Rd 1000 t) ?_ ?_
    · rw [c_ck0 hC, pb_bind, c_hands hfu hc5 h0 ht, pb_b2, hn_eq (lim := 1000) h0 ht (by omega)]
    · rw [m_g42 hM1, pb_bind, m_ld31 hM1 (by omega), pb_bind, w4]
  rw [if_neg q4, if_neg q4]
  exact fin _ rfl rfl
/-! the board -/
def bdX (P : Nat → Int32) (x : hs_T) : Nat → hs_T
  | 0 => x
  | j + 1 => hs_wR (bdX P x j) 16 j (P j)
theorem bdX_is {P : Nat → Int32} : ∀ j, (bdX P x j).1 = x.1 ∧ (bdX P x j).2.2.1 = x.2.2.1 ∧ (bdX P x j).2.2.2.2 = x.2.2.2.2 ∧ hs_F (bdX P x j) = hs_F x ∧ (∀ q, q ≠ 16 → hs_R (bdX P x j) q = hs_R x q) ∧ ∀ t, t < j → hs_R (bdX P x j) 16 t = P t := by
  intro j
  induction j with
  | zero => exact ⟨rfl, rfl, rfl, rfl, fun _ _ => rfl, fun t ht => absurd ht (by omega)⟩
  | succ j ih =>
    obtain ⟨a1, a2, a3, a4, a5, a6⟩ := ih
    have e : bdX P x (j + 1) = hs_wR (bdX P x j) 16 j (P j) := rfl
    rw [e]
    refine ⟨a1, a2, a3, a4, fun q hq => (wR_ne hq).trans (a5 q hq), fun t ht => ?_⟩
    rw [pb_R_wR]
    by_cases q : t = j
    · rw [if_pos ⟨rfl, q⟩, q]
    · rw [if_neg (fun z => q z.2)]; exact a6 t (by omega)
def ahN (P : Nat → Int32) (t j : Nat) : Nat := smN (fun o => if P t < P o ∨ (P o = P t ∧ o < t) then 1 else 0) j
theorem ahN_le {P : Nat → Int32} {t j : Nat} : ahN P t j ≤ j := smN_le (fun o _ => by
  by_cases q : P t < P o ∨ (P o = P t ∧ o < t)
  · rw [if_pos q]; omega
  · rw [if_neg q]; omega)
theorem c_place (hfu : 600 < fu) (hC : cS x) (h5 : T ≤ 5) {P : Nat → Int32} (hP : ∀ t, t < T → hs_R x 16 t = P t) {t : Nat} (ht : t < T) : fX7_placeOnBoard fu x 0 (nI t) (nI T) = some (nI (ahN P t T), x) := by
  unfold fX7_placeOnBoard fX7_placeOnBoard_5
  refine pb_lpz (fun j => (x, 0, nI t, nI T, nI (ahN P t j), nI j)) T rfl ?_ ?_ (by omega)
  · intro k j hj
    have eS : ahN P t (j + 1) = ahN P t j + (if P t < P j ∨ (P j = P t ∧ j < t) then 1 else 0) := rfl
    dsimp only
    unfold fX7_placeOnBoard_5b
    have h32 : ∀ k5 y0, fX7_placeOnBoard_32 fu k5 x 0 (nI t) (nI T) (nI (ahN P t j)) (nI j) y0 = if P j = P t then (if nI t ≤ nI j then fX7_placeOnBoard_61 fu k5 x 0 (nI t) (nI T) (nI (ahN P t j)) (nI j) y0 0 else fX7_placeOnBoard_61 fu k5 x 0 (nI t) (nI T) (nI (ahN P t j)) (nI j) y0 1) else fX7_placeOnBoard_61 fu k5 x 0 (nI t) (nI T) (nI (ahN P t j)) (nI j) y0 0 := by
      intro k5 y0
      unfold fX7_placeOnBoard_32 fX7_placeOnBoard_60
      rw [c_g7_0 hC, pb_bind, c_ld16 hC (i := j) (by omega), pb_bind, pb_bind, c_ld16 hC (i := t) (by omega), pb_bind, hP j hj, hP t ht]
    rw [if_neg (nI_ge hj (by omega)), c_g7_0 hC, pb_bind, c_ld16 hC (i := j) (by omega), pb_bind, pb_bind, c_ld16 hC (i := t) (by omega), pb_bind, hP j hj, hP t ht, eS, h32, h32]
    unfold fX7_placeOnBoard_61
    have hle : P j ≤ P t ↔ ¬ P t < P j := by rw [fa_le, fa_lt]; omega
    by_cases q1 : P t < P j
    · rw [if_neg (fun z => (hle.mp z) q1), if_pos (Or.inl q1), nI_1, nI_1]
      by_cases q2 : P j = P t
      · rw [if_pos q2]
        by_cases q3 : j < t
        · rw [if_neg (nI_ge q3 (by omega)), if_neg o_nz]
        · rw [if_pos (nI_le (by omega) (by omega)), if_neg o_nz]
      · rw [if_neg q2, if_neg o_nz]
    · rw [if_pos (hle.mpr q1)]
      by_cases q2 : P j = P t
      · rw [if_pos q2]
        by_cases q3 : j < t
        · rw [if_neg (nI_ge q3 (by omega)), if_pos rfl, if_neg o_nz, if_pos (Or.inr ⟨q2, q3⟩), nI_1, nI_1]
        · rw [if_pos (nI_le (by omega) (by omega)), if_pos rfl, if_pos rfl, if_neg (show ¬ (P t < P j ∨ (P j = P t ∧ j < t)) from fun z => z.elim q1 (fun w => q3 w.2)), Nat.add_zero (ahN P t j), nI_1]
      · rw [if_neg q2, if_pos rfl, if_pos rfl, if_neg (show ¬ (P t < P j ∨ (P j = P t ∧ j < t)) from fun z => z.elim q1 (fun w => q2 w.1)), Nat.add_zero (ahN P t j), nI_1]
  · intro k
    dsimp only
    unfold fX7_placeOnBoard_5b
    rw [if_pos (nI_le (Nat.le_refl _) (by omega))]
theorem m_place (hfu : 600 < fu) (hM : mS m) (n1 : hs_F m 0 0 = nI T) (h5 : T ≤ 5) (hF : fP T m σ A B C D) {pl w t : Nat} (ht : t < T) (hpl : pl < 5) (hw : w < 2) {k33 : hs_T → Nat → Int32 → Int32 → Int32 → Option (Int32 × hs_T)} : fX8_board_47 fu k33 σ 0 (nI pl) (nI w) (nI t) 0 0 = if ahN (fun t => A t + B t - C t) t T = pl then some (if w = 0 then nI t else A t + B t - C t, σ) else k33 σ 0 (nI pl) (nI w) (nI (t + 1)) := by
  have hM1 := fP_mS hM hF
  generalize hPe : (fun t => A t + B t - C t) = P
  have hs : ∀ t, t < T → fX8_sum fu σ 0 (nI t) = some (P t, σ) := fun t ht => by rw [← hPe]; exact m_sum hM h5 hF ht
  have ePt : A t + B t - C t = P t := by rw [← hPe]
  rw [ePt]
  have hle := ahN_le (P := P) (t := t) (j := T)
  unfold fX8_board_47
  refine pb_lpz (fun j => (σ, 0, nI pl, nI w, nI t, nI (ahN P t j), nI j)) T rfl ?_ ?_ (by omega)
  · intro k j hj
    have eS : ahN P t (j + 1) = ahN P t j + (if P t < P j ∨ (P j = P t ∧ j < t) then 1 else 0) := rfl
    dsimp only
    unfold fX8_board_47b
    rw [m_gI hM1, pb_bind, hF.2.2.1, n1, if_neg (nI_ge hj (by omega)), m_ck hM1, pb_bind, hs j hj, pb_b2, m_ck hM1, pb_bind, hs t ht, pb_b2, eS, nI_1]
    by_cases q1 : P t < P j
    · rw [if_pos q1, if_pos (Or.inl q1), nI_1]
    · rw [if_neg q1, m_ck hM1, pb_bind, hs j hj, pb_b2, m_ck hM1, pb_bind, hs t ht, pb_b2]
      by_cases q2 : P j = P t
      · rw [if_pos q2]
        by_cases q3 : j < t
        · rw [if_neg (nI_ge q3 (by omega)), if_pos (Or.inr ⟨q2, q3⟩), nI_1]
        · rw [if_pos (nI_le (by omega) (by omega)), if_neg (show ¬ (P t < P j ∨ (P j = P t ∧ j < t)) from fun z => z.elim q1 (fun w => q3 w.2)), Nat.add_zero (ahN P t j), Int32.add_zero, nI_1]
      · rw [if_neg q2, if_neg (show ¬ (P t < P j ∨ (P j = P t ∧ j < t)) from fun z => z.elim q1 (fun w => q2 w.1)), Nat.add_zero (ahN P t j), Int32.add_zero, nI_1]
  · intro k
    dsimp only
    unfold fX8_board_47b
    rw [m_gI hM1, pb_bind, hF.2.2.1, n1, if_pos (nI_le (Nat.le_refl _) (by omega))]
    by_cases q : ahN P t T = pl
    · rw [if_pos (congrArg nI q), if_pos q]
      by_cases q2 : w = 0
      · rw [if_pos (show nI w = 0 by rw [q2]; rfl), if_pos q2]
      · rw [if_neg (nI_ne0 (by omega) (by omega)), if_neg q2, m_ck hM1, pb_bind, hs t ht, pb_b2]
    · rw [if_neg (n_ne (by omega) (by omega) q), if_neg q, nI_1]
def bd2 (fu : Nat) : (hs_T × Nat × Int32 × Int32 × Int32 × Int32 → Option (Int32 × hs_T)) → hs_T × Nat × Int32 × Int32 × Int32 × Int32 → Option (Int32 × hs_T) := fun k a => fX7_board_62b fu (fun σ x0 x1 x2 x3 x4 => k (σ, x0, x1, x2, x3, x4)) a.1 a.2.1 a.2.2.1 a.2.2.2.1 a.2.2.2.2.1 a.2.2.2.2.2
def bd3 (fu : Nat) : (hs_T × Nat × Int32 × Int32 × Int32 → Option (Int32 × hs_T)) → hs_T × Nat × Int32 × Int32 × Int32 → Option (Int32 × hs_T) := fun k a => fX8_board_33b fu (fun σ x0 x1 x2 x3 => k (σ, x0, x1, x2, x3)) a.1 a.2.1 a.2.2.1 a.2.2.2.1 a.2.2.2.2
theorem bd_loop (hfu : 600 < fu) (hC : cS x) (hM : mS m) (n1 : hs_F m 0 0 = nI T) (h5 : T ≤ 5) (hF : fP T m σ A B C D) (hP : ∀ t, t < T → hs_R x 16 t = A t + B t - C t) {pl w : Nat} (hpl : pl < 5) (hw : w < 2) : ∀ n t fc fm, t + n = T → n < fc → n < fm → ∃ r, hs_lp (bd2 fu) fc (x, 0, nI pl, nI w, nI T, nI t) = some (r, x) ∧ hs_lp (bd3 fu) fm (σ, 0, nI pl, nI w, nI t) = some (r, σ) := by
  have hM1 := fP_mS hM hF
  intro n
  induction n with
  | zero =>
    intro t fc fm ht hfc hfm
    have e : t = T := by omega
    subst e
    obtain ⟨f, rfl⟩ : ∃ f, fc = f + 1 := ⟨fc - 1, by omega⟩
    obtain ⟨g, rfl⟩ : ∃ g, fm = g + 1 := ⟨fm - 1, by omega⟩
    refine ⟨-1000000, ?_, ?_⟩
    · rw [pb_lp0]
      show fX7_board_62b fu _ x 0 (nI pl) (nI w) (nI t) (nI t) = _
      unfold fX7_board_62b
      rw [if_pos (nI_le (Nat.le_refl _) (by omega))]
    · rw [pb_lp0]
      show fX8_board_33b fu _ σ 0 (nI pl) (nI w) (nI t) = _
      unfold fX8_board_33b
      rw [m_gI hM1, pb_bind, hF.2.2.1, n1, if_pos (nI_le (Nat.le_refl _) (by omega))]
  | succ n ih =>
    intro t fc fm ht hfc hfm
    obtain ⟨f, rfl⟩ : ∃ f, fc = f + 1 := ⟨fc - 1, by omega⟩
    obtain ⟨g, rfl⟩ : ∃ g, fm = g + 1 := ⟨fm - 1, by omega⟩
    have htT : t < T := by omega
    have hle := ahN_le (P := fun t => A t + B t - C t) (t := t) (j := T)
    have ex1 : hs_lp (bd2 fu) (f + 1) (x, 0, nI pl, nI w, nI T, nI t) = if ahN (fun t => A t + B t - C t) t T = pl then some (if w = 0 then nI t else A t + B t - C t, x) else hs_lp (bd2 fu) f (x, 0, nI pl, nI w, nI T, nI (t + 1)) := by
      rw [pb_lp0]
      show fX7_board_62b fu _ x 0 (nI pl) (nI w) (nI T) (nI t) = _
      unfold fX7_board_62b
      rw [if_neg (nI_ge htT (by omega)), c_ck0 hC, pb_bind, c_place (P := fun t => A t + B t - C t) hfu hC h5 hP htT, pb_b2]
      by_cases q : ahN (fun t => A t + B t - C t) t T = pl
      · rw [if_pos (congrArg nI q), if_pos q]
        by_cases q2 : w = 0
        · rw [if_pos (show nI w = 0 by rw [q2]; rfl), if_pos q2]
        · rw [if_neg (nI_ne0 (by omega) (by omega)), if_neg q2, c_g7_0 hC, pb_bind, c_ld16 hC (by omega), pb_bind, hP t htT]
      · rw [if_neg (n_ne (by omega) (by omega) q), if_neg q, nI_1]
    have em1 : hs_lp (bd3 fu) (g + 1) (σ, 0, nI pl, nI w, nI t) = if ahN (fun t => A t + B t - C t) t T = pl then some (if w = 0 then nI t else A t + B t - C t, σ) else hs_lp (bd3 fu) g (σ, 0, nI pl, nI w, nI (t + 1)) := by
      rw [pb_lp0]
      show fX8_board_33b fu _ σ 0 (nI pl) (nI w) (nI t) = _
      unfold fX8_board_33b
      rw [m_gI hM1, pb_bind, hF.2.2.1, n1, if_neg (nI_ge htT (by omega)), m_place hfu hM n1 h5 hF htT hpl hw]
    rw [ex1, em1]
    by_cases q : ahN (fun t => A t + B t - C t) t T = pl
    · rw [if_pos q, if_pos q]
      exact ⟨_, rfl, rfl⟩
    · rw [if_neg q, if_neg q]
      exact ih (t + 1) f g (by omega) (by omega) (by omega)
theorem op_board (hfu : 600 < fu) (hc5 : c ≤ 512) (h : Rl c T Rd nh st sv hn hb hp hr x m) (a b : Int32) : Op c (fX7_board fu x 0 a b) (fX8_board fu m 0 a b) := by
  have h0 := h
  obtain ⟨hM, hC, hN, hnh, ⟨h5, h100, n1, n2, n3, n4, -⟩, hS, hT, hL, hV, hP, hc, -⟩ := h
  unfold fX7_board fX8_board fX7_board_17 fX8_board_18
  rw [c_ck0 hC, pb_bind, m_ck hM, pb_bind]
  rcases i_lt (a := a) (n := T) (by omega) with ha | ⟨pl, hpl, rfl⟩
  · exact Op_same h0 ⟨-1000000, by rw [c_isTeam_n hC n4 h5 ha, pb_b2, if_pos rfl], by rw [m_isTeam_n hM n1 ha, pb_b2, if_pos rfl]⟩
  rw [c_isTeam_y hC n4 h5 hpl, pb_b2, if_neg o_nz, m_isTeam_y hM n1 h5 hpl, pb_b2, if_neg o_nz]
  rcases i_lt (a := b) (n := 2) (by decide) with hb2 | ⟨w, hw, rfl⟩
  · refine Op_same h0 ⟨-1000000, ?_, by rw [m_rng_n (n := 2) (l := 0) (h := 1) rfl rfl (by decide) (by decide) hb2, pb_b2, if_pos rfl]⟩
    by_cases q : b < 0
    · rw [if_pos q]
    · rw [if_neg q, if_neg]
      have z := hb2.resolve_left q
      rw [fa_le, nI_toInt (by decide)] at z
      rw [fa_le]
      intro z2
      have z3 : b.toInt ≤ 1 := z2
      omega
  have e3 : hs_R m 13 3 = nI (st 3) := (hS.1 3 (by decide)).2
  have e3x : hs_R x 1 3 = nI (st 3) := (hS.1 3 (by decide)).1
  have h3 : st 3 ≤ 100 := hS.2.2.2.2.2.2.1
  obtain ⟨m1, f1, f2⟩ := m_findPoints (fu := fu) (e := st 3) hfu hM n1 n2 h5 h100 (Rl_mV h0) (by omega)
  rw [if_neg (nI_pos (by omega)), if_pos (show nI w ≤ 1 from nI_le (b := 1) (by omega) (by decide)), c_ck0 hC, pb_bind, c_teams hC n4 h5, pb_b2, m_rng_y (n := 2) (l := 0) (h := 1) rfl rfl hw (by decide), pb_b2, if_neg o_nz, m_g17 hM, pb_bind, show hs_ld m 11 13 3 = _ from m_ld13 hM (i := 3) (by decide), pb_bind, e3, m_ck hM, pb_bind, f1, pb_b2]
  have eb : fX7_board_28 fu x 0 (nI pl) (nI w) (nI T) 0 = fX7_board_62 fu (bdX (fun t => UPv m T Rd (st 3) t + STv m T Rd (st 3) t - OFv m T Rd (st 3) t) x T) 0 (nI pl) (nI w) (nI T) 0 := by
    unfold fX7_board_28
    refine pb_lpz (fun j => (bdX (fun t => UPv m T Rd (st 3) t + STv m T Rd (st 3) t - OFv m T Rd (st 3) t) x j, 0, nI pl, nI w, nI T, nI j)) T rfl ?_ ?_ (by omega)
    · intro k j hj
      obtain ⟨a1, a2, a3, a4, a5, a6⟩ := bdX_is (x := x) (P := fun t => UPv m T Rd (st 3) t + STv m T Rd (st 3) t - OFv m T Rd (st 3) t) j
      have hy := Rl_scr h0 a1 a2 a3 a4 a5 rfl rfl rfl (fun _ _ => rfl)
      have hCy := hy.2.1
      dsimp only
      unfold fX7_board_28b
      rw [if_neg (nI_ge hj (by omega)), c_g7_0 hCy, pb_bind, c_g0_0 hCy, pb_bind, show hs_ld (bdX (fun t => UPv m T Rd (st 3) t + STv m T Rd (st 3) t - OFv m T Rd (st 3) t) x j) 11 1 3 = _ from c_ld1 hCy (i := 3) (by decide), pb_bind, a5 1 (by decide), e3x, c_ck0 hCy, pb_bind, c_ahead hfu hc5 hy hj (by omega), pb_b2, c_st16 hCy (by omega), pb_bind, nI_1]
      rfl
    · intro k
      dsimp only
      unfold fX7_board_28b
      rw [if_pos (nI_le (Nat.le_refl _) (by omega))]
  rw [eb]
  obtain ⟨a1, a2, a3, a4, a5, a6⟩ := bdX_is (x := x) (P := fun t => UPv m T Rd (st 3) t + STv m T Rd (st 3) t - OFv m T Rd (st 3) t) T
  have hy := Rl_scr h0 a1 a2 a3 a4 a5 f2.1 f2.2.1 f2.2.2.1 f2.2.2.2.1
  generalize bdX (fun t => UPv m T Rd (st 3) t + STv m T Rd (st 3) t - OFv m T Rd (st 3) t) x T = y at a6 hy ⊢
  obtain ⟨r, z1, z2⟩ := bd_loop (fu := fu) hfu hy.2.1 hM n1 h5 f2 a6 (pl := pl) (w := w) (by omega) hw T 0 fu fu (by omega) (by omega) (by omega)
  exact ⟨r, y, m1, z1, z2, T, Rd, nh, st, sv, hn, hb, hp, hr, Rl_le (by omega) hy⟩
end Points
