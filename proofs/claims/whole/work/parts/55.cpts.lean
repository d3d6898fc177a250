/-! Pure part 26: the class's points -/
section CPts
variable {c T Rd nh fu : Nat} {st sv hn hb hp hr : Nat → Nat} {x x' m m' : hs_T}
theorem c_share {k : Nat} (hk : k < 2 ^ 31) : fX7_share fu x (nI k) = some (shN k, x) := by
  unfold fX7_share shN
  by_cases q : k = 0
  · subst q
    rw [if_pos (show nI 0 ≤ 0 by decide), if_pos rfl]
  · rw [if_neg (nI_nle (by omega) hk), if_neg q, pb_nz (nI_ne0 (by omega) hk), pb_bind]
/-- the class's row of takings, and the reference's -/
theorem rH_x (hH : rH T Rd sv x m) (h100 : Rd ≤ 100) {p b r : Nat} (hp2 : p < 3 * T) (hb5 : b < 5) (hr2 : r < 100) : hs_R x (sv p + 3) (b * 100 + r) = nI (hVn m r p b) ∧ hs_R m 27 (75 * r + 5 * p + b) = nI (hVn m r p b) ∧ hVn m r p b ≤ Rd ∧ (hVn m r p b ≠ 0 → r < Rd ∧ b < T ∧ b ≠ p / 3) := by
  obtain ⟨v, v1, v2, v3, v4⟩ := hH p hp2 b hb5 r hr2
  rw [hVn_of v3 (by omega)]
  exact ⟨v2, v3, v1, v4⟩
theorem c_taken (hV : rV T sv x) (hH : rH T Rd sv x m) (h100 : Rd ≤ 100) {p b r lim : Nat} (hp2 : p < 3 * T) (hb5 : b < 5) (hr2 : r < 100) (hl : lim < 2000) : fX5_isTaken fu x (sv p) (nI b) (nI r) (nI lim) = some (nI (tkN (hVn m r p b) lim), x) := by
  obtain ⟨v1, v2, v3, v4⟩ := rH_x hH h100 hp2 hb5 hr2
  rw [s_taken (hV.1 p hp2) hb5 hr2 v1 (by omega) hl, tkN_i]
theorem c_takers (hfu : 600 < fu) (hV : rV T sv x) (hH : rH T Rd sv x m) (h5 : T ≤ 5) (h100 : Rd ≤ 100) {p r lim : Nat} (hp2 : p < 3 * T) (hr2 : r < 100) (hl : lim < 2000) : fX5_takers fu x (sv p) (nI r) (nI lim) = some (nI (kNm m T lim r p), x) := by
  have e5 : kNm m T lim r p = kNm m 5 lim r p := by
    unfold kNm
    refine (smN_more h5 (fun i h1 h2 => ?_)).symm
    obtain ⟨v1, v2, v3, v4⟩ := rH_x hH h100 (b := i) hp2 h2 hr2
    by_cases q : hVn m r p i = 0
    · rw [q]; exact tkN_0
    · have := (v4 q).2.1; omega
  rw [e5]
  unfold fX5_takers fX5_takers_5
  refine pb_lpz (fun j => (x, sv p, nI r, nI lim, nI (kNm m j lim r p), nI j)) 5 rfl ?_ ?_ (by omega)
  · intro k j hj
    dsimp only
    unfold fX5_takers_5b
    have eS : kNm m (j + 1) lim r p = kNm m j lim r p + tkN (hVn m r p j) lim := rfl
    rw [if_neg (show ¬ 5 ≤ nI j from nI_ge (b := 5) hj (by decide)), s_ck (hV.1 p hp2), pb_bind, c_taken hV hH h100 hp2 hj hr2 hl, pb_b2, eS, nI_1]
    by_cases q : tkN (hVn m r p j) lim = 0
    · rw [q, if_pos (show nI 0 = 0 from rfl), Nat.add_zero (kNm m j lim r p)]
    · have e1 : tkN (hVn m r p j) lim = 1 := by have := tkN_le (v := hVn m r p j) (lim := lim); omega
      rw [e1, if_neg (show ¬ nI 1 = 0 by decide), nI_1]
  · intro k
    dsimp only
    unfold fX5_takers_5b
    rw [if_pos (show (5 : Int32) ≤ nI 5 by decide)]
/-- over the list of services -/
theorem c_upPoints (hfu : 600 < fu) (h : Rl c T Rd nh st sv hn hb hp hr x m) {t lim : Nat} (ht : t < T) (hl : lim < 2000) : fX7_upPoints fu x 0 (nI t) (nI lim) = some (sm (fun p => if p / 3 = t then 10 * hs_R x (sv p + 2) (min Rd lim) else 0) (3 * T), x) := by
  obtain ⟨hM, hC, hN, hnh, ⟨h5, h100, n1, n2, n3, n4, -⟩, hS, hT, hL, hV, -⟩ := h
  unfold fX7_upPoints fX7_upPoints_15
  have em : (if nI lim < nI Rd then nI lim else nI Rd) = nI (min Rd lim) := by
    by_cases q : lim < Rd
    · rw [if_pos (nI_lt q (by omega)), Nat.min_eq_right (by omega)]
    · rw [if_neg (nI_nlt (by omega) (by omega)), Nat.min_eq_left (by omega)]
  rw [c_gI0 hC, pb_bind, n3, em]
  have hmin : min Rd lim < 101 := by have := Nat.min_le_left Rd lim; omega
  refine pb_lpz (fun j => (x, 0, nI t, nI (min Rd lim), sm (fun p => if p / 3 = t then 10 * hs_R x (sv p + 2) (min Rd lim) else 0) j, nI j)) (3 * T) rfl ?_ ?_ (by omega)
  · intro k j hj
    have hB := hV.1 j hj
    have f0 : hs_F x 0 (sv j) = nI (j / 3) := hB.2.2.2.2.2.2.1
    dsimp only
    unfold fX7_upPoints_15b
    rw [c_g1_0 hC, pb_bind, c_ck2 hC, pb_bind]
    unfold fJx4a65c_size_8abf5
    rw [c_gI2 hC, pb_bind, pb_b2, n4, if_neg (nI_ge hj (by omega)), c_g1_0 hC, pb_bind, c_ck2 hC, pb_bind, c_svc hC hV hj, pb_b2, pb_ms, s_ck hB, pb_bind, s_gI hB, pb_bind, f0, nI_1]
    show _ = k (x, 0, nI t, nI (min Rd lim), sm _ j + (if j / 3 = t then 10 * hs_R x (sv j + 2) (min Rd lim) else 0), nI (j + 1))
    by_cases q : j / 3 = t
    · rw [if_pos (congrArg nI q), if_pos q, s_g3 hB, pb_bind, s_ld2 hB hmin, pb_bind]
    · rw [if_neg (n_ne (by omega) (by omega) q), if_neg q, Int32.add_zero]
  · intro k
    dsimp only
    unfold fX7_upPoints_15b
    rw [c_g1_0 hC, pb_bind, c_ck2 hC, pb_bind]
    unfold fJx4a65c_size_8abf5
    rw [c_gI2 hC, pb_bind, pb_b2, n4, if_pos (nI_le (Nat.le_refl _) (by omega))]
/-- an entry of the log -/
theorem c_log (hC : cS x) (hG : rG T Rd nh sv hn hb hp hr x m) {j : Nat} (hj : j < nh) : fJx4a65c_get_915e3 fu x 3 (nI j) = some (some (hn j), x) ∧ hs_ck x 2 (hn j) = some () ∧ hs_gI x 2 (hn j) 0 = some (nI (hb j)) ∧ hs_gI x 2 (hn j) 2 = some (nI (hr j)) ∧ hs_gN x 2 (hn j) 1 = some (sv (hp j)) ∧ hb j < T ∧ hp j < 3 * T ∧ hr j < Rd := by
  obtain ⟨v1, v2, v3, v4, v5, v6, v7, v8, v9⟩ := hG.2.2.1 j hj
  refine ⟨c_get hC.2.2.2.2.1 (Nat.lt_of_lt_of_le (by decide) hC.1) hG.1 hj, pb_ck v1 v3, ?_, ?_, pb_gN v1 v3 v5, v7, v8, v9⟩
  · rw [pb_gI v1 v3, v4]
  · rw [pb_gI v1 v3, v6]
theorem c_stolen (hfu : 600 < fu) (hc5 : c ≤ 512) (h : Rl c T Rd nh st sv hn hb hp hr x m) {t lim : Nat} (ht : t < T) (hl : lim < 2000) : fX7_stolenPoints fu x 0 (nI t) (nI lim) = some (sm (fun j => if hb j = t then (if tkN (hVn m (hr j) (hp j) t) lim = 0 then 0 else shN (kNm m T lim (hr j) (hp j))) else 0) nh, x) := by
  obtain ⟨hM, hC, hN, hnh, ⟨h5, h100, n1, n2, n3, n4, n5, n6, n7, -⟩, hS, hT, hL, hV, hP, hc, hK, hA, hH, hG, -⟩ := h
  unfold fX7_stolenPoints fX7_stolenPoints_5
  refine pb_lpz (fun j => (x, 0, nI t, nI lim, sm (fun j => if hb j = t then (if tkN (hVn m (hr j) (hp j) t) lim = 0 then 0 else shN (kNm m T lim (hr j) (hp j))) else 0) j, nI j)) nh rfl ?_ ?_ (by omega)
  · intro k j hj
    obtain ⟨g1, g2, g3, g4, g5, g6, g7, g8⟩ := c_log (fu := fu) hC hG hj
    dsimp only
    unfold fX7_stolenPoints_5b
    rw [c_g2_0 hC, pb_bind, c_ck3 hC, pb_bind]
    unfold fJx4a65c_size_8abf5
    rw [c_gI3 hC, pb_bind, pb_b2, n7, if_neg (nI_ge hj (by omega)), c_g2_0 hC, pb_bind, c_ck3 hC, pb_bind, g1, pb_b2, pb_ms, g2, pb_bind, g3, pb_bind, nI_1]
    show _ = k (x, 0, nI t, nI lim, sm _ j + (if hb j = t then (if tkN (hVn m (hr j) (hp j) t) lim = 0 then 0 else shN (kNm m T lim (hr j) (hp j))) else 0), nI (j + 1))
    by_cases q : hb j = t
    · rw [if_pos (congrArg nI q), if_pos q, g5, pb_bind, g4, pb_bind, s_ck (hV.1 _ g7), pb_bind, c_taken hV hH h100 g7 (by omega) (by omega) hl, pb_b2]
      by_cases q2 : tkN (hVn m (hr j) (hp j) t) lim = 0
      · rw [q2, if_pos (show nI 0 = 0 from rfl), if_pos rfl, Int32.add_zero]
      · have e1 : tkN (hVn m (hr j) (hp j) t) lim = 1 := by have := tkN_le (v := hVn m (hr j) (hp j) t) (lim := lim); omega
        rw [e1, if_neg (show ¬ nI 1 = 0 by decide), if_neg (show ¬ 1 = 0 by decide), g5, pb_bind, g4, pb_bind, s_ck (hV.1 _ g7), pb_bind, c_takers hfu hV hH h5 h100 g7 (by omega) hl, pb_b2, c_share (by have := kNm_le (m := m) (n := T) (lim := lim) (r := hr j) (p := hp j); omega), pb_b2]
    · rw [if_neg (n_ne (by omega) (by omega) q), if_neg q, Int32.add_zero]
  · intro k
    dsimp only
    unfold fX7_stolenPoints_5b
    rw [c_g2_0 hC, pb_bind, c_ck3 hC, pb_bind]
    unfold fJx4a65c_size_8abf5
    rw [c_gI3 hC, pb_bind, pb_b2, n7, if_pos (nI_le (Nat.le_refl _) (by omega))]
theorem c_off (hfu : 600 < fu) (hc5 : c ≤ 512) (h : Rl c T Rd nh st sv hn hb hp hr x m) {t lim : Nat} (ht : t < T) (hl : lim < 2000) : fX7_takenOff fu x 0 (nI t) (nI lim) = some (sm (fun j => if hp j / 3 = t then (if tkN (hVn m (hr j) (hp j) (hb j)) lim = 0 then 0 else 4) else 0) nh, x) := by
  obtain ⟨hM, hC, hN, hnh, ⟨h5, h100, n1, n2, n3, n4, n5, n6, n7, -⟩, hS, hT, hL, hV, hP, hc, hK, hA, hH, hG, -⟩ := h
  unfold fX7_takenOff fX7_takenOff_5
  refine pb_lpz (fun j => (x, 0, nI t, nI lim, sm (fun j => if hp j / 3 = t then (if tkN (hVn m (hr j) (hp j) (hb j)) lim = 0 then 0 else 4) else 0) j, nI j)) nh rfl ?_ ?_ (by omega)
  · intro k j hj
    obtain ⟨g1, g2, g3, g4, g5, g6, g7, g8⟩ := c_log (fu := fu) hC hG hj
    have f0 : hs_F x 0 (sv (hp j)) = nI (hp j / 3) := (hV.1 _ g7).2.2.2.2.2.2.1
    dsimp only
    unfold fX7_takenOff_5b
    rw [c_g2_0 hC, pb_bind, c_ck3 hC, pb_bind]
    unfold fJx4a65c_size_8abf5
    rw [c_gI3 hC, pb_bind, pb_b2, n7, if_neg (nI_ge hj (by omega)), c_g2_0 hC, pb_bind, c_ck3 hC, pb_bind, g1, pb_b2, pb_ms, g2, pb_bind, g5, pb_bind, s_gI (hV.1 _ g7), pb_bind, f0, nI_1]
    show _ = k (x, 0, nI t, nI lim, sm _ j + (if hp j / 3 = t then (if tkN (hVn m (hr j) (hp j) (hb j)) lim = 0 then 0 else 4) else 0), nI (j + 1))
    by_cases q : hp j / 3 = t
    · rw [if_pos (congrArg nI q), if_pos q, pb_bind, g3, pb_bind, g4, pb_bind, s_ck (hV.1 _ g7), pb_bind, c_taken hV hH h100 g7 (by omega) (by omega) hl, pb_b2]
      by_cases q2 : tkN (hVn m (hr j) (hp j) (hb j)) lim = 0
      · rw [q2, if_pos (show nI 0 = 0 from rfl), if_pos rfl, Int32.add_zero]
      · have e1 : tkN (hVn m (hr j) (hp j) (hb j)) lim = 1 := by have := tkN_le (v := hVn m (hr j) (hp j) (hb j)) (lim := lim); omega
        rw [e1, if_neg (show ¬ nI 1 = 0 by decide), if_neg (show ¬ 1 = 0 by decide)]
    · rw [if_neg (n_ne (by omega) (by omega) q), if_neg q, Int32.add_zero]
  · intro k
    dsimp only
    unfold fX7_takenOff_5b
    rw [c_g2_0 hC, pb_bind, c_ck3 hC, pb_bind]
    unfold fJx4a65c_size_8abf5
    rw [c_gI3 hC, pb_bind, pb_b2, n7, if_pos (nI_le (Nat.le_refl _) (by omega))]
theorem c_hands (hfu : 600 < fu) (hc5 : c ≤ 512) (h : Rl c T Rd nh st sv hn hb hp hr x m) {t : Nat} (ht : t < T) : fX7_handInsBy fu x 0 (nI t) = some (sm (fun j => if hb j = t then 1 else 0) nh, x) := by
  obtain ⟨hM, hC, hN, hnh, ⟨h5, h100, n1, n2, n3, n4, n5, n6, n7, -⟩, hS, hT, hL, hV, hP, hc, hK, hA, hH, hG, -⟩ := h
  unfold fX7_handInsBy fX7_handInsBy_4
  refine pb_lpz (fun j => (x, 0, nI t, sm (fun j => if hb j = t then 1 else 0) j, nI j)) nh rfl ?_ ?_ (by omega)
  · intro k j hj
    obtain ⟨g1, g2, g3, g4, g5, g6, g7, g8⟩ := c_log (fu := fu) hC hG hj
    dsimp only
    unfold fX7_handInsBy_4b
    rw [c_g2_0 hC, pb_bind, c_ck3 hC, pb_bind]
    unfold fJx4a65c_size_8abf5
    rw [c_gI3 hC, pb_bind, pb_b2, n7, if_neg (nI_ge hj (by omega)), c_g2_0 hC, pb_bind, c_ck3 hC, pb_bind, g1, pb_b2, pb_ms, g2, pb_bind, g3, pb_bind, nI_1]
    show _ = k (x, 0, nI t, sm _ j + (if hb j = t then 1 else 0), nI (j + 1))
    by_cases q : hb j = t
    · rw [if_pos (congrArg nI q), if_pos q]
    · rw [if_neg (n_ne (by omega) (by omega) q), if_neg q, Int32.add_zero]
  · intro k
    dsimp only
    unfold fX7_handInsBy_4b
    rw [c_g2_0 hC, pb_bind, c_ck3 hC, pb_bind]
    unfold fJx4a65c_size_8abf5
    rw [c_gI3 hC, pb_bind, pb_b2, n7, if_pos (nI_le (Nat.le_refl _) (by omega))]
/-- the sums, as the reference makes them -/
def UPv (m : hs_T) (T Rd lim t : Nat) : Int32 := sm (fun r => sm (fun p => if p / 3 = t then (if r < lim then 10 * hs_R m 21 (15 * r + p) else 0) else 0) (3 * T)) Rd
def STv (m : hs_T) (T Rd lim t : Nat) : Int32 := sm (fun r => sm (fun p => if tkN (hVn m r p t) lim = 0 then 0 else shN (kNm m T lim r p)) (3 * T)) Rd
def OFv (m : hs_T) (T Rd lim t : Nat) : Int32 := sm (fun r => sm (fun p => if p / 3 = t then 4 * nI (kNm m T lim r p) else 0) (3 * T)) Rd
def HNv (m : hs_T) (T Rd lim t : Nat) : Int32 := sm (fun r => sm (fun p => nI (tkN (hVn m r p t) lim)) (3 * T)) Rd
theorem up_row (h : rC T Rd sv x m) {p : Nat} (hp2 : p < 3 * T) : ∀ a, a ≤ Rd → hs_R x (sv p + 2) a = sm (fun r => hs_R m 21 (15 * r + p)) a := by
  obtain ⟨-, -, -, -, h0, hu⟩ := h p hp2
  intro a
  induction a with
  | zero => intro _; exact h0
  | succ a ih =>
    intro ha
    obtain ⟨u, u1, u2, u3⟩ := hu a (by omega)
    rw [u3, ih (by omega)]
    show _ = sm _ a + hs_R m 21 (15 * a + p)
    rw [u2]
theorem up_eq (h : rC T Rd sv x m) {t lim : Nat} : sm (fun p => if p / 3 = t then 10 * hs_R x (sv p + 2) (min Rd lim) else 0) (3 * T) = UPv m T Rd lim t := by
  unfold UPv
  rw [sm_swap (a := Rd)]
  refine sm_ext (fun p hp2 => ?_)
  by_cases q : p / 3 = t
  · rw [if_pos q, up_row h hp2 _ (Nat.min_le_left _ _), sm_mul, ← sm_cut (n := Rd) (Nat.min_le_left _ _)]
    refine sm_ext (fun r hr2 => ?_)
    show (if r < min Rd lim then 10 * hs_R m 21 (15 * r + p) else 0) = (if p / 3 = t then (if r < lim then 10 * hs_R m 21 (15 * r + p) else 0) else 0)
    rw [if_pos q]
    by_cases q2 : r < lim
    · rw [if_pos q2, if_pos (Nat.lt_min.mpr ⟨hr2, q2⟩)]
    · rw [if_neg q2, if_neg (fun z => q2 (Nat.lt_min.mp z).2)]
  · rw [if_neg q]
    exact (sm_zero (fun r _ => if_neg q)).symm
theorem smH_b (hH : rH T Rd sv x m) (h5 : T ≤ 5) (h100 : Rd ≤ 100) {φ ψ : Nat → Nat → Nat → Int32} (h : ∀ r p b, r < Rd → p < 3 * T → b < T → (hVn m r p b = 0 → ψ r p b = 0) ∧ (hVn m r p b ≠ 0 → ψ r p b = φ b p r)) : smH T Rd m φ = sm (fun r => sm (fun p => sm (fun b => ψ r p b) T) (3 * T)) Rd := by
  unfold smH
  refine sm_ext (fun r hr2 => sm_ext (fun p hp2 => sm_ext (fun b hb2 => ?_)))
  obtain ⟨h1, h2⟩ := h r p b hr2 hp2 hb2
  obtain ⟨v1, v2, v3, v4⟩ := rH_x hH h100 (b := b) hp2 (by omega) (show r < 100 by omega)
  show (if hs_R m 27 (75 * r + 5 * p + b) = 0 then 0 else φ b p r) = ψ r p b
  rw [v2]
  by_cases q : hVn m r p b = 0
  · rw [h1 q, q, if_pos (show nI 0 = 0 from rfl)]
  · rw [h2 q, if_neg (nI_ne0 (by omega) (by omega))]
theorem st_eq (h : Rl c T Rd nh st sv hn hb hp hr x m) {t lim : Nat} (ht : t < T) : sm (fun j => if hb j = t then (if tkN (hVn m (hr j) (hp j) t) lim = 0 then 0 else shN (kNm m T lim (hr j) (hp j))) else 0) nh = STv m T Rd lim t := by
  obtain ⟨hM, hC, hN, hnh, ⟨h5, h100, -⟩, hS, hT, hL, hV, hP, hc, hK, hA, hH, hG, -⟩ := h
  have e := hG.2.2.2 (fun b p r => if b = t then (if tkN (hVn m r p t) lim = 0 then 0 else shN (kNm m T lim r p)) else 0)
  refine e.trans ?_
  rw [smH_b hH h5 h100 (ψ := fun r p b => if b = t then (if tkN (hVn m r p b) lim = 0 then 0 else shN (kNm m T lim r p)) else 0) (fun r p b _ _ _ => ⟨fun z => ?_, fun z => ?_⟩)]
  · unfold STv
    refine sm_ext (fun r _ => sm_ext (fun p _ => ?_))
    exact sm_pick (g := fun b => if tkN (hVn m r p b) lim = 0 then 0 else shN (kNm m T lim r p)) ht
  · by_cases q : b = t
    · rw [if_pos q, z, tkN_0, if_pos rfl]
    · exact if_neg q
  · by_cases q : b = t
    · subst q; rfl
    · rw [if_neg q, if_neg q]
theorem of_eq (h : Rl c T Rd nh st sv hn hb hp hr x m) {t lim : Nat} : sm (fun j => if hp j / 3 = t then (if tkN (hVn m (hr j) (hp j) (hb j)) lim = 0 then 0 else 4) else 0) nh = OFv m T Rd lim t := by
  obtain ⟨hM, hC, hN, hnh, ⟨h5, h100, -⟩, hS, hT, hL, hV, hP, hc, hK, hA, hH, hG, -⟩ := h
  have e := hG.2.2.2 (fun b p r => if p / 3 = t then (if tkN (hVn m r p b) lim = 0 then 0 else 4) else 0)
  refine e.trans ?_
  rw [smH_b hH h5 h100 (ψ := fun r p b => if p / 3 = t then (if tkN (hVn m r p b) lim = 0 then 0 else 4) else 0) (fun r p b _ _ _ => ⟨fun z => ?_, fun z => rfl⟩)]
  · unfold OFv
    refine sm_ext (fun r _ => sm_ext (fun p _ => ?_))
    by_cases q : p / 3 = t
    · rw [if_pos q]
      refine (sm_ext (g := fun b => if tkN (hVn m r p b) lim = 0 then 0 else (4 : Int32)) (fun b _ => if_pos q)).trans ?_
      rw [sm_ind (fun b _ => tkN_le), Int32.mul_comm]
      rfl
    · rw [if_neg q]
      exact sm_zero (fun b _ => if_neg q)
  · by_cases q : p / 3 = t
    · rw [if_pos q, z, tkN_0, if_pos rfl]
    · exact if_neg q
theorem hn_eq (h : Rl c T Rd nh st sv hn hb hp hr x m) {t lim : Nat} (ht : t < T) (hl : Rd ≤ lim) : sm (fun j => if hb j = t then 1 else 0) nh = HNv m T Rd lim t := by
  obtain ⟨hM, hC, hN, hnh, ⟨h5, h100, -⟩, hS, hT, hL, hV, hP, hc, hK, hA, hH, hG, -⟩ := h
  have e := hG.2.2.2 (fun b p r => if b = t then 1 else 0)
  refine e.trans ?_
  rw [smH_b hH h5 h100 (ψ := fun r p b => if b = t then nI (tkN (hVn m r p b) lim) else 0) (fun r p b hr2 hp2 hb2 => ⟨fun z => ?_, fun z => ?_⟩)]
  · unfold HNv
    refine sm_ext (fun r _ => sm_ext (fun p _ => ?_))
    exact sm_pick (g := fun b => nI (tkN (hVn m r p b) lim)) ht
  · by_cases q : b = t
    · rw [if_pos q, z, tkN_0]; rfl
    · exact if_neg q
  · obtain ⟨v1, v2, v3, v4⟩ := rH_x hH h100 (b := b) hp2 (by omega) (show r < 100 by omega)
    by_cases q : b = t
    · rw [if_pos q, if_pos q]
      unfold tkN
      rw [if_neg (by omega)]
      rfl
    · rw [if_neg q, if_neg q]
theorem c_ahead (hfu : 600 < fu) (hc5 : c ≤ 512) (h : Rl c T Rd nh st sv hn hb hp hr x m) {t lim : Nat} (ht : t < T) (hl : lim < 2000) : fX7_pointsAhead fu x 0 (nI t) (nI lim) = some (UPv m T Rd lim t + STv m T Rd lim t - OFv m T Rd lim t, x) := by
  have hC := h.2.1
  have hc := h.2.2.2.2.2.2.2.2.2.2.1
  unfold fX7_pointsAhead
  rw [c_ck0 hC, pb_bind, c_upPoints hfu h ht hl, pb_b2, c_ck0 hC, pb_bind, c_stolen hfu hc5 h ht hl, pb_b2, c_ck0 hC, pb_bind, c_off hfu hc5 h ht hl, pb_b2, up_eq hc, st_eq h ht, of_eq h]
end CPts
