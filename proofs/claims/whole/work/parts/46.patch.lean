/-! Pure part 17: patch -/
section Patch
variable {c T Rd nh fu : Nat} {st sv hn hb hp hr : Nat → Nat} {x x' m m' : hs_T}
/-- the reference copies what it read -/
def cpM (m : hs_T) (q : Nat) : Nat → hs_T
  | 0 => m
  | k + 1 => hs_wR (hs_wR (cpM m q k) 2 (24 * q + k) (hs_R m 6 k)) 3 (24 * q + k) (hs_R m 7 k)
theorem cpM_is (m : hs_T) (q : Nat) : ∀ k, (cpM m q k).1 = m.1 ∧ (cpM m q k).2.1 = m.2.1 ∧ (cpM m q k).2.2.1 = m.2.2.1 ∧ (∀ a, a ≠ 2 → a ≠ 3 → hs_R (cpM m q k) a = hs_R m a) ∧ (∀ i, (i < 24 * q ∨ 24 * q + 24 ≤ i) → k ≤ 24 → hs_R (cpM m q k) 2 i = hs_R m 2 i ∧ hs_R (cpM m q k) 3 i = hs_R m 3 i) ∧ ∀ j, j < k → hs_R (cpM m q k) 2 (24 * q + j) = hs_R m 6 j ∧ hs_R (cpM m q k) 3 (24 * q + j) = hs_R m 7 j := by
  intro k
  induction k with
  | zero => exact ⟨rfl, rfl, rfl, fun _ _ _ => rfl, fun _ _ _ => ⟨rfl, rfl⟩, fun j hj => absurd hj (by omega)⟩
  | succ k ih =>
    obtain ⟨a1, a2, a3, a4, a5, a6⟩ := ih
    have e2 : ∀ i, hs_R (cpM m q (k + 1)) 2 i = if i = 24 * q + k then hs_R m 6 k else hs_R (cpM m q k) 2 i := by
      intro i
      show hs_R (hs_wR (hs_wR (cpM m q k) 2 (24 * q + k) (hs_R m 6 k)) 3 (24 * q + k) (hs_R m 7 k)) 2 i = _
      rw [pb_R_wR, if_neg (by omega), pb_R_wR]
      by_cases z : i = 24 * q + k
      · rw [if_pos ⟨rfl, z⟩, if_pos z]
      · rw [if_neg (fun w => z w.2), if_neg z]
    have e3 : ∀ i, hs_R (cpM m q (k + 1)) 3 i = if i = 24 * q + k then hs_R m 7 k else hs_R (cpM m q k) 3 i := by
      intro i
      show hs_R (hs_wR (hs_wR (cpM m q k) 2 (24 * q + k) (hs_R m 6 k)) 3 (24 * q + k) (hs_R m 7 k)) 3 i = _
      rw [pb_R_wR]
      by_cases z : i = 24 * q + k
      · rw [if_pos ⟨rfl, z⟩, if_pos z]
      · rw [if_neg (fun w => z w.2), if_neg z, pb_R_wR, if_neg (by omega)]
    refine ⟨a1, a2, a3, fun a h2 h3 => (hs_up_row_ne h3).trans ((hs_up_row_ne h2).trans (a4 a h2 h3)), fun i hi hk => ?_, fun j hj => ?_⟩
    · rw [e2, e3, if_neg (by omega), if_neg (by omega)]
      exact a5 i hi (by omega)
    · rw [e2, e3]
      by_cases z : j = k
      · subst z
        rw [if_pos rfl, if_pos rfl]
        exact ⟨rfl, rfl⟩
      · rw [if_neg (by omega), if_neg (by omega)]
        exact a6 j (by omega)
theorem m_copy (hM : mS m) {n p : Nat} (hn : n ≤ 24) (m11 : hs_F m 11 0 = nI n) (hp15 : p < 15) (hfu : 600 < fu) : fX8_patch_42 fu m 0 (nI p) 0 = some (nI n, hs_wR (hs_wR (cpM m (p + 15) n) 4 (p + 15) (nI n)) 5 p (nI 1)) := by
  unfold fX8_patch_42
  refine pb_lpz (fun k => (cpM m (p + 15) k, 0, nI p, nI k)) n rfl ?_ ?_ (by omega)
  · intro k i hi
    obtain ⟨a1, a2, a3, a4, a5, a6⟩ := cpM_is m (p + 15) i
    have hM2 := mS_of a1 a3 hM
    dsimp only
    unfold fX8_patch_42b
    rw [m_gI hM2, pb_bind, show hs_F (cpM m (p + 15) i) 11 0 = nI n from (congrFun (congrFun a2 11) 0).trans m11, if_neg (nI_ge hi (by omega)), m_g3 hM2, pb_bind, m_g9 hM2, pb_bind, m_ld6 hM2 (by omega), pb_bind, a4 6 (by decide) (by decide), il 15, nI_add, il 24, pk_mul, nI_add, m_st2 hM2 (by omega), pb_bind, m_g4 (σ := hs_wR (cpM m (p + 15) i) 2 (24 * (p + 15) + i) (hs_R m 6 i)) hM2, pb_bind, m_g10 (σ := hs_wR (cpM m (p + 15) i) 2 (24 * (p + 15) + i) (hs_R m 6 i)) hM2, pb_bind, m_ld7 (σ := hs_wR (cpM m (p + 15) i) 2 (24 * (p + 15) + i) (hs_R m 6 i)) hM2 (by omega), pb_bind, show hs_R (hs_wR (cpM m (p + 15) i) 2 (24 * (p + 15) + i) (hs_R m 6 i)) 7 i = hs_R m 7 i by rw [pb_R_wR, if_neg (by omega), a4 7 (by decide) (by decide)], m_st3 (σ := hs_wR (cpM m (p + 15) i) 2 (24 * (p + 15) + i) (hs_R m 6 i)) hM2 (by omega), pb_bind, nI_1]
    rfl
  · intro k
    obtain ⟨a1, a2, a3, a4, a5, a6⟩ := cpM_is m (p + 15) n
    have hM2 := mS_of a1 a3 hM
    have f11 : hs_F (cpM m (p + 15) n) 11 0 = nI n := (congrFun (congrFun a2 11) 0).trans m11
    dsimp only
    unfold fX8_patch_42b
    rw [m_gI hM2, pb_bind, f11, if_pos (nI_le (Nat.le_refl _) (by omega)), m_g5 hM2, pb_bind, pb_bind, il 15, nI_add, m_st4 hM2 (by omega), pb_bind, m_g6 (σ := hs_wR (cpM m (p + 15) n) 4 (p + 15) (nI n)) hM2, pb_bind, m_st5 (σ := hs_wR (cpM m (p + 15) n) 4 (p + 15) (nI n)) hM2 (by omega), pb_bind, m_gI (σ := hs_wR (hs_wR (cpM m (p + 15) n) 4 (p + 15) (nI n)) 5 p (1 &&& 1)) hM2, pb_bind, show hs_F (hs_wR (hs_wR (cpM m (p + 15) n) 4 (p + 15) (nI n)) 5 p (1 &&& 1)) 11 0 = nI n from f11]
    rfl
/-- a new program -/
theorem p_mk (hC : cS x) (hN : hs_N x < 90000) {n : Nat} (hn : n ≤ 24) (x2 : hs_F x 2 6 = nI n) : ∃ x', fX4_program fu x 6 = some (some (hs_N x), x') ∧ (∀ l, l < 17 → l ≠ 6 → ex l x x') ∧ hs_N x' = hs_N x + 3 ∧ hs_K x' (hs_N x) = 5 ∧ hs_K x' (hs_N x + 1) = 11 ∧ hs_K x' (hs_N x + 2) = 11 ∧ hs_G x' 1 (hs_N x) = some (hs_N x + 1) ∧ hs_G x' 2 (hs_N x) = some (hs_N x + 2) ∧ hs_F x' 0 (hs_N x) = nI n ∧ hs_L x' (hs_N x + 1) = n ∧ hs_L x' (hs_N x + 2) = n ∧ ∀ k, k < n → hs_R x' (hs_N x + 1) k = hs_R x 7 k ∧ hs_R x' (hs_N x + 2) k = hs_R x 8 k := by
  have hN17 := hC.1
  have hx0 : ∀ l, l < 17 → l ≠ 6 → ex l x (hs_mkO x 5) := fun l hl _ => ex_mkO (by omega) ex_rf
  have hx2 : ex 2 x (hs_mkO x 5) := ex_mkO (by omega) ex_rf
  have hC1 : cS (hs_mkO x 5) := ex_cS hx2 (Or.inl rfl) hC
  unfold fX4_program
  rw [pb_lv1 (by omega), pb_bind, pb_nO (by omega), pb_bind, c_g0_6 hC1, pb_bind, c_g1_6 hC1, pb_bind, c_gI6 hC1, pb_bind, ((hx0 0 (by decide) (by decide)).2.2.1 6 (by omega) (by decide) 2).1, x2, pb_ck (show hs_K (hs_mkO x 5) (hs_N x) = 5 from up_e) (Nat.lt_succ_self _), pb_bind, pb_lv1 (show hs_N x < hs_N (hs_mkO x 5) from Nat.lt_succ_self _), pb_bind]
  unfold fX3_init
  have k1 : hs_K (hs_mkO x 5) (hs_N x) = 5 := up_e
  have n1 : hs_N (hs_mkO x 5) = hs_N x + 1 := rfl
  rw [pb_pI k1 (by omega), pb_bind]
  generalize hy1 : hs_wF (hs_mkO x 5) 0 (hs_N x) (nI n) = y1
  have y1N : hs_N y1 = hs_N x + 1 := by subst hy1; rfl
  have y1K : hs_K y1 (hs_N x) = 5 := by subst hy1; exact up_e
  have y1F : hs_F y1 0 (hs_N x) = nI n := by subst hy1; rw [pb_F_wF, if_pos ⟨rfl, rfl⟩]
  have y1x : ∀ l, l < 17 → l ≠ 6 → ex l x y1 := fun l hl hl6 => by subst hy1; exact ex_F (Or.inl (Nat.le_refl _)) (hx0 l hl hl6)
  rw [pb_lv3 (by omega) (by omega) (by omega), pb_bind, pb_nA (by omega) hn (by decide), pb_bind]
  have a1K : hs_K (hs_mkA y1 11 n) (hs_N x) = 5 := (up_n (by omega)).trans y1K
  have a1N : hs_N (hs_mkA y1 11 n) = hs_N x + 2 := by show hs_N y1 + 1 = _; omega
  rw [pb_pS a1K (by omega) (by omega), pb_bind]
  generalize hy2 : hs_wG (hs_mkA y1 11 n) 1 (hs_N x) (some (hs_N y1)) = y2
  have y2N : hs_N y2 = hs_N x + 2 := by subst hy2; exact a1N
  have y2K : hs_K y2 (hs_N x) = 5 := by subst hy2; exact a1K
  have y2F : hs_F y2 0 (hs_N x) = nI n := by subst hy2; exact y1F
  have y2x : ∀ l, l < 17 → l ≠ 6 → ex l x y2 := fun l hl hl6 => by subst hy2; exact ex_G (Nat.le_refl _) (by omega) (ex_mkA (y1x l hl hl6))
  have y2K1 : hs_K y2 (hs_N x + 1) = 11 := by subst hy2; rw [← y1N]; exact up_e
  have y2L1 : hs_L y2 (hs_N x + 1) = n := by subst hy2; rw [← y1N]; exact up_e
  have y2G : hs_G y2 1 (hs_N x) = some (hs_N x + 1) := by subst hy2; rw [pb_G_wG, if_pos ⟨rfl, rfl⟩, y1N]
  rw [pb_lv3 (by omega) (by omega) (by omega), pb_bind, pb_nA (by omega) hn (by decide), pb_bind]
  have a2K : hs_K (hs_mkA y2 11 n) (hs_N x) = 5 := (up_n (by omega)).trans y2K
  have a2N : hs_N (hs_mkA y2 11 n) = hs_N x + 3 := by show hs_N y2 + 1 = _; omega
  rw [pb_pS a2K (by omega) (by omega), pb_bind]
  generalize hy3 : hs_wG (hs_mkA y2 11 n) 2 (hs_N x) (some (hs_N y2)) = y3
  have y3N : hs_N y3 = hs_N x + 3 := by subst hy3; exact a2N
  have y3K : hs_K y3 (hs_N x) = 5 := by subst hy3; exact a2K
  have y3F : hs_F y3 0 (hs_N x) = nI n := by subst hy3; exact y2F
  have y3x : ∀ l, l < 17 → l ≠ 6 → ex l x y3 := fun l hl hl6 => by subst hy3; exact ex_G (Nat.le_refl _) (by omega) (ex_mkA (y2x l hl hl6))
  have y3K1 : hs_K y3 (hs_N x + 1) = 11 := by subst hy3; exact (up_n (by omega)).trans y2K1
  have y3L1 : hs_L y3 (hs_N x + 1) = n := by subst hy3; exact (up_n (by omega)).trans y2L1
  have y3K2 : hs_K y3 (hs_N x + 2) = 11 := by subst hy3; rw [← y2N]; exact up_e
  have y3L2 : hs_L y3 (hs_N x + 2) = n := by subst hy3; rw [← y2N]; exact up_e
  have y3G1 : hs_G y3 1 (hs_N x) = some (hs_N x + 1) := by subst hy3; rw [pb_G_wG, if_neg (by omega)]; exact y2G
  have y3G2 : hs_G y3 2 (hs_N x) = some (hs_N x + 2) := by subst hy3; rw [pb_G_wG, if_pos ⟨rfl, rfl⟩, y2N]
  obtain ⟨b1, b2, b3, b4, b5⟩ := y3x 0 (by decide) (by decide)
  have K7 : hs_K y3 7 = 11 := by rw [(b2 7 (by omega)).1]; exact hC.2.2.2.2.2.2.2.2.1
  have K8 : hs_K y3 8 = 11 := by rw [(b2 8 (by omega)).1]; exact hC.2.2.2.2.2.2.2.2.2.1
  have L7 : hs_L y3 7 = 24 := by rw [(b2 7 (by omega)).2.1]; exact hC.2.2.2.2.2.2.2.2.2.2.2.2.2.2.2.2.2.2.2.2.1
  have L8 : hs_L y3 8 = 24 := by rw [(b2 8 (by omega)).2.1]; exact hC.2.2.2.2.2.2.2.2.2.2.2.2.2.2.2.2.2.2.2.2.2.1
  rw [pb_gN y3K (by omega) y3G1, pb_bind, il 0, pb_cp K7 (by omega) y3K1 (by omega) L7 y3L1 (by omega) (by omega) (by decide) (by omega), pb_bind, pb_gN (σ := hs_wRow y3 (hs_N x + 1) (va_cpy (hs_R y3 7) (hs_R y3 (hs_N x + 1)) 0 0 n)) y3K (show hs_N x < hs_N y3 by omega) y3G2, pb_bind]
  generalize hy4 : hs_wRow y3 (hs_N x + 1) (va_cpy (hs_R y3 7) (hs_R y3 (hs_N x + 1)) 0 0 n) = y4
  have y41 : y4.1 = y3.1 := by subst hy4; rfl
  have y4N : hs_N y4 = hs_N x + 3 := (hs_N_of y41).trans y3N
  have y4K : hs_K y4 = hs_K y3 := hs_K_of y41
  have y4L : hs_L y4 = hs_L y3 := hs_L_of y41
  have y4G : hs_G y4 = hs_G y3 := by subst hy4; rfl
  have y4F : hs_F y4 = hs_F y3 := by subst hy4; rfl
  have y4x : ∀ l, l < 17 → l ≠ 6 → ex l x y4 := fun l hl hl6 => by subst hy4; exact ex_Row (by omega) (y3x l hl hl6)
  have y4R : ∀ q i, hs_R y4 q i = if q = hs_N x + 1 then va_cpy (hs_R y3 7) (hs_R y3 (hs_N x + 1)) 0 0 n i else hs_R y3 q i := by subst hy4; intro q i; rw [pb_R_wRow]
  rw [pb_cp (σ := y4) (n0 := 8) (n1 := hs_N x + 2) (N0 := 24) (N1 := n) (sp := 0) (dp := 0) (k := n) (by rw [y4K]; exact K8) (by omega) (by rw [y4K]; exact y3K2) (by omega) (by rw [y4L]; exact L8) (by rw [y4L]; exact y3L2) (by omega) (by omega) (by decide) (by omega), pb_bind, pb_b2, pb_le (by show hs_N x + 1 ≤ hs_N y4; omega), pb_bind]
  refine ⟨_, rfl, fun l hl hl6 => ex_Row (by omega) (y4x l hl hl6), y4N, by show hs_K y4 _ = _; rw [y4K]; exact y3K, by show hs_K y4 _ = _; rw [y4K]; exact y3K1, by show hs_K y4 _ = _; rw [y4K]; exact y3K2, by show hs_G y4 _ _ = _; rw [y4G]; exact y3G1, by show hs_G y4 _ _ = _; rw [y4G]; exact y3G2, by show hs_F y4 _ _ = _; rw [y4F]; exact y3F, by show hs_L y4 _ = _; rw [y4L]; exact y3L1, by show hs_L y4 _ = _; rw [y4L]; exact y3L2, fun k hk => ⟨?_, ?_⟩⟩
  · rw [pb_R_wRow, if_neg (by omega), y4R, if_pos rfl, pk_cpy_in (by omega) (by omega), (b2 7 (by omega)).2.2, Nat.zero_add, Nat.sub_zero]
  · rw [pb_R_wRow, if_pos rfl, pk_cpy_in (by omega) (by omega), y4R, if_neg (by omega), (b2 8 (by omega)).2.2, Nat.zero_add, Nat.sub_zero]
theorem op_patch (hc512 : c < 512) (hfu : 600 < fu) (h : Rl c T Rd nh st sv hn hb hp hr x m) (a b : Int32) : Op c (fX7_patch fu x 0 a b) (fX8_patch fu m 0 a b) := by
  have h0 := h
  have hrest := Rl_rest h
  obtain ⟨hM, hC, hN, hnh, hrn, hS, ⟨tp, t0, t1, t2, t3⟩, hL, hV, hP, hc, hK, hA, hH, hG, hO⟩ := h
  obtain ⟨h5, h100, n1, n2, n3, n4, n5, n6, n7, n8, n9, fa, n10, n11⟩ := id hrn
  have hN17 := hC.1
  unfold fX7_patch fX8_patch
  rcases pl_cases T h5 a b with ⟨t, s, ht, hs, rfl, rfl⟩ | hno
  · have hlt : 3 * t + s < 3 * T := by omega
    have hB := hV.1 (3 * t + s) hlt
    have hb1 := hB.1
    have hb2 := hB.2.1
    obtain ⟨bt, hbt⟩ : ∃ bt : Nat → Nat, ∀ i, i < tp → bt i < 256 ∧ hs_R x 5 i = nI (bt i) ∧ hs_R m 1 i = nI (bt i) := by
      refine ⟨fun i => if hi : i < tp then Classical.choose (t3 i hi) else 0, fun i hi => ?_⟩
      dsimp only
      rw [dif_pos hi]
      exact Classical.choose_spec (t3 i hi)
    obtain ⟨v, x1, m1, e1, e2, f1, f2, e3⟩ := rd_all (fu := fu) (tp := tp) (b := bt) hC hM ⟨t1, t0, fun i hi => (hbt i hi).2.1⟩ ⟨t2, t0, fun i hi => (hbt i hi).2.2⟩ (fun i hi => (hbt i hi).1) hfu
    rw [c_ck0 hC, pb_bind, c_find_y hC n4 h5 hV ht hs, pb_b2, pb_le (Nat.le_refl _), pb_bind, pb_ms, c_g4_0 hC, pb_bind, c_g3_0 hC, pb_bind, c_ck6 hC, pb_bind, e1, pb_b2, pb_le (Nat.le_of_eq (hs_N_of f1.1).symm), pb_bind, m_ck hM, pb_bind, m_isPlace_y hM n1 h5 ht hs, pb_b2, if_neg o_nz, m_ck hM, pb_bind, e2, pb_b2]
    have hC1 := cS_of f1.1 f1.2.1 hC
    have hM1 := mS_of f2.1 f2.2.1 hM
    rw [c_g3_0 hC1, pb_bind, c_pI4 hC1, pb_bind, m_pI hM1, pb_bind]
    -- the heaps after the text was read
    generalize hx2 : hs_wF x1 1 4 0 = x2
    generalize hm2 : hs_wF m1 7 0 0 = m2
    have g1 : x2.1 = x.1 := by subst hx2; exact f1.1
    have g2 : x2.2.2.1 = x.2.2.1 := by subst hx2; exact f1.2.1
    have g3 : x2.2.2.2.2 = x.2.2.2.2 := by subst hx2; exact f1.2.2.1
    have gF : ∀ k q, q ≠ 6 → q ≠ 4 → hs_F x2 k q = hs_F x k q := fun k q h6 h4 => by subst hx2; exact (wF_ne (fun z => h4 z.2)).trans (f1.2.2.2.1 k q h6)
    have gR : ∀ q, q ≠ 7 → q ≠ 8 → hs_R x2 q = hs_R x q := fun q h7 h8 => by subst hx2; exact f1.2.2.2.2 q h7 h8
    have k1 : m2.1 = m.1 := by subst hm2; exact f2.1
    have k2 : m2.2.2.1 = m.2.2.1 := by subst hm2; exact f2.2.1
    have kF : ∀ k, k ≠ 7 → k ≠ 8 → k ≠ 11 → hs_F m2 k 0 = hs_F m k 0 := fun k h7 h8 h11 => by subst hm2; exact (wF_ne (fun z => h7 z.1)).trans (f2.2.2.2.1 k h8 h11)
    have kR : ∀ q, q ≠ 6 → q ≠ 7 → hs_R m2 q = hs_R m q := fun q h6 h7 => by subst hm2; exact f2.2.2.2.2 q h6 h7
    have x14 : hs_F x2 1 4 = nI 0 := by subst hx2; rw [pb_F_wF, if_pos ⟨rfl, rfl⟩]; rfl
    have m70 : hs_F m2 7 0 = nI 0 := by subst hm2; rw [pb_F_wF, if_pos ⟨rfl, rfl⟩]; rfl
    have hC2 : cS x2 := cS_of g1 g2 hC
    have hM2 : mS m2 := mS_of k1 k2 hM
    have rest2 : rest T Rd nh sv hn hb hp hr x2 m2 := rest_of (x := x) (m := m) h5 g1 g2 g3 (fun k q hq _ _ => gF k q (by omega) (by omega)) (gF 2 2 (by decide) (by decide)) (gF 2 3 (by decide) (by decide)) (fun q hq _ => gR q (by omega) (by omega)) (kF 29 (by decide) (by decide) (by decide)) (fun q hq => kR q (by omega) (by omega)) (fun a i ha => congrFun (kR a (by omega) (by omega)) i) hrest
    have rc2 : rC T Rd sv x2 m2 := rC_low (x := x) (m := m) hV.1 (fun k q hq => gF k q (by omega) (by omega)) (fun q hq => gR q (by omega) (by omega)) (fun q hq => kR q (by omega) (by omega)) hc
    have base : Rl c T Rd nh st sv hn hb hp hr x2 m2 := by
      refine Rl_mk hM2 hC2 (by rw [hs_N_of g1]; exact hN) hnh ⟨h5, h100, ?_, ?_, ?_, ?_, ?_, ?_, ?_, ?_, n9, fa, n10, ?_⟩ ?_ ⟨0, by decide, x14, m70, fun i hi => absurd hi (by omega)⟩ ?_ rc2 rest2
      · rw [kF 0 (by decide) (by decide) (by decide)]; exact n1
      · rw [kF 1 (by decide) (by decide) (by decide)]; exact n2
      · rw [gF 8 0 (by decide) (by decide)]; exact n3
      · rw [gF 2 2 (by decide) (by decide)]; exact n4
      · rw [gF 9 0 (by decide) (by decide), kF 30 (by decide) (by decide) (by decide)]; exact n5
      · rw [gF 5 9 (by decide) (by decide), kF 21 (by decide) (by decide) (by decide)]; exact n6
      · rw [gF 2 3 (by decide) (by decide)]; exact n7
      · rw [kF 38 (by decide) (by decide) (by decide)]; exact n8
      · rw [kF 21 (by decide) (by decide) (by decide)]; exact n11
      · refine ⟨fun w hw => ?_, hS.2⟩
        rw [gR 1 (by decide) (by decide), kR 13 (by decide) (by decide)]
        exact hS.1 w hw
      · obtain ⟨lt, l0, l1, l2, l3⟩ := hL
        refine ⟨lt, l0, by rw [gF 3 12 (by decide) (by decide)]; exact l1, by rw [kF 28 (by decide) (by decide) (by decide)]; exact l2, fun i hi => ?_⟩
        rw [gR 13 (by decide) (by decide), gR 14 (by decide) (by decide), gR 15 (by decide) (by decide), kR 15 (by decide) (by decide), kR 16 (by decide) (by decide), kR 17 (by decide) (by decide)]
        exact l3 i hi
    have gN2 : hs_N x2 = hs_N x := hs_N_of g1
    rcases e3 with ⟨w, hw, rfl⟩ | ⟨rfl, n, sg, nm, r1, r2, r3, r4, r5⟩
    · -- a fault
      refine ⟨-10 - nI w, x2, m2, ?_, ?_, T, Rd, nh, st, sv, hn, hb, hp, hr, Rl_le (Nat.le_succ c) base⟩
      · rw [if_neg]
        intro z
        have := nI_pos (n := w) (by omega)
        rw [z] at this
        exact this (by decide)
      · rw [if_neg (nI_pos (by omega))]
    · -- a program
      have xr2 : hs_F x2 2 6 = nI n := by subst hx2; exact (wF_ne (by decide)).trans r3
      have mr2 : hs_F m2 11 0 = nI n := by subst hm2; exact (wF_ne (by decide)).trans r4
      have x7 : ∀ k, hs_R x2 7 k = hs_R x1 7 k := fun k => by subst hx2; rfl
      have x8 : ∀ k, hs_R x2 8 k = hs_R x1 8 k := fun k => by subst hx2; rfl
      have m6 : ∀ k, hs_R m2 6 k = hs_R m1 6 k := fun k => by subst hm2; rfl
      have m7 : ∀ k, hs_R m2 7 k = hs_R m1 7 k := fun k => by subst hm2; rfl
      obtain ⟨x3, p1, p2, p3, p4, p5, p6, p7, p8, p9, p10, p11, p12⟩ := p_mk (fu := fu) hC2 (by omega) r2 xr2
      have hB2 := rest2.1.1 (3 * t + s) hlt
      have X0 : ex 0 x2 x3 := p2 0 (by decide) (by decide)
      have X5 : ex 5 x2 x3 := p2 5 (by decide) (by decide)
      obtain ⟨a1, a2, a3, a4, a5⟩ := id X5
      have hC3 : cS x3 := ex_cS (p2 2 (by decide) (by decide)) (Or.inl rfl) hC2
      have hB3 : ∀ q, q < 3 * T → sB x3 (sv q) q := fun q hq => ex_sB X5 (by decide) (rest2.1.1 q hq)
      have g10 : hs_G x2 1 0 = some 2 := by
        have := c_g1_0 hC2
        unfold hs_gN at this
        rw [if_pos ⟨hC2.2.1, by omega⟩] at this
        exact this
      have hls : ∀ {l2 cn : Nat} {el : Nat → Nat}, l2 = 2 ∨ l2 = 3 → lS x2 l2 cn el → lS x3 l2 cn el := fun {l2 cn el} hl z => ex_lS X0 (by omega) (by omega) (fun e h17 _ _ h2 => by rw [g10] at h2; have := Option.some.inj h2; omega) z
      rw [if_pos rfl, c_g4_0 hC2, pb_bind, c_ck6 hC2, pb_bind, pb_lv1 (by omega), pb_bind, p1, pb_b2, pb_le (by omega), pb_bind, pb_ms, s_pS (hB3 _ hlt) (by omega), pb_bind, pb_gI (σ := hs_wG x3 10 (sv (3 * t + s)) (some (hs_N x2))) p4 (show hs_N x2 < hs_N x3 by omega), pb_bind, show hs_F (hs_wG x3 10 (sv (3 * t + s)) (some (hs_N x2))) 0 (hs_N x2) = nI n from p9, if_pos (show (-1 : Int32) < 0 by decide), il 3, pk_mul, nI_add, m_copy hM2 r2 mr2 (by omega) hfu]
      generalize hm4 : hs_wR (hs_wR (cpM m2 (3 * t + s + 15) n) 4 (3 * t + s + 15) (nI n)) 5 (3 * t + s) (nI 1) = m4
      obtain ⟨c1, c2, c3, c4, c5, c6⟩ := cpM_is m2 (3 * t + s + 15) n
      have q1 : m4.1 = m2.1 := by subst hm4; exact c1
      have q2 : m4.2.2.1 = m2.2.2.1 := by subst hm4; exact c3
      have qF : ∀ k, hs_F m4 k 0 = hs_F m2 k 0 := fun k => by subst hm4; exact congrFun (congrFun c2 k) 0
      have qR : ∀ a, a ≠ 2 → a ≠ 3 → a ≠ 4 → a ≠ 5 → hs_R m4 a = hs_R m2 a := fun a z2 z3 z4 z5 => by subst hm4; exact (hs_up_row_ne z5).trans ((hs_up_row_ne z4).trans (c4 a z2 z3))
      have q4 : ∀ i, hs_R m4 4 i = if i = 3 * t + s + 15 then nI n else hs_R m2 4 i := by
        intro i
        subst hm4
        rw [pb_R_wR, if_neg (by omega), pb_R_wR, c4 4 (by decide) (by decide)]
        by_cases z : i = 3 * t + s + 15
        · rw [if_pos ⟨rfl, z⟩, if_pos z]
        · rw [if_neg (fun w => z w.2), if_neg z]
      have q5 : ∀ i, hs_R m4 5 i = if i = 3 * t + s then nI 1 else hs_R m2 5 i := by
        intro i
        subst hm4
        rw [pb_R_wR]
        by_cases z : i = 3 * t + s
        · rw [if_pos ⟨rfl, z⟩, if_pos z]
        · rw [if_neg (fun w => z w.2), if_neg z, pb_R_wR, if_neg (by omega), c4 5 (by decide) (by decide)]
      have q23 : hs_R m4 2 = hs_R (cpM m2 (3 * t + s + 15) n) 2 ∧ hs_R m4 3 = hs_R (cpM m2 (3 * t + s + 15) n) 3 := by subst hm4; exact ⟨rfl, rfl⟩
      have ok2 : ∀ q k, q < 30 → q ≠ 3 * t + s + 15 → k < 24 → hs_R m4 2 (24 * q + k) = hs_R m2 2 (24 * q + k) ∧ hs_R m4 3 (24 * q + k) = hs_R m2 3 (24 * q + k) := fun q k hq1 hq2 hk => by
        rw [q23.1, q23.2]
        exact c5 _ (by omega) r2
      refine ⟨_, _, _, rfl, rfl, T, Rd, nh, st, sv, hn, hb, hp, hr, ?_⟩
      obtain ⟨-, -, -, -, bn, bs, bt2, bl, bv, bp, bc, bk, ba, bh, bg, bo⟩ := base
      obtain ⟨u5, u100, u1, u2, u3, u4, u6, u7, u8, u9, u10, u11, u12, u13⟩ := bn
      have xF : ∀ k q, q < 17 → q ≠ 5 → hs_F x3 k q = hs_F x2 k q := fun k q h1 h2 => (a3 q (by omega) h2 k).1
      have xR : ∀ q, q < 17 → hs_R x3 q = hs_R x2 q := fun q h1 => (a2 q (by omega)).2.2
      have svF : ∀ q, q < 3 * T → ∀ k, hs_F x3 k (sv q) = hs_F x2 k (sv q) := fun q hq k => (a3 _ (by have := (bv.1 q hq).1; have := (bv.1 q hq).2.1; omega) (by have := (bv.1 q hq).1; omega) k).1
      have svG : ∀ q, q < 3 * T → ∀ k, hs_G x3 k (sv q) = hs_G x2 k (sv q) := fun q hq k => (a3 _ (by have := (bv.1 q hq).1; have := (bv.1 q hq).2.1; omega) (by have := (bv.1 q hq).1; omega) k).2
      have svR : ∀ q, q < 3 * T → ∀ j, j ≤ 7 → hs_R x3 (sv q + j) = hs_R x2 (sv q + j) := fun q hq j hj => (a2 _ (by have := (bv.1 q hq).2.1; omega)).2.2
      refine ⟨mS_of q1 q2 hM2, hC3, by show hs_N x3 ≤ _; omega, by omega, ⟨u5, u100, by rw [qF]; exact u1, by rw [qF]; exact u2, (xF 8 0 (by decide) (by decide)).trans u3, (xF 2 2 (by decide) (by decide)).trans u4, by rw [qF]; exact (xF 9 0 (by decide) (by decide)).trans u6, by rw [qF]; exact (xF 5 9 (by decide) (by decide)).trans u7, (xF 2 3 (by decide) (by decide)).trans u8, by rw [qF]; exact u9, u10, u11, u12, by rw [qF]; exact u13⟩, ⟨fun w hw => ?_, bs.2⟩, ?_, ?_, ⟨hB3, hls (Or.inl rfl) bv.2⟩, fun q hq => ?_, fun q hq => ?_, fun z q hq i hi => ?_, fun z => ?_, fun q hq b2 hb2 r hr2 => ?_, ⟨hls (Or.inr rfl) bg.1, fun e g2' g3' => ?_, fun j hj => ?_, fun φ => ?_⟩, fun i hi => ?_, fun z => ?_⟩
      · rw [qR 13 (by decide) (by decide) (by decide) (by decide)]
        exact ⟨(congrFun (xR 1 (by decide)) w).trans (bs.1 w hw).1, (bs.1 w hw).2⟩
      · exact ⟨0, by decide, (xF 1 4 (by decide) (by decide)).trans x14, by rw [qF]; exact m70, fun i hi => absurd hi (by omega)⟩
      · obtain ⟨lt, l0, l1, l2, l3⟩ := bl
        refine ⟨lt, l0, (xF 3 12 (by decide) (by decide)).trans l1, by rw [qF]; exact l2, fun i hi => ?_⟩
        show (∃ p, p < 3 * T ∧ hs_R x3 13 i = nI p ∧ _) ∧ hs_R x3 14 i = _ ∧ hs_R x3 15 i = _
        rw [xR 13 (by decide), xR 14 (by decide), xR 15 (by decide), qR 15 (by decide) (by decide) (by decide) (by decide), qR 16 (by decide) (by decide) (by decide) (by decide), qR 17 (by decide) (by decide) (by decide) (by decide)]
        exact l3 i hi
      · obtain ⟨w1, w2⟩ := bp q hq
        refine ⟨?_, ?_⟩
        · show (hs_G x3 9 (sv q) = none ∧ _) ∨ ∃ g, hs_G x3 9 (sv q) = some g ∧ _
          rw [svG q hq, q4, if_neg (by omega)]
          refine w1.imp id ?_
          rintro ⟨g, e, len, sg', nm', w⟩
          refine ⟨g, e, len, sg', nm', ?_⟩
          have w' : pQ x3 m4 g q len sg' nm' := ex_pQ X5 (by decide) (by rw [q4, if_neg (by omega)]) (fun k hk => (ok2 q k (by omega) (by omega) hk).1) (fun k hk => (ok2 q k (by omega) (by omega) hk).2) w
          exact w'
        · by_cases e : q = 3 * t + s
          · subst e
            refine Or.inr ⟨hs_N x2, by rw [pb_G_wG, if_pos ⟨rfl, rfl⟩], by rw [q5, if_pos rfl], n, sg, nm, by omega, ?_, p4, p5, p6, p7, p8, r1, r2, p9, by rw [q4, if_pos rfl], p10, p11, fun k hk => ?_⟩
            · show _ ≤ hs_N x3; omega
            · obtain ⟨o1, o2, o3, o4, o5⟩ := r5 k hk
              refine ⟨o1, (p12 k hk).1.trans ((x7 k).trans o2), ?_, (p12 k hk).2.trans ((x8 k).trans o4), ?_⟩
              · rw [q23.1, (c6 k hk).1, m6]; exact o3
              · rw [q23.2, (c6 k hk).2, m7]; exact o5
          · have hne : sv q ≠ sv (3 * t + s) := fun z => e (sv_row (bv.1 q hq) (bv.1 _ hlt) (by omega) (by omega) (i := 0) (j := 0) (by decide) (by decide) (by omega)).2.2
            rw [pb_G_wG, if_neg (fun z => hne z.2), svG q hq, q5, if_neg e]
            refine w2.imp id ?_
            rintro ⟨g, e1', e2', len, sg', nm', w⟩
            refine ⟨g, e1', e2', len, sg', nm', ?_⟩
            have w' : pQ x3 m4 g (q + 15) len sg' nm' := ex_pQ X5 (by decide) (by rw [q4, if_neg (by omega)]) (fun k hk => (ok2 (q + 15) k (by omega) (by omega) hk).1) (fun k hk => (ok2 (q + 15) k (by omega) (by omega) hk).2) w
            exact w'
      · show (∀ c, c < 8 → ∃ v, v < 10000 ∧ hs_R x3 (sv q + 1) c = nI v ∧ _) ∧ hs_F x3 11 (sv q) = _ ∧ hs_F x3 12 (sv q) = _ ∧ hs_R x3 (sv q + 2) Rd = _ ∧ hs_R x3 (sv q + 2) 0 = _ ∧ ∀ r, r < Rd → ∃ u, u < 2 ∧ _ ∧ hs_R x3 (sv q + 2) (r + 1) = hs_R x3 (sv q + 2) r + nI u
        rw [svR q hq 1 (by decide), svR q hq 2 (by decide), svF q hq, svF q hq, qR 8 (by decide) (by decide) (by decide) (by decide), qR 10 (by decide) (by decide) (by decide) (by decide), qR 11 (by decide) (by decide) (by decide) (by decide), qR 12 (by decide) (by decide) (by decide) (by decide), qR 21 (by decide) (by decide) (by decide) (by decide)]
        exact bc q hq
      · show hs_R x3 (sv q + 4) i = _ ∧ hs_R x3 (sv q + 5) i = _ ∧ hs_R x3 (sv q + 6) i = _ ∧ hs_R x3 (sv q + 7) i = _
        rw [svR q hq 4 (by decide), svR q hq 5 (by decide), svR q hq 6 (by decide), svR q hq 7 (by decide), qR 22 (by decide) (by decide) (by decide) (by decide), qR 23 (by decide) (by decide) (by decide) (by decide), qR 24 (by decide) (by decide) (by decide) (by decide), qR 25 (by decide) (by decide) (by decide) (by decide)]
        exact bk z q hq i hi
      · obtain ⟨ah, z1, z2, z3⟩ := ba z
        refine ⟨ah, z1, by rw [qF]; exact z2, fun q hq => ?_⟩
        obtain ⟨cn, y1, y2⟩ := z3 q hq
        refine ⟨cn, fun k hk => ?_, (svF q hq 13).trans y2⟩
        unfold lkM
        rw [qR 18 (by decide) (by decide) (by decide) (by decide), qR 19 (by decide) (by decide) (by decide) (by decide), qR 20 (by decide) (by decide) (by decide) (by decide), qR 22 (by decide) (by decide) (by decide) (by decide), qR 23 (by decide) (by decide) (by decide) (by decide)]
        exact y1 k hk
      · show ∃ v, v ≤ Rd ∧ hs_R x3 (sv q + 3) _ = _ ∧ _
        rw [svR q hq 3 (by decide), qR 27 (by decide) (by decide) (by decide) (by decide)]
        exact bh q hq b2 hb2 r hr2
      · have g2'' : hs_G x3 1 2 = some e := g2'
        have g3'' : hs_G x3 1 3 = some e := g3'
        rw [(a3 2 (by omega) (by decide) 1).2] at g2''
        rw [(a3 3 (by omega) (by decide) 1).2] at g3''
        exact bg.2.1 e g2'' g3''
      · obtain ⟨z1, z2, z3, z4, z5, z6, z7⟩ := bg.2.2.1 j hj
        exact ⟨(a2 _ z3).1.trans z1, z2, by show _ < hs_N x3; omega, (a3 _ z3 (by omega) 0).1.trans z4, (a3 _ z3 (by omega) 1).2.trans z5, (a3 _ z3 (by omega) 2).1.trans z6, z7⟩
      · rw [smH_of (qR 27 (by decide) (by decide) (by decide) (by decide))]
        exact bg.2.2.2 φ
      · rw [qR 26 (by decide) (by decide) (by decide) (by decide)]
        exact bo.1 i hi
      · obtain ⟨z1, z2, z3⟩ := bo.2 z
        refine ⟨fun i h1 h2 => ?_, fun i h1 h2 => ?_, fun p h1 h2 r hr2 b2 hb2 => ?_⟩
        · rw [q4, if_neg (by omega), q5, if_neg (by omega), qR 10 (by decide) (by decide) (by decide) (by decide), qR 11 (by decide) (by decide) (by decide) (by decide), qR 12 (by decide) (by decide) (by decide) (by decide)]
          exact z1 i h1 h2
        · rw [qR 8 (by decide) (by decide) (by decide) (by decide)]
          exact z2 i h1 h2
        · rw [qR 27 (by decide) (by decide) (by decide) (by decide)]
          exact z3 p h1 h2 r hr2 b2 hb2
  · exact Op_same h0 ⟨-1, by rw [c_ck0 hC, pb_bind, c_find_n hC n4 h5 hno, pb_b2, pb_le (Nat.le_refl _), pb_bind, pb_mn], by rw [m_ck hM, pb_bind, m_isPlace_n hM n1 h5 hno, pb_b2, if_pos rfl]⟩
end Patch
