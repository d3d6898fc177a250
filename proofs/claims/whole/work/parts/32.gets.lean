/-! Pure part 3: the calls that only tell -/
section Gets
variable {c T Rd nh fu : Nat} {st sv hn hb hp hr : Nat → Nat} {x m : hs_T}
theorem i_lt {a : Int32} {n : Nat} (hn : n < 2 ^ 31) : (a < 0 ∨ nI n ≤ a) ∨ ∃ j, j < n ∧ a = nI j := by
  rcases pk_ix a hn with h | h | h
  · exact Or.inl (Or.inl h)
  · exact Or.inl (Or.inr h)
  · exact Or.inr h
theorem o_nz : ¬ (1 : Int32) = 0 := by decide
theorem op_count (h : Rl c T Rd nh st sv hn hb hp hr x m) (a : Int32) : ∃ r, fX7_count fu x 0 a = some (r, x) ∧ fX8_count fu m 0 a = some (r, m) := by
  obtain ⟨hM, hC, -, -, ⟨h5, -, n1, n2, n3, n4, n5, n6, n7, n8, -⟩, -, ⟨tp, -, t1, t2, -⟩, -⟩ := h
  unfold fX7_count fX8_count
  by_cases h0 : a = 0
  · exact ⟨nI T, by rw [if_pos h0, c_ck0 hC, pb_bind, c_teams hC n4 h5, pb_b2], by rw [if_pos h0, m_gI hM, pb_bind, n1]⟩
  rw [if_neg h0, if_neg h0]
  by_cases h1 : a = 1
  · exact ⟨nI Rd, by rw [if_pos h1, c_gI0 hC, pb_bind, n3], by rw [if_pos h1, m_gI hM, pb_bind, n2]⟩
  rw [if_neg h1, if_neg h1]
  by_cases h2 : a = 2
  · exact ⟨nI nh, by rw [if_pos h2, c_g2_0 hC, pb_bind, c_ck3 hC, pb_bind]; unfold fJx4a65c_size_8abf5; rw [c_gI3 hC, pb_bind, pb_b2, n7], by rw [if_pos h2, m_gI hM, pb_bind, n8]⟩
  rw [if_neg h2, if_neg h2]
  by_cases h3 : a = 3
  · exact ⟨_, by rw [if_pos h3, c_gI0 hC, pb_bind], by rw [if_pos h3, m_gI hM, pb_bind, n5]⟩
  rw [if_neg h3, if_neg h3]
  by_cases h4 : a = 4
  · exact ⟨nI tp, by rw [if_pos h4, c_g3_0 hC, pb_bind, c_gI4 hC, pb_bind, t1], by rw [if_pos h4, m_gI hM, pb_bind, t2]⟩
  rw [if_neg h4, if_neg h4]
  by_cases h6 : a = 5
  · exact ⟨_, by rw [if_pos h6, c_g5_0 hC, pb_bind, c_gI9 hC, pb_bind], by rw [if_pos h6, m_gI hM, pb_bind, n6]⟩
  rw [if_neg h6, if_neg h6]
  exact ⟨_, rfl, rfl⟩

theorem op_cell (h : Rl c T Rd nh st sv hn hb hp hr x m) (a b d : Int32) : ∃ r, fX7_cell fu x 0 a b d = some (r, x) ∧ fX8_cell fu m 0 a b d = some (r, m) := by
  obtain ⟨hM, hC, -, -, ⟨h5, -, n1, n2, n3, n4, -⟩, -, -, -, hV, -, hc, -⟩ := h
  unfold fX7_cell fX8_cell
  rcases pl_cases T h5 a b with ⟨t, s, ht, hs, rfl, rfl⟩ | hno
  · have hB := hV.1 (3 * t + s) (by omega)
    rw [c_ck0 hC, pb_bind, c_find_y hC n4 h5 hV ht hs, pb_b2, pb_ms, m_ck hM, pb_bind, m_isPlace_y hM n1 h5 ht hs, pb_b2, if_neg (show ¬ (1 : Int32) = 0 by decide)]
    rcases i_lt (a := d) (n := 8) (by decide) with hd | ⟨k, hk, rfl⟩
    · refine ⟨-1, ?_, ?_⟩
      · rcases hd with hd | hd
        · rw [if_pos hd]
        · by_cases h0 : d < 0
          · rw [if_pos h0]
          · rw [if_neg h0, if_neg (show ¬ d < 8 from n_nlt hd)]
      · rw [m_rng_n (n := 8) (l := 0) (h := 7) rfl rfl (by decide) (by decide) hd, pb_b2, if_pos rfl]
    · obtain ⟨v, -, e1, e2⟩ := (hc (3 * t + s) (by omega)).1 k hk
      refine ⟨nI v, ?_, ?_⟩
      · rw [if_neg (nI_pos (by omega)), if_pos (show nI k < 8 from nI_lt (b := 8) hk (by decide)), s_g2 hB, pb_bind, s_ld1 hB hk, pb_bind, e1]
      · rw [m_rng_y (n := 8) (l := 0) (h := 7) rfl rfl hk (by decide), pb_b2, if_neg (by decide), m_g12 hM, pb_bind, il 8, il 3, pk_mul, nI_add, pk_mul, nI_add, m_ld8 hM (by omega), pb_bind, e2]
  · exact ⟨-1, by rw [c_ck0 hC, pb_bind, c_find_n hC n4 h5 hno, pb_b2, pb_mn], by rw [m_ck hM, pb_bind, m_isPlace_n hM n1 h5 hno, pb_b2, if_pos rfl]⟩
theorem op_about (h : Rl c T Rd nh st sv hn hb hp hr x m) (a b d : Int32) : ∃ r, fX7_about fu x 0 a b d = some (r, x) ∧ fX8_about fu m 0 a b d = some (r, m) := by
  obtain ⟨hM, hC, -, -, ⟨h5, h100, n1, n2, n3, n4, -⟩, -, -, -, hV, hP, hc, -⟩ := h
  unfold fX7_about fX8_about
  rcases pl_cases T h5 a b with ⟨t, s, ht, hs, rfl, rfl⟩ | hno
  · have hlt : 3 * t + s < 3 * T := by omega
    have hB := hV.1 (3 * t + s) hlt
    obtain ⟨hp1, hp2⟩ := hP _ hlt
    obtain ⟨-, c1, c2, c3, -⟩ := hc _ hlt
    rw [c_ck0 hC, pb_bind, c_find_y hC n4 h5 hV ht hs, pb_b2, pb_ms, m_ck hM, pb_bind, m_isPlace_y hM n1 h5 ht hs, pb_b2, if_neg (show ¬ (1 : Int32) = 0 by decide)]
    have ep : nI 3 * nI t + nI s = nI (3 * t + s) := by rw [pk_mul, nI_add]
    by_cases h0 : d = 0
    · rw [if_pos h0, if_pos h0]
      rcases hp1 with ⟨g1, g2⟩ | ⟨g, g1, k, sg, nm, q1, q2, q3, q4, q5, q6, q7, k1, k2, k3, k4, -⟩
      · exact ⟨0, by rw [s_gR hB, pb_bind, g1, pb_mn], by rw [m_g5 hM, pb_bind, il 3, ep, m_ld4 hM (by omega), pb_bind, g2]; rfl⟩
      · exact ⟨nI k, by rw [s_gR hB, pb_bind, g1, pb_ms, pb_bind, pb_ms, pb_gI q3 (by omega), pb_bind, k3], by rw [m_g5 hM, pb_bind, il 3, ep, m_ld4 hM (by omega), pb_bind, k4]⟩
    rw [if_neg h0, if_neg h0]
    by_cases h1 : d = 1
    · rw [if_pos h1, if_pos h1]
      rcases hp2 with ⟨g1, g2⟩ | ⟨g, g1, g2, -⟩
      · exact ⟨0, by rw [s_gR hB, pb_bind, g1, pb_mn], by rw [m_g6 hM, pb_bind, il 3, ep, m_ld5 hM (by omega), pb_bind, g2, if_pos (show nI 0 = 0 from rfl)]⟩
      · exact ⟨1, by rw [s_gR hB, pb_bind, g1, pb_ms], by rw [m_g6 hM, pb_bind, il 3, ep, m_ld5 hM (by omega), pb_bind, g2, if_neg (show ¬ nI 1 = 0 by decide)]⟩
    rw [if_neg h1, if_neg h1]
    by_cases h2 : d = 2
    · rw [if_pos h2, if_pos h2]
      exact ⟨hs_R m 12 (3 * t + s), by rw [s_g3 hB, pb_bind, c_gI0 hC, pb_bind, n3, s_ld2 hB (by omega), pb_bind, c3], by rw [m_g16 hM, pb_bind, il 3, ep, m_ld12 hM (by omega), pb_bind]⟩
    rw [if_neg h2, if_neg h2]
    by_cases h3 : d = 3
    · rw [if_pos h3, if_pos h3]
      exact ⟨hs_R m 10 (3 * t + s), by rw [s_gI hB, pb_bind, c1], by rw [m_g14 hM, pb_bind, il 3, ep, m_ld10 hM (by omega), pb_bind]⟩
    rw [if_neg h3, if_neg h3]
    by_cases h4 : d = 4
    · rw [if_pos h4, if_pos h4]
      exact ⟨hs_R m 11 (3 * t + s), by rw [s_gI hB, pb_bind, c2], by rw [m_g15 hM, pb_bind, il 3, ep, m_ld11 hM (by omega), pb_bind]⟩
    rw [if_neg h4, if_neg h4]
    exact ⟨_, rfl, rfl⟩
  · exact ⟨-1, by rw [c_ck0 hC, pb_bind, c_find_n hC n4 h5 hno, pb_b2, pb_mn], by rw [m_ck hM, pb_bind, m_isPlace_n hM n1 h5 hno, pb_b2, if_pos rfl]⟩
/-- a round that was -/
theorem c_was_y (hC : cS x) (h3 : hs_F x 8 0 = nI Rd) (h100 : Rd ≤ 100) {j : Nat} (hj : j < Rd) : fX7_wasRound fu x 0 (nI j) = some (1, x) := by
  unfold fX7_wasRound
  rw [if_neg (nI_pos (by omega)), c_gI0 hC, pb_bind, h3]
  first | rw [if_pos (nI_lt hj (by omega))] | rw [if_neg (nI_ge hj (by omega))]
theorem c_was_n (hC : cS x) (h3 : hs_F x 8 0 = nI Rd) {a : Int32} (ha : a < 0 ∨ nI Rd ≤ a) : fX7_wasRound fu x 0 a = some (0, x) := by
  unfold fX7_wasRound
  by_cases h0 : a < 0
  · rw [if_pos h0]
  · rw [if_neg h0, c_gI0 hC, pb_bind, h3]
    first | rw [if_neg (n_nlt (ha.resolve_left h0))] | rw [if_pos (ha.resolve_left h0)]
/-- as the reference asks for a round that was -/
theorem m_was_y (h100 : Rd ≤ 100) {j : Nat} (hj : j < Rd) : fX8_isIn fu m (nI j).toInt64 0 (nI Rd - 1).toInt64 = some (1, m) := by
  obtain ⟨d, rfl⟩ : ∃ d, Rd = d + 1 := ⟨Rd - 1, by omega⟩
  rw [nI_pred]
  exact m_rng_y (n := d + 1) rfl rfl hj (by omega)
theorem m_was_n (h100 : Rd ≤ 100) {a : Int32} (ha : a < 0 ∨ nI Rd ≤ a) : fX8_isIn fu m a.toInt64 0 (nI Rd - 1).toInt64 = some (0, m) := by
  cases Rd with
  | zero =>
    refine m_isIn_n (b := nI 0 - 1) rfl rfl ?_
    rw [fa_lt, fa_lt, show (nI 0 - 1).toInt = -1 by decide, show (0 : Int32).toInt = 0 by decide]
    omega
  | succ d =>
    rw [nI_pred]
    exact m_rng_n (n := d + 1) rfl rfl (by omega) (by omega) ha
theorem op_up (h : Rl c T Rd nh st sv hn hb hp hr x m) (a b d : Int32) : ∃ r, fX7_up fu x 0 a b d = some (r, x) ∧ fX8_up fu m 0 a b d = some (r, m) := by
  obtain ⟨hM, hC, -, -, ⟨h5, h100, n1, n2, n3, n4, -⟩, -, -, -, hV, hP, hc, -⟩ := h
  unfold fX7_up fX8_up
  rcases pl_cases T h5 a b with ⟨t, s, ht, hs, rfl, rfl⟩ | hno
  · have hlt : 3 * t + s < 3 * T := by omega
    have hB := hV.1 (3 * t + s) hlt
    rw [c_ck0 hC, pb_bind, c_find_y hC n4 h5 hV ht hs, pb_b2, pb_ms, c_ck0 hC, pb_bind, m_ck hM, pb_bind, m_isPlace_y hM n1 h5 ht hs, pb_b2, if_neg (show ¬ (1 : Int32) = 0 by decide), m_gI hM, pb_bind, n2]
    rcases i_lt (a := d) (n := Rd) (by omega) with hd | ⟨k, hk, rfl⟩
    · exact ⟨-1, by rw [c_was_n hC n3 hd, pb_b2, if_pos rfl], by rw [m_was_n h100 hd, pb_b2, if_pos rfl]⟩
    · obtain ⟨-, -, -, -, -, hu⟩ := hc _ hlt
      obtain ⟨u, u2, u3, u4⟩ := hu k hk
      rw [c_was_y hC n3 h100 hk, pb_b2, if_neg (by decide), m_was_y h100 hk, pb_b2, if_neg (by decide), s_g3 hB, pb_bind, nI_1, s_ld2 hB (by omega), pb_bind, pb_bind, s_ld2 hB (by omega), pb_bind, u4, m_g31 hM, pb_bind, il 15, il 3, pk_mul, pk_mul, nI_add, nI_add, show 15 * k + 3 * t + s = 15 * k + (3 * t + s) by omega, m_ld21 hM (by omega), pb_bind, u3]
      have e : hs_R x (sv (3 * t + s) + 2) k + nI u - hs_R x (sv (3 * t + s) + 2) k = nI u := by
        rw [Int32.add_comm, Int32.add_sub_cancel]
      rw [e]
      rcases (show u = 0 ∨ u = 1 by omega) with rfl | rfl
      · exact ⟨0, rfl, by rw [if_pos (show nI 0 = 0 from rfl)]⟩
      · exact ⟨1, rfl, by rw [if_neg (show ¬ nI 1 = 0 by decide)]⟩
  · exact ⟨-1, by rw [c_ck0 hC, pb_bind, c_find_n hC n4 h5 hno, pb_b2, pb_mn], by rw [m_ck hM, pb_bind, m_isPlace_n hM n1 h5 hno, pb_b2, if_pos rfl]⟩
theorem op_check (h : Rl c T Rd nh st sv hn hb hp hr x m) (a b d e : Int32) : ∃ r, fX7_check fu x 0 a b d e = some (r, x) ∧ fX8_check fu m 0 a b d e = some (r, m) := by
  obtain ⟨hM, hC, -, -, ⟨h5, h100, n1, n2, n3, n4, -⟩, -, -, -, hV, hP, hc, hk, -⟩ := h
  unfold fX7_check fX8_check
  rcases pl_cases T h5 a b with ⟨t, s, ht, hs, rfl, rfl⟩ | hno
  · have hlt : 3 * t + s < 3 * T := by omega
    have hB := hV.1 (3 * t + s) hlt
    rw [c_ck0 hC, pb_bind, c_find_y hC n4 h5 hV ht hs, pb_b2, pb_ms, c_gI0 hC, pb_bind, n3, m_ck hM, pb_bind, m_isPlace_y hM n1 h5 ht hs, pb_b2, if_neg (show ¬ (1 : Int32) = 0 by decide)]
    by_cases hr0 : Rd = 0
    · subst hr0
      rw [if_pos (show nI 0 = 0 from rfl)]
      rcases i_lt (a := d) (n := 3) (by decide) with hd | ⟨k, hk, rfl⟩
      · exact ⟨-1, rfl, by rw [m_rng_n (n := 3) (l := 0) (h := 2) rfl rfl (by decide) (by decide) hd, pb_b2, if_pos rfl]⟩
      · exact ⟨-1, rfl, by rw [m_rng_y (n := 3) (l := 0) (h := 2) rfl rfl hk (by decide), pb_b2, if_neg (by decide), m_gI hM, pb_bind, n2, if_pos (show nI 0 = 0 from rfl)]⟩
    · rw [if_neg (n_z (by omega) (by omega))]
      rcases i_lt (a := d) (n := 3) (by decide) with hd | ⟨k, hk3, rfl⟩
      · refine ⟨-1, ?_, by rw [m_rng_n (n := 3) (l := 0) (h := 2) rfl rfl (by decide) (by decide) hd, pb_b2, if_pos rfl]⟩
        by_cases h0 : d < 0
        · rw [if_pos h0]
        · rw [if_neg h0, if_neg (show ¬ d < 3 from n_nlt (hd.resolve_left h0))]
      · obtain ⟨k1, k2, k3, k4⟩ := hk (by omega) _ hlt k hk3
        rw [if_neg (nI_pos (by omega)), if_pos (show nI k < 3 from nI_lt (b := 3) hk3 (by decide)), m_rng_y (n := 3) (l := 0) (h := 2) rfl rfl hk3 (by decide), pb_b2, if_neg o_nz, m_gI hM, pb_bind, n2, if_neg (show ¬ nI Rd = 0 from n_z (by omega) (by omega))]
        have ep : (3 : Int32) * (3 * nI t + nI s) + nI k = nI (3 * (3 * t + s) + k) := by rw [il 3, pk_mul, nI_add, pk_mul, nI_add]
        by_cases e0 : e = 0
        · rw [if_pos e0, if_pos e0, s_g5 hB, pb_bind, s_ld4 hB hk3, pb_bind, k1, m_g32 hM, pb_bind, ep, m_ld22 hM (by omega), pb_bind]
          exact ⟨_, rfl, rfl⟩
        rw [if_neg e0, if_neg e0]
        by_cases e1 : e = 1
        · rw [if_pos e1, if_pos e1, s_g6 hB, pb_bind, s_ld5 hB hk3, pb_bind, k2, m_g33 hM, pb_bind, ep, m_ld23 hM (by omega), pb_bind]
          exact ⟨_, rfl, rfl⟩
        rw [if_neg e1, if_neg e1]
        by_cases e2 : e = 2
        · rw [if_pos e2, if_pos e2, s_g7 hB, pb_bind, s_ld6 hB hk3, pb_bind, k3, m_g34 hM, pb_bind, ep, m_ld24 hM (by omega), pb_bind]
          exact ⟨_, rfl, rfl⟩
        rw [if_neg e2, if_neg e2]
        by_cases e3 : e = 3
        · rw [if_pos e3, if_pos e3, s_g8 hB, pb_bind, s_ld7 hB hk3, pb_bind, k4, m_g35 hM, pb_bind, ep, m_ld25 hM (by omega), pb_bind]
          exact ⟨_, rfl, rfl⟩
        rw [if_neg e3, if_neg e3]
        exact ⟨_, rfl, rfl⟩
  · exact ⟨-1, by rw [c_ck0 hC, pb_bind, c_find_n hC n4 h5 hno, pb_b2, pb_mn], by rw [m_ck hM, pb_bind, m_isPlace_n hM n1 h5 hno, pb_b2, if_pos rfl]⟩
/-- MIX and FLAG as numbers -/
def mxN (sd r p : Nat) : Nat := (sd * 31 + r * 17 + p / 3 * 7 + p % 3 * 3) % 997
def fgN (sd r p : Nat) : Nat := (mxN sd r p * 13 + 1000) % 10000
theorem mxN_lt (sd r p : Nat) : mxN sd r p < 997 := Nat.mod_lt _ (by decide)
theorem fgN_lt (sd r p : Nat) : fgN sd r p < 10000 := Nat.mod_lt _ (by decide)
theorem n_rem {a d : Nat} (ha : a < 2 ^ 31) (h0 : 0 < d) (hd : d < 2 ^ 31) : nI a - nI a / nI d * nI d = nI (a % d) := pk_rem ha h0 hd
theorem c_mix (hC : cS x) (hst : rS st x m) {n p r : Nat} (hB : sB x n p) (hr : r < 101) (hp : p < 15) : fX7_mix fu x 0 (nI r) n = some (nI (mxN (st 1) r p), x) := by
  unfold fX7_mix
  obtain ⟨s1, s2⟩ := hst.1 1 (by decide)
  have hs := hst.2.2.2.1
  obtain ⟨-, -, -, -, -, -, f0, f1⟩ := id hB
  rw [c_g0_0 hC, pb_bind, show (1 : Int32) = nI 1 from rfl, c_ld1 hC (by decide), pb_bind, s1, s_gI hB, pb_bind, s_gI hB, pb_bind, f0, f1]
  simp only [il, pk_mul, nI_add]
  rw [n_rem (by omega) (by decide) (by decide)]
  rfl
theorem c_flagOf {a : Nat} (ha : a < 997) : fX7_flagOf fu x (nI a) = some (nI ((a * 13 + 1000) % 10000), x) := by
  unfold fX7_flagOf
  simp only [il, pk_mul, nI_add]
  rw [n_rem (by omega) (by decide) (by decide)]
theorem m_mix (hM : mS m) (hst : rS st x m) {p r : Nat} (hr : r < 101) (hp : p < 15) : fX8_mix fu m 0 (nI r) (nI p) = some (nI (mxN (st 1) r p), m) := by
  unfold fX8_mix
  obtain ⟨s1, s2⟩ := hst.1 1 (by decide)
  have hs := hst.2.2.2.1
  rw [m_g17 hM, pb_bind, show (1 : Int32) = nI 1 from rfl, m_ld13 hM (by decide), pb_bind, s2, show (3 : Int32) = nI 3 from rfl, n_rem (by omega) (by decide) (by decide), pb_div (by omega) (by decide) (by decide)]
  simp only [il, pk_mul, nI_add]
  rw [n_rem (by omega) (by decide) (by decide)]
  rfl
theorem m_flagOf (hM : mS m) (hst : rS st x m) {p r : Nat} (hr : r < 101) (hp : p < 15) : fX8_flagOf fu m 0 (nI r) (nI p) = some (nI (fgN (st 1) r p), m) := by
  unfold fX8_flagOf
  have hl := mxN_lt (st 1) r p
  rw [m_ck hM, pb_bind, m_mix hM hst hr hp, pb_b2]
  simp only [il, pk_mul, nI_add]
  rw [n_rem (by omega) (by decide) (by decide)]
  rfl
theorem op_flag (h : Rl c T Rd nh st sv hn hb hp hr x m) (a b d : Int32) : ∃ r, fX7_flag fu x 0 a b d = some (r, x) ∧ fX8_flag fu m 0 a b d = some (r, m) := by
  obtain ⟨hM, hC, -, -, ⟨h5, h100, n1, n2, n3, n4, -⟩, hst, -, -, hV, -⟩ := h
  unfold fX7_flag fX8_flag
  rcases pl_cases T h5 a b with ⟨t, s, ht, hs, rfl, rfl⟩ | hno
  · have hlt : 3 * t + s < 3 * T := by omega
    have hB := hV.1 (3 * t + s) hlt
    rw [c_ck0 hC, pb_bind, c_find_y hC n4 h5 hV ht hs, pb_b2, pb_ms, c_ck0 hC, pb_bind, m_ck hM, pb_bind, m_isPlace_y hM n1 h5 ht hs, pb_b2, if_neg (show ¬ (1 : Int32) = 0 by decide), m_gI hM, pb_bind, n2]
    rcases i_lt (a := d) (n := Rd) (by omega) with hd | ⟨k, hk, rfl⟩
    · exact ⟨-1, by rw [c_was_n hC n3 hd, pb_b2, if_pos rfl], by rw [m_was_n h100 hd, pb_b2, if_pos rfl]⟩
    · rw [c_was_y hC n3 h100 hk, pb_b2, if_neg (by decide), m_was_y h100 hk, pb_b2, if_neg (by decide), c_ck0 hC, pb_bind, c_mix hC hst hB (by omega) (by omega), pb_b2, c_flagOf (mxN_lt _ _ _), pb_b2, m_ck hM, pb_bind, il 3, pk_mul, nI_add, m_flagOf hM hst (by omega) (by omega), pb_b2]
      exact ⟨_, rfl, rfl⟩
  · exact ⟨-1, by rw [c_ck0 hC, pb_bind, c_find_n hC n4 h5 hno, pb_b2, pb_mn], by rw [m_ck hM, pb_bind, m_isPlace_n hM n1 h5 hno, pb_b2, if_pos rfl]⟩
end Gets
