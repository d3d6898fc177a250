/-! Pure part 11: feed -/
section Feed
variable {c T Rd nh fu : Nat} {st sv hn hb hp hr : Nat → Nat} {x x' m m' : hs_T}
theorem fd_255 : ∀ j, j < 64 → (255 : Int64).toBitVec.getLsbD j = decide (j < 8) := by decide +kernel
theorem fd_s1 : ∀ i, i < 8 → (((8 * nI i).toInt64 &&& 63).toBitVec.smod 64).toNat = 8 * i := by decide +kernel
theorem fd_s2 : ∀ i, i < 8 → (((8 * nI i).toInt64.toUInt64 &&& Int64.toUInt64 63).toBitVec % 64).toNat = 8 * i := by decide +kernel
def fdB (w : Int64) (i : Nat) : Nat := w.toBitVec.toNat / 2 ^ (8 * i) % 2 ^ 8
theorem fdB_lt (w : Int64) (i : Nat) : fdB w i < 256 := Nat.mod_lt _ (by decide)
theorem fd_bits (v : Int64) (w : Int64) (i : Nat) (h : ∀ j, j < 8 → v.toBitVec.getLsbD j = w.toBitVec.getLsbD (8 * i + j)) : (v &&& 255).toInt32 = nI (fdB w i) := by
  apply Int32.toBitVec_inj.1
  apply BitVec.eq_of_getLsbD_eq
  intro j hj
  rw [Int64.toBitVec_toInt32, BitVec.getLsbD_signExtend, if_pos (by omega), Int64.toBitVec_and, BitVec.getLsbD_and, fd_255 j (by omega)]
  show _ = (BitVec.ofNat 32 (fdB w i)).getLsbD j
  rw [BitVec.getLsbD_ofNat]
  unfold fdB
  rw [Nat.testBit_mod_two_pow, Nat.testBit_div_two_pow]
  by_cases q : j < 8
  · rw [h j q, Nat.add_comm]
    simp [q, hj, BitVec.getLsbD, Nat.add_comm]
  · simp [q]
theorem fd_c {w : Int64} {i : Nat} (hi : i < 8) : ((w.toUInt64 >>> ((8 * nI i).toInt64.toUInt64 &&& Int64.toUInt64 63)).toInt64 &&& 255).toInt32 = nI (fdB w i) := by
  refine fd_bits _ w i (fun j hj => ?_)
  show (w.toUInt64 >>> ((8 * nI i).toInt64.toUInt64 &&& Int64.toUInt64 63)).toBitVec.getLsbD j = w.toUInt64.toBitVec.getLsbD (8 * i + j)
  rw [UInt64.toBitVec_shiftRight]
  show (w.toUInt64.toBitVec >>> (((8 * nI i).toInt64.toUInt64 &&& Int64.toUInt64 63).toBitVec % 64).toNat).getLsbD j = _
  rw [fd_s2 i hi, BitVec.getLsbD_ushiftRight]
theorem fd_m {w : Int64} {i : Nat} (hi : i < 8) : ((w >>> ((8 * nI i).toInt64 &&& 63)) &&& 255).toInt32 = nI (fdB w i) := by
  refine fd_bits _ w i (fun j hj => ?_)
  rw [Int64.toBitVec_shiftRight]
  show (w.toBitVec.sshiftRight ((((8 * nI i).toInt64 &&& 63)).toBitVec.smod 64).toNat).getLsbD j = _
  rw [fd_s1 i hi, BitVec.getLsbD_sshiftRight, if_pos (by omega)]
  simp [show j < 64 by omega, show ¬ 64 ≤ j by omega]
/-- j bytes behind tp -/
def fdX (arr sl o tp : Nat) (bb : Nat → Nat) (x : hs_T) : Nat → hs_T
  | 0 => x
  | j + 1 => hs_wF (hs_wR (fdX arr sl o tp bb x j) arr (tp + j) (nI (bb j))) sl o (nI (tp + j + 1))
theorem fdX_is {arr sl o tp : Nat} {bb : Nat → Nat} (h : hs_F x sl o = nI tp) : ∀ j, (fdX arr sl o tp bb x j).1 = x.1 ∧ (fdX arr sl o tp bb x j).2.2.1 = x.2.2.1 ∧ (fdX arr sl o tp bb x j).2.2.2.2 = x.2.2.2.2 ∧ (∀ k q, ¬ (k = sl ∧ q = o) → hs_F (fdX arr sl o tp bb x j) k q = hs_F x k q) ∧ hs_F (fdX arr sl o tp bb x j) sl o = nI (tp + j) ∧ (∀ q, q ≠ arr → hs_R (fdX arr sl o tp bb x j) q = hs_R x q) ∧ ∀ i, hs_R (fdX arr sl o tp bb x j) arr i = if tp ≤ i ∧ i < tp + j then nI (bb (i - tp)) else hs_R x arr i := by
  intro j
  induction j with
  | zero => exact ⟨rfl, rfl, rfl, fun _ _ _ => rfl, h, fun _ _ => rfl, fun i => by rw [if_neg (by omega)]; rfl⟩
  | succ j ih =>
    obtain ⟨a1, a2, a3, a4, a5, a6, a7⟩ := ih
    refine ⟨a1, a2, a3, fun k q hk => ?_, ?_, fun q hq => ?_, fun i => ?_⟩
    · show hs_F (hs_wF _ _ _ _) k q = _
      rw [pb_F_wF, if_neg hk]
      exact a4 k q hk
    · show hs_F (hs_wF _ _ _ _) sl o = _
      rw [pb_F_wF, if_pos ⟨rfl, rfl⟩]
      rfl
    · exact (hs_up_row_ne hq).trans (a6 q hq)
    · show hs_R (hs_wR (fdX arr sl o tp bb x j) arr (tp + j) (nI (bb j))) arr i = _
      rw [pb_R_wR, a7]
      by_cases q : i = tp + j
      · subst q
        rw [if_pos ⟨rfl, rfl⟩, if_pos (by omega), Nat.add_sub_cancel_left]
      · rw [if_neg (fun z => q z.2)]
        by_cases q2 : tp ≤ i ∧ i < tp + j
        · rw [if_pos q2, if_pos (by omega)]
        · rw [if_neg q2, if_neg (by omega)]
theorem fd_cnt {n j : Nat} (hj : j < n) : nI (n - j) - 1 = nI (n - 1 - j) := by
  rw [show n - j = n - 1 - j + 1 by omega, nI_pred]
theorem fd_dec {n j : Nat} (hj : j < n) : nI (n - 1 - j) + (-1) = nI (n - (j + 1)) - 1 := by
  rw [show n - (j + 1) = n - 1 - j by omega]
  exact (Int32.sub_eq_add_neg _ _).symm
theorem fd_app2 (hC : cS x) {tp n : Nat} {w : Int64} (h : hs_F x 1 4 = nI tp) (hn8 : n ≤ 8) (ht : tp + n ≤ 120) (hfu : 600 < fu) : fX6_append fu x 4 w (nI n) = some ((), fdX 5 1 4 tp (fun j => fdB w (n - 1 - j)) x n) := by
  unfold fX6_append fX6_append_5
  refine pb_lpz (fun j => (fdX 5 1 4 tp (fun j => fdB w (n - 1 - j)) x j, 4, w, nI (n - j) - 1)) n rfl ?_ ?_ (by omega)
  · intro k j hj
    obtain ⟨a1, a2, a3, a4, a5, a6, a7⟩ := fdX_is (arr := 5) (bb := fun j => fdB w (n - 1 - j)) h j
    have hC2 := cS_of a1 a2 hC
    dsimp only
    unfold fX6_append_5b
    rw [fd_cnt hj, if_neg (nI_pos (by omega)), c_g0_4 hC2, pb_bind, c_gI4 hC2, pb_bind, a5, c_st5 hC2 (by omega), pb_bind, fd_c (by omega), c_gI4 (σ := hs_wR (fdX 5 1 4 tp (fun j => fdB w (n - 1 - j)) x j) 5 (tp + j) (nI (fdB w (n - 1 - j)))) hC2, pb_bind, show hs_F (hs_wR (fdX 5 1 4 tp (fun j => fdB w (n - 1 - j)) x j) 5 (tp + j) (nI (fdB w (n - 1 - j)))) 1 4 = nI (tp + j) from a5, nI_1, c_pI4 (σ := hs_wR (fdX 5 1 4 tp (fun j => fdB w (n - 1 - j)) x j) 5 (tp + j) (nI (fdB w (n - 1 - j)))) hC2, pb_bind, fd_dec hj]
    rfl
  · intro k
    dsimp only
    unfold fX6_append_5b
    rw [Nat.sub_self, if_pos (by decide)]
theorem fd_mod (hM : mS m) {tp n : Nat} {w : Int64} (h : hs_F m 7 0 = nI tp) (hn8 : n ≤ 8) (ht : tp + n ≤ 120) (hfu : 600 < fu) : fX8_feed_34 fu m 0 w (nI n - 1) = some (nI (tp + n), fdX 1 7 0 tp (fun j => fdB w (n - 1 - j)) m n) := by
  unfold fX8_feed_34
  refine pb_lpz (fun j => (fdX 1 7 0 tp (fun j => fdB w (n - 1 - j)) m j, 0, w, nI (n - j) - 1)) n rfl ?_ ?_ (by omega)
  · intro k j hj
    obtain ⟨a1, a2, a3, a4, a5, a6, a7⟩ := fdX_is (arr := 1) (bb := fun j => fdB w (n - 1 - j)) h j
    have hC2 := mS_of a1 a2 hM
    dsimp only
    unfold fX8_feed_34b
    rw [fd_cnt hj, if_neg (nI_pos (by omega)), m_g2 hC2, pb_bind, m_gI hC2, pb_bind, a5, m_st1 hC2 (by omega), pb_bind, fd_m (by omega), m_gI (σ := hs_wR (fdX 1 7 0 tp (fun j => fdB w (n - 1 - j)) m j) 1 (tp + j) (nI (fdB w (n - 1 - j)))) hC2, pb_bind, show hs_F (hs_wR (fdX 1 7 0 tp (fun j => fdB w (n - 1 - j)) m j) 1 (tp + j) (nI (fdB w (n - 1 - j)))) 7 0 = nI (tp + j) from a5, nI_1, m_pI (σ := hs_wR (fdX 1 7 0 tp (fun j => fdB w (n - 1 - j)) m j) 1 (tp + j) (nI (fdB w (n - 1 - j)))) hC2, pb_bind, fd_dec hj]
    rfl
  · intro k
    obtain ⟨a1, a2, a3, a4, a5, a6, a7⟩ := fdX_is (arr := 1) (bb := fun j => fdB w (n - 1 - j)) h n
    dsimp only
    unfold fX8_feed_34b
    rw [Nat.sub_self, if_pos (by decide), m_gI (mS_of a1 a2 hM), pb_bind, a5]
theorem op_feed (hfu : 600 < fu) (h : Rl c T Rd nh st sv hn hb hp hr x m) (w : Int64) (a : Int32) : Op c (fX7_feed fu x 0 w a) (fX8_feed fu m 0 w a) := by
  have h0 := h
  have hrest := Rl_rest h
  obtain ⟨hM, hC, hN, hnh, hrn, hS, ⟨tp, t0, t1, t2, t3⟩, hL, hV, hP, hc, -⟩ := h
  obtain ⟨h5, h100, n1, n2, n3, n4, n5, n6, n7, n8, n9⟩ := id hrn
  unfold fX7_feed fX8_feed
  rw [m_isIn32 (lo := 1) (hi := 8) (l := 1) (h := 8) rfl rfl, pb_b2]
  by_cases b1 : a < nI 1
  · exact Op_same h0 ⟨-2, by rw [if_pos (show a < 1 from b1)], by rw [if_pos (Or.inl b1), if_pos rfl]⟩
  rw [if_neg (show ¬ a < 1 from b1)]
  by_cases b2 : nI 8 < a
  · refine Op_same h0 ⟨-2, ?_, by rw [if_pos (Or.inr b2), if_pos rfl]⟩
    rw [if_neg]
    intro z
    have z2 : a ≤ nI 8 := z
    rw [fa_le] at z2
    rw [fa_lt] at b2
    omega
  rw [if_neg (show ¬ (a < nI 1 ∨ nI 8 < a) from fun z => z.elim b1 b2), if_neg o_nz]
  obtain ⟨n, v1, v2, rfl⟩ := in_of (by decide) b1 b2 (by decide)
  rw [if_pos (show nI n ≤ 8 from nI_le (b := 8) v2 (by decide)), c_g3_0 hC, pb_bind, c_gI4 hC, pb_bind, t1, m_gI hM, pb_bind, pb_bind, t2, nI_add]
  by_cases q : tp + n ≤ 120
  · rw [if_pos (show nI (tp + n) ≤ 120 from nI_le (b := 120) q (by decide)), if_pos (show nI (tp + n) ≤ 120 from nI_le (b := 120) q (by decide)), c_ck4 hC, pb_bind, fd_app2 hC t1 v2 q hfu, pb_b2, fd_mod hM t2 v2 q hfu]
    obtain ⟨a1, a2, a3, a4, a5, a6, a7⟩ := fdX_is (arr := 5) (bb := fun j => fdB w (n - 1 - j)) t1 n
    obtain ⟨d1, d2, d3, d4, d5, d6, d7⟩ := fdX_is (arr := 1) (bb := fun j => fdB w (n - 1 - j)) t2 n
    have hC2 := cS_of a1 a2 hC
    have hM2 := mS_of d1 d2 hM
    rw [c_g3_0 hC2, pb_bind, c_gI4 hC2, pb_bind, a5]
    refine ⟨_, _, _, rfl, rfl, T, Rd, nh, st, sv, hn, hb, hp, hr, ?_⟩
    generalize fdX 5 1 4 tp (fun j => fdB w (n - 1 - j)) x n = x' at *
    generalize fdX 1 7 0 tp (fun j => fdB w (n - 1 - j)) m n = m' at *
    refine Rl_mk hM2 hC2 (by rw [hs_N_of a1]; omega) (by omega) ⟨h5, h100, ?_, ?_, ?_, ?_, ?_, ?_, ?_, ?_, ?_⟩ ?_ ⟨tp + n, q, a5, d5, fun i hi => ?_⟩ ?_ (rC_low (x := x) (m := m) hV.1 (fun k q hq => a4 k q (by omega)) (fun q hq => a6 q (by omega)) (fun q hq => d6 q (by omega)) hc) (rest_of (x := x) (m := m) h5 a1 a2 a3 (fun k q hq _ _ => a4 k q (by omega)) (a4 2 2 (by decide)) (a4 2 3 (by decide)) (fun q hq _ => a6 q (by omega)) (d4 29 0 (by decide)) (fun q hq => d6 q (by omega)) (fun a i ha => congrFun (d6 a (by omega)) i) hrest)
    · rw [d4 0 0 (by decide)]; exact n1
    · rw [d4 1 0 (by decide)]; exact n2
    · rw [a4 8 0 (by decide)]; exact n3
    · rw [a4 2 2 (by decide)]; exact n4
    · rw [a4 9 0 (by decide), d4 30 0 (by decide)]; exact n5
    · rw [a4 5 9 (by decide), d4 21 0 (by decide)]; exact n6
    · rw [a4 2 3 (by decide)]; exact n7
    · rw [d4 38 0 (by decide)]; exact n8
    · rw [d4 21 0 (by decide)]; exact n9
    · refine ⟨fun w hw => ?_, hS.2⟩
      rw [a6 1 (by decide), d6 13 (by decide)]
      exact hS.1 w hw
    · rw [a7, d7]
      by_cases q2 : tp ≤ i ∧ i < tp + n
      · rw [if_pos q2, if_pos q2]
        exact ⟨_, fdB_lt w _, rfl, rfl⟩
      · rw [if_neg q2, if_neg q2]
        exact t3 i (by omega)
    · obtain ⟨lt, l0, l1, l2, l3⟩ := hL
      refine ⟨lt, l0, by rw [a4 3 12 (by decide)]; exact l1, by rw [d4 28 0 (by decide)]; exact l2, fun i hi => ?_⟩
      rw [a6 13 (by decide), a6 14 (by decide), a6 15 (by decide), d6 15 (by decide), d6 16 (by decide), d6 17 (by decide)]
      exact l3 i hi
  · exact Op_same h0 ⟨-4, by rw [if_neg (show ¬ nI (tp + n) ≤ 120 from nI_ge (a := 120) (by omega) (by omega))], by rw [if_neg (show ¬ nI (tp + n) ≤ 120 from nI_ge (a := 120) (by omega) (by omega))]⟩
end Feed
