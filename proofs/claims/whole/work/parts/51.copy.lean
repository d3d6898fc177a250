/-! Pure part 22: the reference keeps the letters and takes the patches -/
section RdCopy
variable {c T Rd nh fu n p i j : Nat} {st sv hn hb hp hr : Nat → Nat} {x x' m m' : hs_T}
def cpX (m : hs_T) : Nat → hs_T
  | 0 => m
  | j + 1 => hs_wR (hs_wR (hs_wR (cpX m j) 18 j (hs_R m 15 j)) 19 j (hs_R m 16 j)) 20 j (hs_R m 17 j)
theorem cpX_is : ∀ j, (cpX m j).1 = m.1 ∧ (cpX m j).2.2.1 = m.2.2.1 ∧ hs_F (cpX m j) = hs_F m ∧ (∀ a, a ≠ 18 → a ≠ 19 → a ≠ 20 → hs_R (cpX m j) a = hs_R m a) ∧ ∀ i, i < j → hs_R (cpX m j) 18 i = hs_R m 15 i ∧ hs_R (cpX m j) 19 i = hs_R m 16 i ∧ hs_R (cpX m j) 20 i = hs_R m 17 i := by
  intro j
  induction j with
  | zero => exact ⟨rfl, rfl, rfl, fun _ _ _ _ => rfl, fun i hi => absurd hi (by omega)⟩
  | succ j ih =>
    obtain ⟨a1, a2, a3, a4, a5⟩ := ih
    have e : cpX m (j + 1) = hs_wR (hs_wR (hs_wR (cpX m j) 18 j (hs_R m 15 j)) 19 j (hs_R m 16 j)) 20 j (hs_R m 17 j) := rfl
    rw [e]
    refine ⟨a1, a2, a3, fun a h1 h2 h3 => ?_, fun i hi => ?_⟩
    · rw [wR_ne h3, wR_ne h2, wR_ne h1]
      exact a4 a h1 h2 h3
    · by_cases q : i = j
      · subst q
        refine ⟨?_, ?_, ?_⟩
        · rw [wR_ne (by decide), wR_ne (by decide), pb_R_wR, if_pos ⟨rfl, rfl⟩]
        · rw [wR_ne (by decide), pb_R_wR, if_pos ⟨rfl, rfl⟩]
        · rw [pb_R_wR, if_pos ⟨rfl, rfl⟩]
      · obtain ⟨b1, b2, b3⟩ := a5 i (by omega)
        refine ⟨?_, ?_, ?_⟩
        · rw [wR_ne (by decide), wR_ne (by decide), pb_R_wR, if_neg (fun z => q z.2)]; exact b1
        · rw [wR_ne (by decide), pb_R_wR, if_neg (fun z => q z.2), wR_ne (by decide)]; exact b2
        · rw [pb_R_wR, if_neg (fun z => q z.2), wR_ne (by decide), wR_ne (by decide)]; exact b3
theorem rd_copy (hM : mS m) {lt : Nat} (hlt : lt ≤ 400) (h28 : hs_F m 28 0 = nI lt) (hfu : 600 < fu) : ∃ m1, fX8_round_24 fu m 0 0 = fX8_round_91 fu m1 0 0 0 ∧ m1.1 = m.1 ∧ m1.2.2.1 = m.2.2.1 ∧ (∀ k, k ≠ 28 → k ≠ 29 → hs_F m1 k 0 = hs_F m k 0) ∧ hs_F m1 28 0 = nI 0 ∧ hs_F m1 29 0 = nI lt ∧ (∀ a, a ≠ 18 → a ≠ 19 → a ≠ 20 → hs_R m1 a = hs_R m a) ∧ ∀ k, k < lt → hs_R m1 18 k = hs_R m 15 k ∧ hs_R m1 19 k = hs_R m 16 k ∧ hs_R m1 20 k = hs_R m 17 k := by
  obtain ⟨a1, a2, a3, a4, a5⟩ := cpX_is (m := m) lt
  refine ⟨hs_wF (hs_wF (cpX m lt) 29 0 (nI lt)) 28 0 (nI 0), ?_, a1, a2, fun k h1 h2 => ?_, ?_, ?_, a4, a5⟩
  · unfold fX8_round_24
    refine pb_lpz (fun j => (cpX m j, 0, nI j)) lt rfl ?_ ?_ (by omega)
    · intro k j hj
      obtain ⟨b1, b2, b3, b4, b5⟩ := cpX_is (m := m) j
      have hM2 := mS_of b1 b2 hM
      have s1 : mS (hs_wR (cpX m j) 18 j (hs_R m 15 j)) := hM2
      have s2 : mS (hs_wR (hs_wR (cpX m j) 18 j (hs_R m 15 j)) 19 j (hs_R m 16 j)) := hM2
      dsimp only
      unfold fX8_round_24b
      rw [m_gI hM2, pb_bind, b3, h28, if_neg (nI_ge hj (by omega)), m_g25 hM2, pb_bind, m_g22 hM2, pb_bind, m_ld15 hM2 (by omega), pb_bind, m_st18 hM2 (by omega), pb_bind, b4 15 (by decide) (by decide) (by decide), m_g26 s1, pb_bind, m_g23 s1, pb_bind, m_ld16 s1 (by omega), pb_bind, m_st19 s1 (by omega), pb_bind, wR_ne (by decide), b4 16 (by decide) (by decide) (by decide), m_g27 s2, pb_bind, m_g24 s2, pb_bind, m_ld17 s2 (by omega), pb_bind, m_st20 s2 (by omega), pb_bind, wR_ne (by decide), wR_ne (by decide), b4 17 (by decide) (by decide) (by decide), nI_1]
      rfl
    · intro k
      have hM2 := mS_of a1 a2 hM
      dsimp only
      unfold fX8_round_24b
      rw [m_gI hM2, pb_bind, a3, h28, if_pos (nI_le (Nat.le_refl _) (by omega)), pb_bind, m_pI hM2, pb_bind, m_pI (σ := hs_wF (cpX m lt) 29 0 (nI lt)) hM2, pb_bind]
      rfl
  · rw [pb_F_wF, if_neg (fun z => h1 z.1), pb_F_wF, if_neg (fun z => h2 z.1), a3]
  · rw [pb_F_wF, if_pos ⟨rfl, rfl⟩]
  · rw [pb_F_wF, if_neg (by decide), pb_F_wF, if_pos ⟨rfl, rfl⟩]
/-- k steps of a patch -/
def twX (m : hs_T) (p : Nat) : Nat → hs_T
  | 0 => m
  | k + 1 => hs_wR (hs_wR (twX m p k) 2 (24 * p + k) (hs_R m 2 (24 * (p + 15) + k))) 3 (24 * p + k) (hs_R m 3 (24 * (p + 15) + k))
theorem twX_is (hp15 : p < 15) : ∀ k, k ≤ 24 → (twX m p k).1 = m.1 ∧ (twX m p k).2.2.1 = m.2.2.1 ∧ hs_F (twX m p k) = hs_F m ∧ (∀ a, a ≠ 2 → a ≠ 3 → hs_R (twX m p k) a = hs_R m a) ∧ (∀ i, (i < 24 * p ∨ 24 * p + 24 ≤ i) → hs_R (twX m p k) 2 i = hs_R m 2 i ∧ hs_R (twX m p k) 3 i = hs_R m 3 i) ∧ ∀ i, i < k → hs_R (twX m p k) 2 (24 * p + i) = hs_R m 2 (24 * (p + 15) + i) ∧ hs_R (twX m p k) 3 (24 * p + i) = hs_R m 3 (24 * (p + 15) + i) := by
  intro k
  induction k with
  | zero => exact fun _ => ⟨rfl, rfl, rfl, fun _ _ _ => rfl, fun _ _ => ⟨rfl, rfl⟩, fun i hi => absurd hi (by omega)⟩
  | succ k ih =>
    intro hk
    obtain ⟨a1, a2, a3, a4, a5, a6⟩ := ih (by omega)
    have e : twX m p (k + 1) = hs_wR (hs_wR (twX m p k) 2 (24 * p + k) (hs_R m 2 (24 * (p + 15) + k))) 3 (24 * p + k) (hs_R m 3 (24 * (p + 15) + k)) := rfl
    rw [e]
    refine ⟨a1, a2, a3, fun a h1 h2 => ?_, fun i hi => ⟨?_, ?_⟩, fun i hi => ?_⟩
    · rw [wR_ne h2, wR_ne h1]; exact a4 a h1 h2
    · rw [wR_ne (by decide), pb_R_wR, if_neg (by omega)]; exact (a5 i hi).1
    · rw [pb_R_wR, if_neg (by omega), wR_ne (by decide)]; exact (a5 i hi).2
    · by_cases q : i = k
      · subst q
        exact ⟨by rw [wR_ne (by decide), pb_R_wR, if_pos ⟨rfl, rfl⟩], by rw [pb_R_wR, if_pos ⟨rfl, rfl⟩]⟩
      · obtain ⟨b1, b2⟩ := a6 i (by omega)
        exact ⟨by rw [wR_ne (by decide), pb_R_wR, if_neg (by omega)]; exact b1, by rw [pb_R_wR, if_neg (by omega), wR_ne (by decide)]; exact b2⟩
def tkY (y m : hs_T) (p : Nat) : hs_T := hs_wR (hs_wR y 4 p (hs_R m 4 (p + 15))) 5 p (nI 0)
def tkX (m : hs_T) (p : Nat) : hs_T := tkY (twX m p 24) m p
theorem rd_115 (hM : mS m) (hp15 : p < 15) (hfu : 600 < fu) {k91 : hs_T → Nat → Int32 → Int32 → Option (Int32 × hs_T)} : fX8_round_115 fu k91 m 0 0 (nI p) 0 = k91 (tkX m p) 0 0 (nI (p + 1)) := by
  have key : ∀ y, mS y → hs_R y 4 = hs_R m 4 → ∀ k, fX8_round_115b fu k91 k y 0 0 (nI p) (nI 24) = k91 (tkY y m p) 0 0 (nI (p + 1)) := by
    intro y hMy h4 k
    have s1 : mS (hs_wR y 4 p (hs_R m 4 (p + 15))) := hMy
    unfold fX8_round_115b
    rw [if_pos (show (24 : Int32) ≤ nI 24 by decide), m_g5 hMy, pb_bind, pb_bind, il 15, nI_add, m_ld4 hMy (by omega), pb_bind, h4, m_st4 hMy (by omega), pb_bind, m_g6 s1, pb_bind, m_st5 s1 (by omega), pb_bind, nI_1]
    rfl
  unfold fX8_round_115
  refine pb_lpz (fun k => (twX m p k, 0, 0, nI p, nI k)) 24 rfl ?_ ?_ (by omega)
  · intro k j hj
    obtain ⟨b1, b2, b3, b4, b5, b6⟩ := twX_is (m := m) hp15 j (by omega)
    have hM2 := mS_of b1 b2 hM
    have s1 : mS (hs_wR (twX m p j) 2 (24 * p + j) (hs_R m 2 (24 * (p + 15) + j))) := hM2
    dsimp only
    unfold fX8_round_115b
    rw [if_neg (show ¬ 24 ≤ nI j from nI_ge (b := 24) hj (by decide)), m_g3 hM2, pb_bind, pb_bind, il 15, il 24, nI_add, pk_mul, nI_add, m_ld2 hM2 (by omega), pb_bind, (b5 (24 * (p + 15) + j) (by omega)).1, pk_mul, nI_add, m_st2 hM2 (by omega), pb_bind, m_g4 s1, pb_bind, pb_bind, m_ld3 s1 (by omega), pb_bind, wR_ne (by decide), (b5 (24 * (p + 15) + j) (by omega)).2, m_st3 s1 (by omega), pb_bind, nI_1]
    rfl
  · intro k
    obtain ⟨b1, b2, b3, b4, b5, b6⟩ := twX_is (m := m) hp15 24 (by omega)
    have hM2 := mS_of b1 b2 hM
    dsimp only
    exact key _ hM2 (b4 4 (by decide) (by decide)) _
/-- the first j places have taken their patches -/
def ptX (m : hs_T) : Nat → hs_T
  | 0 => m
  | j + 1 => if hs_R (ptX m j) 5 j = 0 then ptX m j else tkX (ptX m j) j
theorem ptX_is : ∀ j, j ≤ 15 → (ptX m j).1 = m.1 ∧ (ptX m j).2.2.1 = m.2.2.1 ∧ hs_F (ptX m j) = hs_F m ∧ (∀ a, a ≠ 2 → a ≠ 3 → a ≠ 4 → a ≠ 5 → hs_R (ptX m j) a = hs_R m a) ∧ (∀ q, j ≤ q → hs_R (ptX m j) 4 q = hs_R m 4 q ∧ hs_R (ptX m j) 5 q = hs_R m 5 q ∧ ∀ k, k < 24 → hs_R (ptX m j) 2 (24 * q + k) = hs_R m 2 (24 * q + k) ∧ hs_R (ptX m j) 3 (24 * q + k) = hs_R m 3 (24 * q + k)) ∧ ∀ q, q < j → hs_R (ptX m j) 5 q = nI 0 ∧ (hs_R m 5 q = 0 → hs_R (ptX m j) 4 q = hs_R m 4 q ∧ ∀ k, k < 24 → hs_R (ptX m j) 2 (24 * q + k) = hs_R m 2 (24 * q + k) ∧ hs_R (ptX m j) 3 (24 * q + k) = hs_R m 3 (24 * q + k)) ∧ (¬ hs_R m 5 q = 0 → hs_R (ptX m j) 4 q = hs_R m 4 (q + 15) ∧ ∀ k, k < 24 → hs_R (ptX m j) 2 (24 * q + k) = hs_R m 2 (24 * (q + 15) + k) ∧ hs_R (ptX m j) 3 (24 * q + k) = hs_R m 3 (24 * (q + 15) + k)) := by
  intro j
  induction j with
  | zero => exact fun _ => ⟨rfl, rfl, rfl, fun _ _ _ _ _ => rfl, fun _ _ => ⟨rfl, rfl, fun _ _ => ⟨rfl, rfl⟩⟩, fun i hi => absurd hi (by omega)⟩
  | succ j ih =>
    intro hj
    obtain ⟨a1, a2, a3, a4, a5, a6⟩ := ih (by omega)
    have e : ptX m (j + 1) = if hs_R (ptX m j) 5 j = 0 then ptX m j else tkX (ptX m j) j := rfl
    by_cases z : hs_R (ptX m j) 5 j = 0
    · rw [e, if_pos z]
      refine ⟨a1, a2, a3, a4, fun q hq => a5 q (by omega), fun q hq => ?_⟩
      by_cases hqj : q = j
      · subst hqj
        obtain ⟨b1, b2, b3⟩ := a5 q (Nat.le_refl _)
        refine ⟨z, fun _ => ⟨b1, b3⟩, fun hz => ?_⟩
        rw [b2] at z
        exact absurd z hz
      · exact a6 q (by omega)
    · rw [e, if_neg z]
      obtain ⟨t1, t2, t3, t4, t5, t6⟩ := twX_is (m := ptX m j) (p := j) (by omega) 24 (Nat.le_refl _)
      obtain ⟨y, hy⟩ : ∃ y, twX (ptX m j) j 24 = y := ⟨_, rfl⟩
      rw [hy] at t1 t2 t3 t4 t5 t6
      have ey : tkX (ptX m j) j = tkY y (ptX m j) j := by
        unfold tkX
        rw [hy]
      rw [ey]
      have k2 : hs_R (tkY y (ptX m j) j) 2 = hs_R y 2 := (wR_ne (by decide)).trans (wR_ne (by decide))
      have k3 : hs_R (tkY y (ptX m j) j) 3 = hs_R y 3 := (wR_ne (by decide)).trans (wR_ne (by decide))
      have k4 : ∀ q, hs_R (tkY y (ptX m j) j) 4 q = if q = j then hs_R (ptX m j) 4 (j + 15) else hs_R (ptX m j) 4 q := by
        intro q
        show hs_R (hs_wR (hs_wR _ _ _ _) _ _ _) 4 q = _
        rw [wR_ne (by decide), pb_R_wR, t4 4 (by decide) (by decide)]
        by_cases h : q = j
        · rw [if_pos ⟨rfl, h⟩, if_pos h]
        · rw [if_neg (fun z => h z.2), if_neg h]
      have k5 : ∀ q, hs_R (tkY y (ptX m j) j) 5 q = if q = j then nI 0 else hs_R (ptX m j) 5 q := by
        intro q
        show hs_R (hs_wR (hs_wR _ _ _ _) _ _ _) 5 q = _
        rw [pb_R_wR, wR_ne (by decide), t4 5 (by decide) (by decide)]
        by_cases h : q = j
        · rw [if_pos ⟨rfl, h⟩, if_pos h]
        · rw [if_neg (fun z => h z.2), if_neg h]
      refine ⟨t1.trans a1, t2.trans a2, t3.trans a3, fun a h1 h2 h3 h4 => ?_, fun q hq => ?_, fun q hq => ?_⟩
      · show hs_R (hs_wR (hs_wR _ _ _ _) _ _ _) a = _
        rw [wR_ne h4, wR_ne h3, t4 a h1 h2]
        exact a4 a h1 h2 h3 h4
      · obtain ⟨b1, b2, b3⟩ := a5 q (by omega)
        refine ⟨by rw [k4, if_neg (by omega)]; exact b1, by rw [k5, if_neg (by omega)]; exact b2, fun k hk => ?_⟩
        rw [k2, k3, (t5 (24 * q + k) (by omega)).1, (t5 (24 * q + k) (by omega)).2]
        exact b3 k hk
      · by_cases hqj : q = j
        · subst hqj
          obtain ⟨b1, b2, b3⟩ := a5 q (Nat.le_refl _)
          obtain ⟨d1, d2, d3⟩ := a5 (q + 15) (by omega)
          refine ⟨by rw [k5, if_pos rfl], fun hz => ?_, fun hz => ⟨by rw [k4, if_pos rfl]; exact d1, fun k hk => ?_⟩⟩
          · rw [b2] at z
            exact absurd hz z
          · rw [k2, k3, (t6 k hk).1, (t6 k hk).2]
            exact d3 k hk
        · obtain ⟨b1, b2, b3⟩ := a6 q (by omega)
          refine ⟨by rw [k5, if_neg hqj]; exact b1, fun hz => ?_, fun hz => ?_⟩
          · obtain ⟨d1, d2⟩ := b2 hz
            refine ⟨by rw [k4, if_neg hqj]; exact d1, fun k hk => ?_⟩
            rw [k2, k3, (t5 (24 * q + k) (by omega)).1, (t5 (24 * q + k) (by omega)).2]
            exact d2 k hk
          · obtain ⟨d1, d2⟩ := b3 hz
            refine ⟨by rw [k4, if_neg hqj]; exact d1, fun k hk => ?_⟩
            rw [k2, k3, (t5 (24 * q + k) (by omega)).1, (t5 (24 * q + k) (by omega)).2]
            exact d2 k hk
theorem rd_patch (hM : mS m) (h5 : T ≤ 5) (n1 : hs_F m 0 0 = nI T) (hfu : 600 < fu) : fX8_round_91 fu m 0 0 0 = fX8_round_207 fu (ptX m (3 * T)) 0 0 0 := by
  unfold fX8_round_91
  refine pb_lpz (fun j => (ptX m j, 0, 0, nI j)) (3 * T) rfl ?_ ?_ (by omega)
  · intro k j hj
    obtain ⟨a1, a2, a3, a4, a5, a6⟩ := ptX_is (m := m) j (by omega)
    have hM2 := mS_of a1 a2 hM
    have e : ptX m (j + 1) = if hs_R (ptX m j) 5 j = 0 then ptX m j else tkX (ptX m j) j := rfl
    dsimp only
    unfold fX8_round_91b
    rw [m_gI hM2, pb_bind, a3, n1, il 3, pk_mul, if_neg (nI_ge hj (by omega)), m_g6 hM2, pb_bind, m_ld5 hM2 (by omega), pb_bind, e]
    by_cases z : hs_R (ptX m j) 5 j = 0
    · rw [if_pos z, if_pos z, nI_1]
    · rw [if_neg z, if_neg z, rd_115 hM2 (by omega) hfu]
  · intro k
    obtain ⟨a1, a2, a3, a4, a5, a6⟩ := ptX_is (m := m) (3 * T) (by omega)
    have hM2 := mS_of a1 a2 hM
    dsimp only
    unfold fX8_round_91b
    rw [m_gI hM2, pb_bind, a3, n1, il 3, pk_mul, if_pos (nI_le (Nat.le_refl _) (by omega))]
end RdCopy
