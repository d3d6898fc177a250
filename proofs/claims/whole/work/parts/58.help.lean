/-! Pure part 29: a set of teams; the reference's helpers -/
section Help
variable {c T Rd nh fu s L : Nat} {st sv hn hb hp hr : Nat → Nat} {x x' m m' σ : hs_T} {A B C D : Nat → Int32}
def bN (s t : Nat) : Nat := s / 2 ^ t % 2
def pcN (s : Nat) : Nat := smN (bN s) 5
theorem bN_lt {t : Nat} : bN s t < 2 := Nat.mod_lt _ (by decide)
theorem b_bit : ∀ s, s < 32 → ∀ t, t < 5 → ((nI s >>> (nI t &&& 31)) &&& 1) = nI (bN s t) := by decide +kernel
theorem b_sum : ∀ s, s < 32 → sm (fun t => (nI s >>> (nI t &&& 31)) &&& 1) 31 = nI (pcN s) := by decide +kernel
theorem b_pow : ∀ T, T ≤ 5 → (1 : Int32) <<< (nI T &&& 31) = nI (2 ^ T) := by decide +kernel
theorem b_hi : ∀ T, T ≤ 5 → ∀ s, s < 2 ^ T → ∀ t, t < 5 → T ≤ t → bN s t = 0 := by decide +kernel
theorem b_pc : ∀ s, s < 32 → pcN s ≤ 5 := fun s _ => smN_le (fun t _ => by have := bN_lt (s := s) (t := t); omega)
def hs_0 : hs_T := ((0, fun _ => 0, fun _ => 0), fun _ _ => 0, fun _ _ => none, fun _ _ => 0, fun _ _ => none)
def bcV (a : Int32) : Int32 := ((fJ6_bitCount_0f7a4 0 hs_0 a).map Prod.fst).getD 0
theorem bc_is (a : Int32) : fJ6_bitCount_0f7a4 fu σ a = some (bcV a, σ) := rfl
theorem bc_all : ∀ s, s < 32 → bcV (nI s) = nI (pcN s) := by decide +kernel
theorem p2_le (h5 : T ≤ 5) : 2 ^ T ≤ 32 := by
  rcases (show T = 0 ∨ T = 1 ∨ T = 2 ∨ T = 3 ∨ T = 4 ∨ T = 5 by omega) with rfl | rfl | rfl | rfl | rfl | rfl <;> decide
/-- the sum of a set -/
def SVv (m : hs_T) (T Rd s : Nat) : Int32 := sm (fun t => if bN s t = 1 then UPv m T Rd 1000 t + STv m T Rd 1000 t - OFv m T Rd 1000 t else 0) T
theorem m_sumOf (hfu : 600 < fu) (hs : s < 32) (hM : mS m) (n1 : hs_F m 0 0 = nI T) (n2 : hs_F m 1 0 = nI Rd) (h5 : T ≤ 5) (h100 : Rd ≤ 100) (hv : mV T Rd m) : ∃ m', fX8_sumOf fu m 0 (nI s) = some (SVv m T Rd s, m') ∧ m'.1 = m.1 ∧ m'.2.2.1 = m.2.2.1 ∧ hs_F m' = hs_F m ∧ ∀ a, a < 28 → hs_R m' a = hs_R m a := by
  obtain ⟨m1, f1, f2⟩ := m_findPoints (fu := fu) (e := 1000) hfu hM n1 n2 h5 h100 hv (by decide)
  have hM1 := fP_mS hM f2
  refine ⟨m1, ?_, f2.1, f2.2.1, f2.2.2.1, f2.2.2.2.1⟩
  unfold fX8_sumOf
  rw [m_ck hM, pb_bind, show fX8_findPoints fu m 0 1000 = _ from f1, pb_b2]
  unfold fX8_sumOf_11 SVv
  refine pb_lpz (fun j => (m1, 0, nI s, sm (fun t => if bN s t = 1 then UPv m T Rd 1000 t + STv m T Rd 1000 t - OFv m T Rd 1000 t else 0) j, nI j)) T rfl ?_ ?_ (by omega)
  · intro k j hj
    dsimp only
    unfold fX8_sumOf_11b
    rw [m_gI hM1, pb_bind, f2.2.2.1, n1, if_neg (nI_ge hj (by omega)), b_bit s hs j (by omega), nI_1]
    show _ = k (m1, 0, nI s, sm _ j + (if bN s j = 1 then UPv m T Rd 1000 j + STv m T Rd 1000 j - OFv m T Rd 1000 j else 0), nI (j + 1))
    by_cases q : bN s j = 1
    · rw [if_pos (show nI (bN s j) = 1 by rw [q]; rfl), if_pos q, m_ck hM1, pb_bind, m_sum hM h5 f2 hj, pb_b2]
    · rw [if_neg (show ¬ nI (bN s j) = 1 from n_ne (b := 1) (by have := bN_lt (s := s) (t := j); omega) (by decide) q), if_neg q]
  · intro k
    dsimp only
    unfold fX8_sumOf_11b
    rw [m_gI hM1, pb_bind, f2.2.2.1, n1, if_pos (nI_le (Nat.le_refl _) (by omega))]
/-- a cell of the latest round that a helper would fill, from lo on, ahead of hi -/
def hl2 (s L lo hi : Nat) (m : hs_T) (i : Nat) : Prop := (75 * L + lo ≤ i ∧ i < 75 * L + hi) ∧ (bN s ((i - 75 * L) % 5) = 1 ∧ bN s ((i - 75 * L) / 5 / 3) = 1 ∧ (i - 75 * L) % 5 ≠ (i - 75 * L) / 5 / 3) ∧ hs_R m 27 i = 0
def fH (s L lo hi : Nat) (m σ : hs_T) : Prop := σ.1 = m.1 ∧ σ.2.2.1 = m.2.2.1 ∧ hs_F σ = hs_F m ∧ (∀ a, a < 27 → hs_R σ a = hs_R m a) ∧ ∀ i, (hl2 s L lo hi m i → hs_R σ 27 i = 900) ∧ (¬ hl2 s L lo hi m i → hs_R σ 27 i = hs_R m 27 i)
theorem fH_mS {lo hi : Nat} (hM : mS m) (h : fH s L lo hi m σ) : mS σ := mS_of h.1 h.2.1 hM
theorem fH_cg {lo hi lo' hi' : Nat} (h : fH s L lo hi m σ) (e : ∀ i, hl2 s L lo hi m i ↔ hl2 s L lo' hi' m i) : fH s L lo' hi' m σ := ⟨h.1, h.2.1, h.2.2.1, h.2.2.2.1, fun i => ⟨fun z => (h.2.2.2.2 i).1 ((e i).mpr z), fun z => (h.2.2.2.2 i).2 (fun w => z ((e i).mp w))⟩⟩
/-- at the cell of place p and team b -/
theorem hl2_at {lo hi p b : Nat} (hb5 : b < 5) : hl2 s L lo hi m (75 * L + 5 * p + b) ↔ (lo ≤ 5 * p + b ∧ 5 * p + b < hi) ∧ (bN s b = 1 ∧ bN s (p / 3) = 1 ∧ b ≠ p / 3) ∧ hs_R m 27 (75 * L + 5 * p + b) = 0 := by
  unfold hl2
  rw [show 75 * L + 5 * p + b - 75 * L = 5 * p + b by omega, show (5 * p + b) % 5 = b by omega, show (5 * p + b) / 5 = p by omega]
  have e : (75 * L + lo ≤ 75 * L + 5 * p + b ∧ 75 * L + 5 * p + b < 75 * L + hi) ↔ (lo ≤ 5 * p + b ∧ 5 * p + b < hi) := by omega
  rw [e]
theorem hl2_ne {lo hi lo' hi' n i : Nat} (hr : ∀ j, j ≠ n → ((lo ≤ j ∧ j < hi) ↔ (lo' ≤ j ∧ j < hi'))) (hi2 : i ≠ 75 * L + n) : hl2 s L lo hi m i ↔ hl2 s L lo' hi' m i := by
  unfold hl2
  by_cases q : 75 * L ≤ i
  · obtain ⟨j, rfl⟩ : ∃ j, i = 75 * L + j := ⟨i - 75 * L, by omega⟩
    have e := hr j (by omega)
    have e1 : (75 * L + lo ≤ 75 * L + j ∧ 75 * L + j < 75 * L + hi) ↔ (lo ≤ j ∧ j < hi) := by omega
    have e2 : (75 * L + lo' ≤ 75 * L + j ∧ 75 * L + j < 75 * L + hi') ↔ (lo' ≤ j ∧ j < hi') := by omega
    rw [e1, e2, e]
  · exact ⟨fun z => absurd z.1.1 (by omega), fun z => absurd z.1.1 (by omega)⟩
theorem fH_keep {lo hi lo' hi' p b : Nat} (hb5 : b < 5) (h : fH s L lo hi m σ) (hr : ∀ j, j ≠ 5 * p + b → ((lo ≤ j ∧ j < hi) ↔ (lo' ≤ j ∧ j < hi'))) (e : hl2 s L lo hi m (75 * L + 5 * p + b) ↔ hl2 s L lo' hi' m (75 * L + 5 * p + b)) : fH s L lo' hi' m σ := fH_cg h (fun i => by
  by_cases q : i = 75 * L + 5 * p + b
  · subst q; exact e
  · exact hl2_ne hr (by omega))
theorem fH_put {lo hi lo' hi' p b : Nat} {v : Int32} (hb5 : b < 5) (h : fH s L lo hi m σ) (hr : ∀ j, j ≠ 5 * p + b → ((lo ≤ j ∧ j < hi) ↔ (lo' ≤ j ∧ j < hi'))) (e : (hl2 s L lo' hi' m (75 * L + 5 * p + b) → v = 900) ∧ (¬ hl2 s L lo' hi' m (75 * L + 5 * p + b) → v = hs_R m 27 (75 * L + 5 * p + b))) : fH s L lo' hi' m (hs_wR σ 27 (75 * L + 5 * p + b) v) := by
  obtain ⟨h1, h2, h3, h4, h5⟩ := h
  refine ⟨h1, h2, h3, fun a ha => (wR_ne (by omega)).trans (h4 a ha), fun i => ?_⟩
  rw [pb_R_wR]
  by_cases q : i = 75 * L + 5 * p + b
  · rw [if_pos ⟨rfl, q⟩]
    subst q
    exact e
  · rw [if_neg (fun z => q z.2)]
    have z := hl2_ne (s := s) (L := L) (m := m) (i := i) hr (by omega)
    exact ⟨fun w => (h5 i).1 (z.mpr w), fun w => (h5 i).2 (fun u => w (z.mp u))⟩
theorem m_helps (hfu : 600 < fu) (hs : s < 2 ^ T) (hM : mS m) (n1 : hs_F m 0 0 = nI T) (h5 : T ≤ 5) (hL : L < 100) {p : Nat} (hp2 : p < 3 * T) (h : fH s L 0 (5 * p) m σ) : ∃ σ', fX8_helps fu σ 0 (nI s) (nI L) (nI p) 1 = some ((), σ') ∧ fH s L 0 (5 * (p + 1)) m σ' := by
  have hs32 : s < 32 := Nat.lt_of_lt_of_le hs (p2_le h5)
  unfold fX8_helps fX8_helps_3
  obtain ⟨a', ⟨σ', ha, hF⟩, f, hE⟩ := lp_one (B := (fun (k : hs_T × Nat × Int32 × Int32 × Int32 × Int32 × Int32 → Option (Unit × hs_T)) (a : hs_T × Nat × Int32 × Int32 × Int32 × Int32 × Int32) => fX8_helps_3b fu  (fun σ x0 x1 x2 x3 x4 x5 => k (σ, x0, x1, x2, x3, x4, x5)) a.1 a.2.1 a.2.2.1 a.2.2.2.1 a.2.2.2.2.1 a.2.2.2.2.2.1 a.2.2.2.2.2.2)) (fun j a => ∃ σ', a = (σ', 0, nI s, nI L, nI p, 1, nI j) ∧ fH s L 0 (5 * p + j) m σ') (n := T) (fuel := fu) (a := (σ, 0, nI s, nI L, nI p, 1, 0)) ⟨σ, rfl, h⟩ (by
    rintro j a hj ⟨σ1, rfl, h1⟩
    have hM1 := fH_mS hM h1
    have hr : ∀ k, k ≠ 5 * p + j → ((0 ≤ k ∧ k < 5 * p + j) ↔ (0 ≤ k ∧ k < 5 * p + (j + 1))) := fun k hk => by omega
    have skip : (¬ hl2 s L 0 (5 * p + (j + 1)) m (75 * L + 5 * p + j)) → fH s L 0 (5 * p + (j + 1)) m σ1 := fun z => fH_keep (by omega) h1 hr ⟨fun w => absurd ((hl2_at (by omega)).mp w).1.2 (by omega), fun w => absurd w z⟩
    have e3 : nI p / 3 = nI (p / 3) := pb_div (d := 3) (by omega) (by decide) (by decide)
    have start : ∀ k, fX8_helps_3b fu k σ1 0 (nI s) (nI L) (nI p) 1 (nI j) = if bN s j = 1 ∧ bN s (p / 3) = 1 ∧ j ≠ p / 3 then (if hs_R m 27 (75 * L + 5 * p + j) = 0 then k (hs_wR σ1 27 (75 * L + 5 * p + j) 900) 0 (nI s) (nI L) (nI p) 1 (nI (j + 1)) else k σ1 0 (nI s) (nI L) (nI p) 1 (nI (j + 1))) else k σ1 0 (nI s) (nI L) (nI p) 1 (nI (j + 1)) := by
      intro k
      have hb1 := bN_lt (s := s) (t := j)
      have hb2 := bN_lt (s := s) (t := p / 3)
      have r27 : hs_R σ1 27 (75 * L + 5 * p + j) = hs_R m 27 (75 * L + 5 * p + j) := (h1.2.2.2.2 _).2 (fun w => absurd ((hl2_at (by omega)).mp w).1.2 (by omega))
      unfold fX8_helps_3b
      rw [m_gI hM1, pb_bind, h1.2.2.1, n1, if_neg (nI_ge hj (by omega)), b_bit s hs32 j (by omega), e3, b_bit s hs32 (p / 3) (by omega), nI_1]
      by_cases q1 : bN s j = 1
      · rw [if_neg (nI_ne0 (by omega) (by omega))]
        by_cases q2 : bN s (p / 3) = 1
        · rw [if_neg (nI_ne0 (by omega) (by omega))]
          by_cases q3 : j = p / 3
          · rw [if_pos (congrArg nI q3), if_neg (fun z => z.2.2 q3)]
          · rw [if_neg (n_ne (by omega) (by omega) q3), if_pos (show bN s j = 1 ∧ bN s (p / 3) = 1 ∧ j ≠ p / 3 from ⟨q1, q2, q3⟩), if_neg o_nz, m_g37 hM1, pb_bind, il 75, il 5, pk_mul, pk_mul, nI_add, nI_add, m_ld27 hM1 (by omega), pb_bind, r27]
            by_cases q4 : hs_R m 27 (75 * L + 5 * p + j) = 0
            · rw [if_pos q4, if_pos q4, pb_bind, m_st27 hM1 (by omega), pb_bind]
            · rw [if_neg q4, if_neg q4]
              unfold fX8_helps_83
              rw [if_neg o_nz, nI_1]
        · rw [if_pos (show nI (bN s (p / 3)) = 0 by rw [show bN s (p / 3) = 0 by omega]; rfl), if_neg (fun z => q2 z.2.1)]
      · rw [if_pos (show nI (bN s j) = 0 by rw [show bN s j = 0 by omega]; rfl), if_neg (fun z => q1 z.1)]
    by_cases q : bN s j = 1 ∧ bN s (p / 3) = 1 ∧ j ≠ p / 3
    · by_cases q4 : hs_R m 27 (75 * L + 5 * p + j) = 0
      · refine ⟨_, ⟨_, rfl, fH_put (v := 900) (by omega) h1 hr ⟨fun _ => rfl, fun z => absurd ((hl2_at (by omega)).mpr ⟨by omega, q, q4⟩) z⟩⟩, fun k => ?_⟩
        dsimp only
        rw [start, if_pos q, if_pos q4]
      · refine ⟨_, ⟨_, rfl, skip (fun z => q4 ((hl2_at (by omega)).mp z).2.2)⟩, fun k => ?_⟩
        dsimp only
        rw [start, if_pos q, if_neg q4]
    · refine ⟨_, ⟨_, rfl, skip (fun z => q ((hl2_at (by omega)).mp z).2.1)⟩, fun k => ?_⟩
      dsimp only
      rw [start, if_neg q]) (by omega)
  subst ha
  rw [hE]
  dsimp only
  unfold fX8_helps_3b
  rw [m_gI (fH_mS hM hF), pb_bind, hF.2.2.1, n1, if_pos (nI_le (Nat.le_refl _) (by omega))]
  refine ⟨σ', rfl, fH_cg hF (fun i => ?_)⟩
  unfold hl2
  by_cases q : 75 * L ≤ i
  · obtain ⟨j, rfl⟩ : ∃ j, i = 75 * L + j := ⟨i - 75 * L, by omega⟩
    rw [show 75 * L + j - 75 * L = j by omega]
    refine ⟨fun z => ⟨by omega, z.2⟩, fun z => ⟨?_, z.2⟩⟩
    by_cases q2 : j < 5 * p + T
    · omega
    · have := b_hi T h5 s hs (j % 5) (by omega) (by omega)
      omega
  · exact ⟨fun z => absurd z.1.1 (by omega), fun z => absurd z.1.1 (by omega)⟩
theorem m_helps0 (hfu : 600 < fu) (hs : s < 2 ^ T) (hM : mS m) (n1 : hs_F m 0 0 = nI T) (h5 : T ≤ 5) (hL : L < 100) (h900 : ∀ p b, p < 3 * T → b < T → ¬ hs_R m 27 (75 * L + 5 * p + b) = 900) {p : Nat} (hp2 : p < 3 * T) (h : fH s L (5 * p) (15 * T) m σ) : ∃ σ', fX8_helps fu σ 0 (nI s) (nI L) (nI p) 0 = some ((), σ') ∧ fH s L (5 * (p + 1)) (15 * T) m σ' := by
  have hs32 : s < 32 := Nat.lt_of_lt_of_le hs (p2_le h5)
  unfold fX8_helps fX8_helps_3
  obtain ⟨a', ⟨σ', ha, hF⟩, f, hE⟩ := lp_one (B := (fun (k : hs_T × Nat × Int32 × Int32 × Int32 × Int32 × Int32 → Option (Unit × hs_T)) (a : hs_T × Nat × Int32 × Int32 × Int32 × Int32 × Int32) => fX8_helps_3b fu  (fun σ x0 x1 x2 x3 x4 x5 => k (σ, x0, x1, x2, x3, x4, x5)) a.1 a.2.1 a.2.2.1 a.2.2.2.1 a.2.2.2.2.1 a.2.2.2.2.2.1 a.2.2.2.2.2.2)) (fun j a => ∃ σ', a = (σ', 0, nI s, nI L, nI p, 0, nI j) ∧ fH s L (5 * p + j) (15 * T) m σ') (n := T) (fuel := fu) (a := (σ, 0, nI s, nI L, nI p, 0, 0)) ⟨σ, rfl, h⟩ (by
    rintro j a hj ⟨σ1, rfl, h1⟩
    have hM1 := fH_mS hM h1
    have hr : ∀ k, k ≠ 5 * p + j → ((5 * p + j ≤ k ∧ k < 15 * T) ↔ (5 * p + (j + 1) ≤ k ∧ k < 15 * T)) := fun k hk => by omega
    have gone : ¬ hl2 s L (5 * p + (j + 1)) (15 * T) m (75 * L + 5 * p + j) := fun w => absurd ((hl2_at (by omega)).mp w).1.1 (by omega)
    have skip : (¬ hl2 s L (5 * p + j) (15 * T) m (75 * L + 5 * p + j)) → fH s L (5 * p + (j + 1)) (15 * T) m σ1 := fun z => fH_keep (by omega) h1 hr ⟨fun w => absurd w z, fun w => absurd w gone⟩
    have e3 : nI p / 3 = nI (p / 3) := pb_div (d := 3) (by omega) (by decide) (by decide)
    have start : ∀ k, fX8_helps_3b fu k σ1 0 (nI s) (nI L) (nI p) 0 (nI j) = if bN s j = 1 ∧ bN s (p / 3) = 1 ∧ j ≠ p / 3 then (if hs_R σ1 27 (75 * L + 5 * p + j) = 900 then k (hs_wR σ1 27 (75 * L + 5 * p + j) 0) 0 (nI s) (nI L) (nI p) 0 (nI (j + 1)) else k σ1 0 (nI s) (nI L) (nI p) 0 (nI (j + 1))) else k σ1 0 (nI s) (nI L) (nI p) 0 (nI (j + 1)) := by
      intro k
      have hb1 := bN_lt (s := s) (t := j)
      have hb2 := bN_lt (s := s) (t := p / 3)
      unfold fX8_helps_3b
      rw [m_gI hM1, pb_bind, h1.2.2.1, n1, if_neg (nI_ge hj (by omega)), b_bit s hs32 j (by omega), e3, b_bit s hs32 (p / 3) (by omega), nI_1]
      by_cases q1 : bN s j = 1
      · rw [if_neg (nI_ne0 (by omega) (by omega))]
        by_cases q2 : bN s (p / 3) = 1
        · rw [if_neg (nI_ne0 (by omega) (by omega))]
          by_cases q3 : j = p / 3
          · rw [if_pos (congrArg nI q3), if_neg (fun z => z.2.2 q3)]
          · rw [if_neg (n_ne (by omega) (by omega) q3), if_pos (show bN s j = 1 ∧ bN s (p / 3) = 1 ∧ j ≠ p / 3 from ⟨q1, q2, q3⟩), if_pos rfl]
            unfold fX8_helps_83
            rw [if_pos rfl, m_g37 hM1, pb_bind, il 75, il 5, pk_mul, pk_mul, nI_add, nI_add, m_ld27 hM1 (by omega), pb_bind, nI_1]
            by_cases q4 : hs_R σ1 27 (75 * L + 5 * p + j) = 900
            · rw [if_pos q4, if_pos q4, pb_bind, m_st27 hM1 (by omega), pb_bind]
            · rw [if_neg q4, if_neg q4]
        · rw [if_pos (show nI (bN s (p / 3)) = 0 by rw [show bN s (p / 3) = 0 by omega]; rfl), if_neg (fun z => q2 z.2.1)]
      · rw [if_pos (show nI (bN s j) = 0 by rw [show bN s j = 0 by omega]; rfl), if_neg (fun z => q1 z.1)]
    by_cases q : bN s j = 1 ∧ bN s (p / 3) = 1 ∧ j ≠ p / 3
    · by_cases q4 : hs_R m 27 (75 * L + 5 * p + j) = 0
      · have hh : hl2 s L (5 * p + j) (15 * T) m (75 * L + 5 * p + j) := (hl2_at (by omega)).mpr ⟨by omega, q, q4⟩
        refine ⟨_, ⟨_, rfl, fH_put (v := 0) (by omega) h1 hr ⟨fun z => absurd z gone, fun _ => q4.symm⟩⟩, fun k => ?_⟩
        dsimp only
        rw [start, if_pos q, if_pos ((h1.2.2.2.2 _).1 hh)]
      · have hh : ¬ hl2 s L (5 * p + j) (15 * T) m (75 * L + 5 * p + j) := fun z => q4 ((hl2_at (by omega)).mp z).2.2
        refine ⟨_, ⟨_, rfl, skip hh⟩, fun k => ?_⟩
        dsimp only
        rw [start, if_pos q, if_neg (by rw [(h1.2.2.2.2 _).2 hh]; exact h900 p j hp2 hj)]
    · refine ⟨_, ⟨_, rfl, skip (fun z => q ((hl2_at (by omega)).mp z).2.1)⟩, fun k => ?_⟩
      dsimp only
      rw [start, if_neg q]) (by omega)
  subst ha
  rw [hE]
  dsimp only
  unfold fX8_helps_3b
  rw [m_gI (fH_mS hM hF), pb_bind, hF.2.2.1, n1, if_pos (nI_le (Nat.le_refl _) (by omega))]
  refine ⟨σ', rfl, fH_cg hF (fun i => ?_)⟩
  unfold hl2
  by_cases q : 75 * L ≤ i
  · obtain ⟨j, rfl⟩ : ∃ j, i = 75 * L + j := ⟨i - 75 * L, by omega⟩
    rw [show 75 * L + j - 75 * L = j by omega]
    refine ⟨fun z => ⟨?_, z.2⟩, fun z => ⟨by omega, z.2⟩⟩
    by_cases q2 : 5 * (p + 1) ≤ j
    · omega
    · have := b_hi T h5 s hs (j % 5) (by omega) (by omega)
      omega
  · exact ⟨fun z => absurd z.1.1 (by omega), fun z => absurd z.1.1 (by omega)⟩
end Help
