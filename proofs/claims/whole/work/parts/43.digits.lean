/-! Pure part 14: the tape's signs and numbers -/
section Digits
variable {fu tp a n : Nat} {b : Nat → Nat} {x m : hs_T}
def sgn (tp : Nat) (b : Nat → Nat) (a : Nat) : Int32 := if a < tp then nI (b a) else -1
def TP (x : hs_T) (tp : Nat) (b : Nat → Nat) : Prop := hs_F x 1 4 = nI tp ∧ tp ≤ 120 ∧ ∀ i, i < tp → hs_R x 5 i = nI (b i)
def TM (m : hs_T) (tp : Nat) (b : Nat → Nat) : Prop := hs_F m 7 0 = nI tp ∧ tp ≤ 120 ∧ ∀ i, i < tp → hs_R m 1 i = nI (b i)
theorem c_at (hC : cS x) (h : TP x tp b) (ha : a ≤ 1000) : fX6_at fu x 4 (nI a) = some (sgn tp b a, x) := by
  obtain ⟨h1, h2, h3⟩ := h
  unfold fX6_at sgn
  rw [if_neg (nI_pos (by omega)), c_gI4 hC, pb_bind, h1]
  by_cases q : a < tp
  · rw [if_neg (nI_ge q (by omega)), if_pos q, c_g0_4 hC, pb_bind, c_ld5 hC (by omega), pb_bind, h3 a q]
  · rw [if_pos (nI_le (by omega) (by omega)), if_neg q]
theorem m_sign (hM : mS m) (h : TM m tp b) (hF : hs_F m 8 0 = nI a) (ha : a ≤ 1000) : fX8_sign fu m 0 = some (sgn tp b a, m) := by
  obtain ⟨h1, h2, h3⟩ := h
  unfold fX8_sign sgn
  rw [m_gI hM, pb_bind, m_gI hM, pb_bind, h1, hF]
  by_cases q : a < tp
  · rw [if_neg (nI_ge q (by omega)), if_pos q, m_g2 hM, pb_bind, pb_bind, m_ld1 hM (by omega), pb_bind, h3 a q]
  · rw [if_pos (nI_le (by omega) (by omega)), if_neg q]
theorem dg_cases (tp : Nat) (b : Nat → Nat) (a : Nat) (hb : ∀ i, i < tp → b i < 256) : (∃ d, d < 10 ∧ a < tp ∧ b a = 48 + d ∧ sgn tp b a = nI (48 + d)) ∨ (sgn tp b a < 48 ∨ 57 < sgn tp b a) := by
  unfold sgn
  by_cases q : a < tp
  · rw [if_pos q]
    have := hb a q
    by_cases q1 : b a < 48
    · exact Or.inr (Or.inl (nI_lt (b := 48) q1 (by decide)))
    · by_cases q2 : 57 < b a
      · exact Or.inr (Or.inr (nI_lt (a := 57) q2 (by omega)))
      · exact Or.inl ⟨b a - 48, by omega, q, by omega, by rw [show 48 + (b a - 48) = b a by omega]⟩
  · rw [if_neg q]
    exact Or.inr (Or.inl (by decide))
theorem c_dig_y {d : Nat} (hd : d < 10) : fX4_isDigit fu x (nI (48 + d)) = some (1, x) := by
  unfold fX4_isDigit
  rw [if_neg (show ¬ nI (48 + d) < 48 from nI_nlt (b := 48) (by omega) (by omega)), if_neg (show ¬ 57 < nI (48 + d) from nI_nlt (a := 57) (by omega) (by decide))]
theorem c_dig_n {s : Int32} (h : s < 48 ∨ 57 < s) : fX4_isDigit fu x s = some (0, x) := by
  unfold fX4_isDigit
  by_cases q : s < 48
  · rw [if_pos q]
  · rw [if_neg q, if_pos (h.resolve_left q)]
theorem m_dig_y {d : Nat} (hM : mS m) (h : TM m tp b) (hF : hs_F m 8 0 = nI a) (ha : a ≤ 1000) (hd : d < 10) (hs : sgn tp b a = nI (48 + d)) : fX8_isDigit fu m 0 = some (1, m) := by
  unfold fX8_isDigit
  rw [m_ck hM, pb_bind, m_sign hM h hF ha, pb_b2, hs, if_neg (show ¬ nI (48 + d) < 48 from nI_nlt (b := 48) (by omega) (by omega)), m_ck hM, pb_bind, m_sign hM h hF ha, pb_b2, hs, if_neg (show ¬ 57 < nI (48 + d) from nI_nlt (a := 57) (by omega) (by decide))]
theorem m_dig_n (hM : mS m) (h : TM m tp b) (hF : hs_F m 8 0 = nI a) (ha : a ≤ 1000) (hs : sgn tp b a < 48 ∨ 57 < sgn tp b a) : fX8_isDigit fu m 0 = some (0, m) := by
  unfold fX8_isDigit
  rw [m_ck hM, pb_bind, m_sign hM h hF ha, pb_b2]
  by_cases q : sgn tp b a < 48
  · rw [if_pos q]
  · rw [if_neg q, m_ck hM, pb_bind, m_sign hM h hF ha, pb_b2, if_pos (hs.resolve_left q)]
def rnB (fu : Nat) : (hs_T × Nat × Nat × Int32 × Int32 × Int32 → Option (Int32 × hs_T)) → hs_T × Nat × Nat × Int32 × Int32 × Int32 → Option (Int32 × hs_T) := fun k a => fX4_readNumber_5b fu (fun σ x0 x1 x2 x3 x4 => k (σ, x0, x1, x2, x3, x4)) a.1 a.2.1 a.2.2.1 a.2.2.2.1 a.2.2.2.2.1 a.2.2.2.2.2
def dgB (fu : Nat) : (hs_T × Nat × Int32 × Int32 × Int32 → Option (Int32 × hs_T)) → hs_T × Nat × Int32 × Int32 × Int32 → Option (Int32 × hs_T) := fun k a => fX8_digits_29b fu (fun σ x0 x1 x2 x3 => k (σ, x0, x1, x2, x3)) a.1 a.2.1 a.2.2.1 a.2.2.2.1 a.2.2.2.2
theorem rn_67 (hC : cS x) (hF : hs_F x 2 6 = nI n) (hn : n < 24) {v d : Nat} (hd : 1 ≤ d) (hd2 : d < 100) : fX4_readNumber_67 fu x 6 (nI v) (nI d) = some (1, hs_wR x 8 n (nI v)) := by
  unfold fX4_readNumber_67
  rw [c_g1_6 hC, pb_bind, c_gI6 hC, pb_bind, hF, c_st8 hC hn, pb_bind, if_neg (nI_nle (by omega) (by omega))]
theorem dg_loop {D : Nat} (hC : cS x) (hM : mS m) (hT : TP x tp b) (hU : TM m tp b) (hb : ∀ i, i < tp → b i < 256) (hF : hs_F x 2 6 = nI n) (hn : n < 24) (hD : D ≤ 4) : ∀ r d v a, d + r = D → 1 ≤ d → v < 10 ^ d → a ≤ tp → ∃ a' v', a' ≤ tp ∧ v' < 10 ^ D ∧ (∀ fc, r < fc → hs_lp (rnB fu) fc (hs_wF x 3 6 (nI a), 6, 4, nI D, nI v, nI d) = some (1, hs_wR (hs_wF x 3 6 (nI a')) 8 n (nI v'))) ∧ (∀ fm, r < fm → hs_lp (dgB fu) fm (hs_wF m 8 0 (nI a), 0, nI D, nI v, nI d) = some (nI v', hs_wF m 8 0 (nI a'))) := by
  intro r
  induction r with
  | zero =>
    intro d v a h1 h2 h3 h4
    obtain rfl : d = D := by omega
    refine ⟨a, v, h4, h3, fun fc hfc => ?_, fun fm hfm => ?_⟩
    · obtain ⟨f, rfl⟩ : ∃ f, fc = f + 1 := ⟨fc - 1, by omega⟩
      rw [pb_lp0]
      show fX4_readNumber_5b fu _ (hs_wF x 3 6 (nI a)) 6 4 (nI d) (nI v) (nI d) = _
      unfold fX4_readNumber_5b
      rw [if_pos (nI_le (Nat.le_refl _) (by omega))]
      exact rn_67 (x := hs_wF x 3 6 (nI a)) hC hF hn h2 (by omega)
    · obtain ⟨f, rfl⟩ : ∃ f, fm = f + 1 := ⟨fm - 1, by omega⟩
      rw [pb_lp0]
      show fX8_digits_29b fu _ (hs_wF m 8 0 (nI a)) 0 (nI d) (nI v) (nI d) = _
      unfold fX8_digits_29b
      rw [if_pos (nI_le (Nat.le_refl _) (by omega))]
  | succ r ih =>
    intro d v a h1 h2 h3 h4
    have h120 := hT.2.1
    have hTa : TP (hs_wF x 3 6 (nI a)) tp b := hT
    have hUa : TM (hs_wF m 8 0 (nI a)) tp b := hU
    have xa : hs_F (hs_wF x 3 6 (nI a)) 3 6 = nI a := by rw [pb_F_wF, if_pos ⟨rfl, rfl⟩]
    have ma : hs_F (hs_wF m 8 0 (nI a)) 8 0 = nI a := by rw [pb_F_wF, if_pos ⟨rfl, rfl⟩]
    have hvD : v < 10 ^ D := Nat.lt_of_lt_of_le h3 (Nat.pow_le_pow_right (by decide) (by omega))
    have hv4 : v < 10000 := Nat.lt_of_lt_of_le hvD (Nat.pow_le_pow_right (n := 10) (by decide) hD)
    by_cases v0 : v = 0
    · subst v0
      refine ⟨a, 0, h4, hvD, fun fc hfc => ?_, fun fm hfm => ?_⟩
      · obtain ⟨f, rfl⟩ : ∃ f, fc = f + 1 := ⟨fc - 1, by omega⟩
        rw [pb_lp0]
        show fX4_readNumber_5b fu _ (hs_wF x 3 6 (nI a)) 6 4 (nI D) (nI 0) (nI d) = _
        unfold fX4_readNumber_5b
        rw [if_neg (nI_ge (by omega) (by omega)), c_gI6 (σ := hs_wF x 3 6 (nI a)) hC, pb_bind, xa, c_ck4 (σ := hs_wF x 3 6 (nI a)) hC, pb_bind, c_at (x := hs_wF x 3 6 (nI a)) hC hTa (by omega), pb_b2]
        rcases dg_cases tp b a hb with ⟨d0, e1, e2, e3, e4⟩ | e
        · rw [e4, c_dig_y e1, pb_b2, if_neg o_nz, if_neg (nI_ne0 (by omega) (by omega)), if_pos (show nI 0 ≤ 0 by decide)]
          exact rn_67 (x := hs_wF x 3 6 (nI a)) hC hF hn h2 (by omega)
        · rw [c_dig_n e, pb_b2, if_pos rfl]
          exact rn_67 (x := hs_wF x 3 6 (nI a)) hC hF hn h2 (by omega)
      · obtain ⟨f, rfl⟩ : ∃ f, fm = f + 1 := ⟨fm - 1, by omega⟩
        rw [pb_lp0]
        show fX8_digits_29b fu _ (hs_wF m 8 0 (nI a)) 0 (nI D) (nI 0) (nI d) = _
        unfold fX8_digits_29b
        rw [if_neg (nI_ge (by omega) (by omega)), if_pos (show nI 0 ≤ 0 by decide)]
    · rcases dg_cases tp b a hb with ⟨d0, e1, e2, e3, e4⟩ | e
      · have hp10 : 10 ^ (d + 1) = 10 ^ d * 10 := Nat.pow_succ _ _
        obtain ⟨a', v', q1, q2, q3, q4⟩ := ih (d + 1) (v * 10 + d0) (a + 1) (by omega) (by omega) (by omega) (by omega)
        refine ⟨a', v', q1, q2, fun fc hfc => ?_, fun fm hfm => ?_⟩
        · obtain ⟨f, rfl⟩ : ∃ f, fc = f + 1 := ⟨fc - 1, by omega⟩
          rw [pb_lp0]
          refine Eq.trans ?_ (q3 f (by omega))
          show fX4_readNumber_5b fu _ (hs_wF x 3 6 (nI a)) 6 4 (nI D) (nI v) (nI d) = _
          unfold fX4_readNumber_5b fX4_readNumber_34
          rw [if_neg (nI_ge (by omega) (by omega)), c_gI6 (σ := hs_wF x 3 6 (nI a)) hC, pb_bind, xa, c_ck4 (σ := hs_wF x 3 6 (nI a)) hC, pb_bind, c_at (x := hs_wF x 3 6 (nI a)) hC hTa (by omega), pb_b2, e4, c_dig_y e1, pb_b2, if_neg o_nz, if_neg (nI_ne0 (by omega) (by omega)), if_neg (nI_nle (by omega) (by omega)), c_gI6 (σ := hs_wF x 3 6 (nI a)) hC, pb_bind, xa, c_ck4 (σ := hs_wF x 3 6 (nI a)) hC, pb_bind, c_at (x := hs_wF x 3 6 (nI a)) hC hTa (by omega), pb_b2, e4, c_gI6 (σ := hs_wF x 3 6 (nI a)) hC, pb_bind, xa, c_pI6 (σ := hs_wF x 3 6 (nI a)) hC, pb_bind, pb_FF, nI_1, nI_1, il 10, pk_mul, nI_add, il 48, pk_sub (by omega), show v * 10 + (48 + d0) - 48 = v * 10 + d0 by omega]
        · obtain ⟨f, rfl⟩ : ∃ f, fm = f + 1 := ⟨fm - 1, by omega⟩
          rw [pb_lp0]
          refine Eq.trans ?_ (q4 f (by omega))
          show fX8_digits_29b fu _ (hs_wF m 8 0 (nI a)) 0 (nI D) (nI v) (nI d) = _
          unfold fX8_digits_29b
          rw [if_neg (nI_ge (by omega) (by omega)), if_neg (nI_nle (by omega) (by omega)), m_ck (σ := hs_wF m 8 0 (nI a)) hM, pb_bind, m_dig_y (m := hs_wF m 8 0 (nI a)) hM hUa ma (by omega) e1 e4, pb_b2, if_neg o_nz, m_ck (σ := hs_wF m 8 0 (nI a)) hM, pb_bind, m_sign (m := hs_wF m 8 0 (nI a)) hM hUa ma (by omega), pb_b2, e4, m_gI (σ := hs_wF m 8 0 (nI a)) hM, pb_bind, ma, m_pI (σ := hs_wF m 8 0 (nI a)) hM, pb_bind, pb_FF, nI_1, nI_1, il 10, pk_mul, nI_add, il 48, pk_sub (by omega), show 10 * v + (48 + d0) - 48 = v * 10 + d0 by omega]
      · refine ⟨a, v, h4, hvD, fun fc hfc => ?_, fun fm hfm => ?_⟩
        · obtain ⟨f, rfl⟩ : ∃ f, fc = f + 1 := ⟨fc - 1, by omega⟩
          rw [pb_lp0]
          show fX4_readNumber_5b fu _ (hs_wF x 3 6 (nI a)) 6 4 (nI D) (nI v) (nI d) = _
          unfold fX4_readNumber_5b
          rw [if_neg (nI_ge (by omega) (by omega)), c_gI6 (σ := hs_wF x 3 6 (nI a)) hC, pb_bind, xa, c_ck4 (σ := hs_wF x 3 6 (nI a)) hC, pb_bind, c_at (x := hs_wF x 3 6 (nI a)) hC hTa (by omega), pb_b2, c_dig_n e, pb_b2, if_pos rfl]
          exact rn_67 (x := hs_wF x 3 6 (nI a)) hC hF hn h2 (by omega)
        · obtain ⟨f, rfl⟩ : ∃ f, fm = f + 1 := ⟨fm - 1, by omega⟩
          rw [pb_lp0]
          show fX8_digits_29b fu _ (hs_wF m 8 0 (nI a)) 0 (nI D) (nI v) (nI d) = _
          unfold fX8_digits_29b
          rw [if_neg (nI_ge (by omega) (by omega)), if_neg (nI_nle (by omega) (by omega)), m_ck (σ := hs_wF m 8 0 (nI a)) hM, pb_bind, m_dig_n (m := hs_wF m 8 0 (nI a)) hM hUa ma (by omega) e, pb_b2, if_pos rfl]
/-- a number of at most D digits: on both sides, or on none -/
theorem dg_num {D : Nat} (hC : cS x) (hM : mS m) (hT : TP x tp b) (hU : TM m tp b) (hb : ∀ i, i < tp → b i < 256) (hF : hs_F x 2 6 = nI n) (hn : n < 24) (hD : D ≤ 4) (hD1 : 1 ≤ D) (hfu : 600 < fu) (ha : a ≤ tp) (m8 : hs_F m 8 0 = nI a) (x3 : hs_F x 3 6 = nI a) : (∃ a' v', a' ≤ tp ∧ v' < 10 ^ D ∧ fX4_readNumber fu x 6 4 (nI D) = some (1, hs_wR (hs_wF x 3 6 (nI a')) 8 n (nI v')) ∧ fX8_digits fu m 0 (nI D) = some (nI v', hs_wF m 8 0 (nI a'))) ∨ (fX4_readNumber fu x 6 4 (nI D) = some (0, hs_wR x 8 n (nI 0)) ∧ fX8_digits fu m 0 (nI D) = some (-1, m)) := by
  have h120 := hT.2.1
  obtain ⟨f, rfl⟩ : ∃ f, fu = f + 1 := ⟨fu - 1, by omega⟩
  have e0 : fX4_readNumber (f + 1) x 6 4 (nI D) = rnB (f + 1) (hs_lp (rnB (f + 1)) f) (x, 6, 4, nI D, 0, 0) := rfl
  have e1 : rnB (f + 1) (hs_lp (rnB (f + 1)) f) (x, 6, 4, nI D, 0, 0) = fX4_readNumber_5b (f + 1) (fun σ x0 x1 x2 x3 x4 => hs_lp (rnB (f + 1)) f (σ, x0, x1, x2, x3, x4)) x 6 4 (nI D) 0 0 := rfl
  have e2 : ∀ y u v w, fX8_digits_29 (f + 1) y 0 u v w = hs_lp (dgB (f + 1)) (f + 1) (y, 0, u, v, w) := fun _ _ _ _ => rfl
  rw [e0, e1]
  unfold fX4_readNumber_5b fX8_digits
  rw [if_neg (show ¬ nI D ≤ 0 from nI_nle (by omega) (by omega)), c_gI6 hC, pb_bind, x3, c_ck4 hC, pb_bind, c_at hC hT (by omega), pb_b2, m_ck hM, pb_bind]
  rcases dg_cases tp b a hb with ⟨d0, g1, g2, g3, g4⟩ | e
  · obtain ⟨a', v', q1, q2, q3, q4⟩ := dg_loop (fu := f + 1) hC hM hT hU hb hF hn hD (D - 1) 1 d0 (a + 1) (by omega) (by decide) (by omega) (by omega)
    refine Or.inl ⟨a', v', q1, q2, ?_, ?_⟩
    · refine Eq.trans ?_ (q3 f (by omega))
      unfold fX4_readNumber_34
      rw [g4, c_dig_y g1, pb_b2, if_neg o_nz, if_pos rfl, c_gI6 hC, pb_bind, x3, c_ck4 hC, pb_bind, c_at hC hT (by omega), pb_b2, g4, c_gI6 hC, pb_bind, x3, c_pI6 hC, pb_bind, nI_1, show (0 : Int32) = nI 0 from rfl, il 10, pk_mul, nI_add, nI_1, il 48, pk_sub (by omega), show 0 * 10 + (48 + d0) - 48 = d0 by omega]
    · refine Eq.trans ?_ (q4 (f + 1) (by omega))
      rw [m_dig_y hM hU m8 (by omega) g1 g4, pb_b2, if_neg o_nz, m_ck hM, pb_bind, m_sign hM hU m8 (by omega), pb_b2, g4, m_gI hM, pb_bind, m8, m_pI hM, pb_bind, nI_1, il 48, pk_sub (by omega), show 48 + d0 - 48 = d0 by omega, e2]
      rfl
  · refine Or.inr ⟨?_, ?_⟩
    · rw [c_dig_n e, pb_b2, if_pos rfl]
      unfold fX4_readNumber_67
      rw [c_g1_6 hC, pb_bind, c_gI6 hC, pb_bind, hF, c_st8 hC hn, pb_bind, if_pos (show (0 : Int32) ≤ 0 by decide)]
      rfl
    · rw [m_dig_n hM hU m8 (by omega) e, pb_b2, if_pos rfl]
end Digits
