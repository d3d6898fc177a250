/-! Pure part 23: all services of a round; letters like checks -/
section RdLike
variable {c T Rd nh fu n p i j : Nat} {st sv hn hb hp hr : Nat → Nat} {x x' m m' : hs_T}
def frA (T : Nat) (sv : Nat → Nat) (x x' : hs_T) : Prop := x'.1 = x.1 ∧ x'.2.2.2.2 = x.2.2.2.2 ∧ (∀ k q, (∀ p, p < 3 * T → q ≠ sv p) → hs_G x' k q = hs_G x k q) ∧ (∀ k q, q ≠ 9 → (∀ p, p < 3 * T → q ≠ sv p) → hs_F x' k q = hs_F x k q) ∧ ∀ q, q ≠ 10 → q ≠ 11 → (∀ p i, p < 3 * T → i ≤ 7 → i ≠ 3 → q ≠ sv p + i) → hs_R x' q = hs_R x q
def frB (m m' : hs_T) : Prop := m'.1 = m.1 ∧ m'.2.2.1 = m.2.2.1 ∧ (∀ k, k ≠ 19 → k ≠ 20 → k ≠ 21 → hs_F m' k 0 = hs_F m k 0) ∧ ∀ a, (a < 8 ∨ a = 13 ∨ (15 ≤ a ∧ a ≤ 20) ∨ 26 ≤ a) → hs_R m' a = hs_R m a
theorem frA_rf : frA T sv x x := ⟨rfl, rfl, fun _ _ _ => rfl, fun _ _ _ _ => rfl, fun _ _ _ _ => rfl⟩
theorem frB_rf : frB m m := ⟨rfl, rfl, fun _ _ _ _ => rfl, fun _ _ => rfl⟩
theorem frA_tr {y : hs_T} (h : frA T sv x y) (g : frA T sv y x') : frA T sv x x' := ⟨g.1.trans h.1, g.2.1.trans h.2.1, fun k q a => (g.2.2.1 k q a).trans (h.2.2.1 k q a), fun k q a b => (g.2.2.2.1 k q a b).trans (h.2.2.2.1 k q a b), fun q a b d => (g.2.2.2.2 q a b d).trans (h.2.2.2.2 q a b d)⟩
theorem frB_tr {y : hs_T} (h : frB m y) (g : frB y m') : frB m m' := ⟨g.1.trans h.1, g.2.1.trans h.2.1, fun k a b d => (g.2.2.1 k a b d).trans (h.2.2.1 k a b d), fun a b => (g.2.2.2 a b).trans (h.2.2.2 a b)⟩
theorem frA_T (hj : j < 3 * T) (h : frT x (sv j) x') : frA T sv x x' := by
  obtain ⟨a1, a2, a3, a4, a5⟩ := h
  refine ⟨a1, a2, fun k q hq => a3 k q (fun z => hq j hj z.1), fun k q h9 hq => a4 k q h9 (fun z => hq j hj z.1), fun q h10 h11 hq => a5 q h10 h11 (hq j 1 hj (by decide) (by decide)) (hq j 2 hj (by decide) (by decide)) (hq j 4 hj (by decide) (by decide)) (hq j 5 hj (by decide) (by decide)) (hq j 6 hj (by decide) (by decide)) (hq j 7 hj (by decide) (by decide))⟩
theorem frB_U (h : frU Rd m j m') : frB m m' := by
  obtain ⟨a1, a2, a3, a4, -⟩ := h
  exact ⟨a1, a2, a3, fun a ha => a4 a (by omega) (by omega) (by omega) (by omega) (by omega) (by omega) (by omega) (by omega) (by omega) (by omega) (by omega)⟩
def rqB (fu : Nat) : (hs_T × Nat × Int32 × Int32 → Option (Int32 × hs_T)) → hs_T × Nat × Int32 × Int32 → Option (Int32 × hs_T) := fun k a => fX7_round_29b fu (fun σ x0 x1 x2 => k (σ, x0, x1, x2)) a.1 a.2.1 a.2.2.1 a.2.2.2
def rqM (fu : Nat) : (hs_T × Nat × Int32 × Int32 → Option (Int32 × hs_T)) → hs_T × Nat × Int32 × Int32 → Option (Int32 × hs_T) := fun k a => fX8_round_207b fu (fun σ x0 x1 x2 => k (σ, x0, x1, x2)) a.1 a.2.1 a.2.2.1 a.2.2.2
theorem rq_loop (h5 : T ≤ 5) (hRd : Rd < 100) (hfu : 600 < fu) : ∀ n j x m acc, j + n = 3 * T → wS j T Rd st sv x m → ∃ x' m' acc', (∀ f, hs_lp (rqB fu) (f + n) (x, 0, acc, nI j) = hs_lp (rqB fu) f (x', 0, acc', nI (3 * T))) ∧ (∀ f, hs_lp (rqM fu) (f + n) (m, 0, acc, nI j) = hs_lp (rqM fu) f (m', 0, acc', nI (3 * T))) ∧ wS (3 * T) T Rd st sv x' m' ∧ frA T sv x x' ∧ frB m m' := by
  intro n
  induction n with
  | zero =>
    intro j x m acc hj h
    have e : j = 3 * T := by omega
    subst e
    exact ⟨x, m, acc, fun _ => rfl, fun _ => rfl, h, frA_rf, frB_rf⟩
  | succ n ih =>
    intro j x m acc hj h
    obtain ⟨x1, m1, u, -, b1, b2, b3, b4, b5⟩ := rd_one (fu := fu) h (by omega) h5 hRd hfu
    obtain ⟨x2, m2, acc2, c1, c2, c3, c4, c5⟩ := ih (j + 1) x1 m1 (acc + u) (by omega) b3
    refine ⟨x2, m2, acc2, fun f => ?_, fun f => ?_, c3, frA_tr (frA_T (by omega) b4) c4, frB_tr (frB_U b5) c5⟩
    · rw [← c1 f]
      exact b1 _ acc
    · rw [← c2 f]
      exact b2 _ acc
def ilV (x : hs_T) (n : Nat) (a b : Int32) : Int32 := if hs_R x (n + 4) 0 + 1 = a ∧ hs_R x (n + 5) 0 = b then 1 else if hs_R x (n + 4) 1 + 1 = a ∧ hs_R x (n + 5) 1 = b then 1 else if hs_R x (n + 4) 2 + 1 = a ∧ hs_R x (n + 5) 2 = b then 1 else 0
theorem ilV_b {a b : Int32} : b01 (ilV x n a b) := by
  unfold ilV b01
  by_cases h0 : hs_R x (n + 4) 0 + 1 = a ∧ hs_R x (n + 5) 0 = b
  · rw [if_pos h0]; exact Or.inr rfl
  · rw [if_neg h0]
    by_cases h1 : hs_R x (n + 4) 1 + 1 = a ∧ hs_R x (n + 5) 1 = b
    · rw [if_pos h1]; exact Or.inr rfl
    · rw [if_neg h1]
      by_cases h2 : hs_R x (n + 4) 2 + 1 = a ∧ hs_R x (n + 5) 2 = b
      · rw [if_pos h2]; exact Or.inr rfl
      · rw [if_neg h2]; exact Or.inl rfl
theorem c_isLike (hB : sB x n p) (hfu : 600 < fu) {a b : Int32} : fX5_isLikeCheck fu x n a b = some (ilV x n a b, x) := by
  have step : ∀ i, i < 3 → ∀ k, fX5_isLikeCheck_2b fu k x n a b (nI i) = if hs_R x (n + 4) i + 1 = a ∧ hs_R x (n + 5) i = b then some (1, x) else k x n a b (nI (i + 1)) := by
    intro i hi k
    unfold fX5_isLikeCheck_2b
    rw [if_neg (show ¬ 3 ≤ nI i from nI_ge (b := 3) hi (by decide)), s_g5 hB, pb_bind, s_ld4 hB hi, pb_bind, nI_1]
    by_cases h1 : hs_R x (n + 4) i + 1 = a
    · rw [if_pos h1, s_g6 hB, pb_bind, s_ld5 hB hi, pb_bind]
      by_cases h2 : hs_R x (n + 5) i = b
      · rw [if_pos h2, if_pos ⟨h1, h2⟩]
      · rw [if_neg h2, if_neg (fun z => h2 z.2)]
    · rw [if_neg h1, if_neg (fun z => h1 z.1)]
  have last : ∀ k, fX5_isLikeCheck_2b fu k x n a b (nI 3) = some (0, x) := by
    intro k
    unfold fX5_isLikeCheck_2b
    rw [if_pos (show (3 : Int32) ≤ nI 3 by decide)]
  obtain ⟨f, e⟩ : ∃ f, fu = f + 4 := ⟨fu - 4, by omega⟩
  unfold fX5_isLikeCheck fX5_isLikeCheck_2 ilV
  have e2 : ∀ {B : (hs_T × Nat × Int32 × Int32 × Int32 → Option (Int32 × hs_T)) → hs_T × Nat × Int32 × Int32 × Int32 → Option (Int32 × hs_T)} {s : hs_T × Nat × Int32 × Int32 × Int32}, hs_lp B fu s = hs_lp B (f + 4) s := by rw [e]; exact fun {_ _} => rfl
  rw [e2]
  rw [pb_lp0]
  refine (step 0 (by decide) _).trans ?_
  by_cases h0 : hs_R x (n + 4) 0 + 1 = a ∧ hs_R x (n + 5) 0 = b
  · rw [if_pos h0, if_pos h0]
  rw [if_neg h0, if_neg h0]
  refine (step 1 (by decide) _).trans ?_
  by_cases h1 : hs_R x (n + 4) 1 + 1 = a ∧ hs_R x (n + 5) 1 = b
  · rw [if_pos h1, if_pos h1]
  rw [if_neg h1, if_neg h1]
  refine (step 2 (by decide) _).trans ?_
  by_cases h2 : hs_R x (n + 4) 2 + 1 = a ∧ hs_R x (n + 5) 2 = b
  · rw [if_pos h2, if_pos h2]
  rw [if_neg h2, if_neg h2]
  rw [pb_lp0]
  exact last _
/-- i letters are counted -/
def clX (sv pl : Nat → Nat) (a b : Nat → Int32) (x : hs_T) : Nat → hs_T
  | 0 => x
  | i + 1 => hs_wF (clX sv pl a b x i) 13 (sv (pl i)) (hs_F (clX sv pl a b x i) 13 (sv (pl i)) + ilV x (sv (pl i)) (a i) (b i))
def cnV (sv pl : Nat → Nat) (a b : Nat → Int32) (x : hs_T) (p k : Nat) : Int32 := if pl k = p then ilV x (sv p) (a k) (b k) else 0
theorem clX_is {pl : Nat → Nat} {a b : Nat → Int32} {lt : Nat} (hinj : ∀ p q, p < 3 * T → q < 3 * T → sv p = sv q → p = q) (hpl : ∀ i, i < lt → pl i < 3 * T) : ∀ i, i ≤ lt → (clX sv pl a b x i).1 = x.1 ∧ (clX sv pl a b x i).2.2 = x.2.2 ∧ (∀ k q, (k ≠ 13 ∨ ∀ p, p < 3 * T → q ≠ sv p) → hs_F (clX sv pl a b x i) k q = hs_F x k q) ∧ ∀ p, p < 3 * T → hs_F (clX sv pl a b x i) 13 (sv p) = hs_F x 13 (sv p) + sm (cnV sv pl a b x p) i := by
  intro i
  induction i with
  | zero => exact fun _ => ⟨rfl, rfl, fun _ _ _ => rfl, fun p _ => (Int32.add_zero _).symm⟩
  | succ i ih =>
    intro hi
    obtain ⟨a1, a2, a3, a4⟩ := ih (by omega)
    have e : clX sv pl a b x (i + 1) = hs_wF (clX sv pl a b x i) 13 (sv (pl i)) (hs_F (clX sv pl a b x i) 13 (sv (pl i)) + ilV x (sv (pl i)) (a i) (b i)) := rfl
    have hp := hpl i (by omega)
    rw [e]
    refine ⟨a1, a2, fun k q hk => ?_, fun p hp2 => ?_⟩
    · rw [pb_F_wF, if_neg]
      · exact a3 k q hk
      · rintro ⟨z1, z2⟩
        rcases hk with hk | hk
        · exact hk z1
        · exact hk _ hp z2
    · show _ = _ + (sm (cnV sv pl a b x p) i + cnV sv pl a b x p i)
      rw [pb_F_wF]
      unfold cnV
      by_cases q : pl i = p
      · subst q
        rw [if_pos ⟨rfl, rfl⟩, if_pos rfl, a4 _ hp, Int32.add_assoc]
        rfl
      · rw [if_neg (fun z => q (hinj _ _ hp2 hp z.2).symm), if_neg q, Int32.add_zero]
        exact a4 p hp2
theorem rd_like (hC : cS x) (hV : rV T sv x) (h5 : T ≤ 5) (n4 : hs_F x 2 2 = nI (3 * T)) {lt : Nat} (hlt : lt ≤ 400) (h12 : hs_F x 3 12 = nI lt) {pl : Nat → Nat} (hpl : ∀ i, i < lt → pl i < 3 * T ∧ hs_R x 13 i = nI (pl i)) (hfu : 600 < fu) : fX2_countLikeChecks fu x 12 2 = some ((), clX sv pl (hs_R x 14) (hs_R x 15) x lt) := by
  have hinj : ∀ p q, p < 3 * T → q < 3 * T → sv p = sv q → p = q := fun p q h1 h2 e => (sv_row (hV.1 p h1) (hV.1 q h2) (by omega) (by omega) (i := 0) (j := 0) (by decide) (by decide) (by omega)).2.2
  have hsv : ∀ k q, q < 17 → (k ≠ 13 ∨ ∀ p, p < 3 * T → q ≠ sv p) := fun k q hq => Or.inr (fun p hp2 => by have := (hV.1 p hp2).1; omega)
  unfold fX2_countLikeChecks fX2_countLikeChecks_2
  refine pb_lpz (fun j => (clX sv pl (hs_R x 14) (hs_R x 15) x j, 12, 2, nI j)) lt rfl ?_ ?_ (by omega)
  · intro k j hj
    obtain ⟨a1, a2, a3, a4⟩ := clX_is (a := hs_R x 14) (b := hs_R x 15) (x := x) hinj (fun i hi => (hpl i hi).1) j (by omega)
    have eS : clX sv pl (hs_R x 14) (hs_R x 15) x (j + 1) = hs_wF (clX sv pl (hs_R x 14) (hs_R x 15) x j) 13 (sv (pl j)) (hs_F (clX sv pl (hs_R x 14) (hs_R x 15) x j) 13 (sv (pl j)) + ilV x (sv (pl j)) (hs_R x 14 j) (hs_R x 15 j)) := rfl
    dsimp only
    rw [eS]
    generalize clX sv pl (hs_R x 14) (hs_R x 15) x j = y at a1 a2 a3 a4 ⊢
    have hG : y.2.2.1 = x.2.2.1 := by rw [a2]
    have hR : hs_R y = hs_R x := by show y.2.2.2.1 = x.2.2.2.1; rw [a2]
    have hO : y.2.2.2.2 = x.2.2.2.2 := by rw [a2]
    have hCy := cS_of a1 hG hC
    obtain ⟨hp1, hp2⟩ := hpl j hj
    have hVy : rV T sv y := ⟨fun p hp3 => sB_of2 a1 hG (a3 _ _ (Or.inl (by decide))) (a3 _ _ (Or.inl (by decide))) (hV.1 p hp3), lS_of a1 hG hO (a3 _ _ (Or.inl (by decide))) hV.2⟩
    have hB := hVy.1 _ hp1
    have hil : ilV y (sv (pl j)) (hs_R x 14 j) (hs_R x 15 j) = ilV x (sv (pl j)) (hs_R x 14 j) (hs_R x 15 j) := by
      unfold ilV
      rw [hR]
    unfold fX2_countLikeChecks_2b
    rw [c_gI12 hCy, pb_bind, a3 3 12 (Or.inl (by decide)), h12, if_neg (nI_ge hj (by omega)), c_g0_12 hCy, pb_bind, c_ld13 hCy (by omega), pb_bind, hR, hp2, c_ck2 hCy, pb_bind]
    unfold fJx4a65c_size_8abf5
    rw [c_gI2 hCy, pb_bind, pb_b2, a3 2 2 (Or.inl (by decide)), n4, if_neg (nI_ge hp1 (by omega)), c_g0_12 hCy, pb_bind, c_ld13 hCy (by omega), pb_bind, hR, hp2, c_ck2 hCy, pb_bind, c_svc hCy hVy hp1, pb_b2, pb_ms, s_ck hB, pb_bind, s_gI hB, pb_bind, c_g1_12 hCy, pb_bind, c_ld14 hCy (by omega), pb_bind, c_g2_12 hCy, pb_bind, c_ld15 hCy (by omega), pb_bind, pb_bind, hR, c_isLike hB hfu, pb_b2, hil]
    unfold fX2_countLikeChecks_66
    rcases ilV_b (x := x) (n := sv (pl j)) (a := hs_R x 14 j) (b := hs_R x 15 j) with e | e
    · rw [e, if_pos rfl, s_pI hB, pb_bind, nI_1]
    · rw [e, if_neg o_nz, s_pI hB, pb_bind, nI_1]
  · intro k
    obtain ⟨a1, a2, a3, a4⟩ := clX_is (a := hs_R x 14) (b := hs_R x 15) (x := x) hinj (fun i hi => (hpl i hi).1) lt (Nat.le_refl _)
    have hG : (clX sv pl (hs_R x 14) (hs_R x 15) x lt).2.2.1 = x.2.2.1 := by rw [a2]
    have hCy := cS_of a1 hG hC
    dsimp only
    unfold fX2_countLikeChecks_2b
    rw [c_gI12 hCy, pb_bind, a3 3 12 (Or.inl (by decide)), h12, if_pos (nI_le (Nat.le_refl _) (by omega))]
end RdLike
