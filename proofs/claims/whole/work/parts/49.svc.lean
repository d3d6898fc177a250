/-! Pure part 20: a service's round -/
section SvcRound
variable {c T Rd nh fu n p i j : Nat} {st sv hn hb hp hr : Nat → Nat} {x x' m m' : hs_T}
theorem ck_all (h : ckI Rd p n st x m) (hp15 : p < 15) (hRd : Rd < 100) (hfu : 600 < fu) : ∃ x' m' up, b01 up ∧ fX7_writeChecks fu x 0 n = some (up, x') ∧ fX8_checks fu m 0 (nI Rd) (nI p) = some (up, m') ∧ ckI Rd p n st x' m' ∧ frW x n x' ∧ frV m p m' ∧ ∀ i, i < 3 → hs_R x' (n + 4) i = hs_R m' 22 (3 * p + i) ∧ hs_R x' (n + 5) i = hs_R m' 23 (3 * p + i) ∧ hs_R x' (n + 6) i = hs_R m' 24 (3 * p + i) ∧ hs_R x' (n + 7) i = hs_R m' 25 (3 * p + i) := by
  obtain ⟨f, rfl⟩ : ∃ f, fu = f + 4 := ⟨fu - 4, by omega⟩
  obtain ⟨x1, m1, w1, u1, a1, a2, a3, a4, a5, a6, a7, a8, a9⟩ := ck_one (fu := f + 4) (i := 0) h hp15 hRd (by decide) (wp := 0) (up := 1) (Or.inl rfl) (Or.inr rfl) hfu
  obtain ⟨x2, m2, w2, u2, b1, b2, b3, b4, b5, b6, b7, b8, b9⟩ := ck_one (fu := f + 4) (i := 1) a5 hp15 hRd (by decide) a1 a2 hfu
  obtain ⟨x3, m3, w3, u3, c1, c2, c3, c4, c5, c6, c7, c8, c9⟩ := ck_one (fu := f + 4) (i := 2) b5 hp15 hRd (by decide) b1 b2 hfu
  obtain ⟨hC, hM, hB, hS, h8, -⟩ := id h
  have hmx := mxN_lt (st 1) Rd p
  have hbz : hs_bz u3 = some () := by rcases c2 with rfl | rfl; exact pb_bz0; exact pb_bz1
  refine ⟨x3, m3, u3, c2, ?_, ?_, c5, frW_tr a6 (frW_tr b6 c6), frV_tr a7 (frV_tr b7 c7), fun i hi => ?_⟩
  · unfold fX7_writeChecks
    rw [c_gI0 hC, pb_bind, h8, c_ck0 hC, pb_bind, c_mix hC hS hB (by omega) hp15, pb_b2, il 6, n_rem (by omega) (by decide) (by decide)]
    unfold fX7_writeChecks_24
    rw [pb_lp0]
    refine (a3 _).trans ?_
    try dsimp only
    rw [pb_lp0]
    refine (b3 _).trans ?_
    try dsimp only
    rw [pb_lp0]
    refine (c3 _).trans ?_
    try dsimp only
    rw [pb_lp0]
    try dsimp only
    unfold fX7_writeChecks_24b
    rw [if_pos (show (3 : Int32) ≤ nI (2 + 1) by decide), hbz, pb_bind]
  · unfold fX8_checks
    rw [m_ck hM, pb_bind, m_mix hM hS (by omega) hp15, pb_b2]
    unfold fX8_checks_16
    rw [pb_lp0]
    refine (a4 _).trans ?_
    try dsimp only
    rw [pb_lp0]
    refine (b4 _).trans ?_
    try dsimp only
    rw [pb_lp0]
    refine (c4 _).trans ?_
    try dsimp only
    rw [pb_lp0]
    try dsimp only
    unfold fX8_checks_16b
    rw [if_pos (show (3 : Int32) ≤ nI (2 + 1) by decide), hbz, pb_bind]
  · rcases (show i = 0 ∨ i = 1 ∨ i = 2 by omega) with rfl | rfl | rfl
    · rw [(c9 0 (by decide)).1 4 (by decide) (by decide), (c9 0 (by decide)).1 5 (by decide) (by decide), (c9 0 (by decide)).1 6 (by decide) (by decide), (c9 0 (by decide)).1 7 (by decide) (by decide), (c9 0 (by decide)).2 22 (by decide) (by decide), (c9 0 (by decide)).2 23 (by decide) (by decide), (c9 0 (by decide)).2 24 (by decide) (by decide), (c9 0 (by decide)).2 25 (by decide) (by decide), (b9 0 (by decide)).1 4 (by decide) (by decide), (b9 0 (by decide)).1 5 (by decide) (by decide), (b9 0 (by decide)).1 6 (by decide) (by decide), (b9 0 (by decide)).1 7 (by decide) (by decide), (b9 0 (by decide)).2 22 (by decide) (by decide), (b9 0 (by decide)).2 23 (by decide) (by decide), (b9 0 (by decide)).2 24 (by decide) (by decide), (b9 0 (by decide)).2 25 (by decide) (by decide)]
      exact a8
    · rw [(c9 1 (by decide)).1 4 (by decide) (by decide), (c9 1 (by decide)).1 5 (by decide) (by decide), (c9 1 (by decide)).1 6 (by decide) (by decide), (c9 1 (by decide)).1 7 (by decide) (by decide), (c9 1 (by decide)).2 22 (by decide) (by decide), (c9 1 (by decide)).2 23 (by decide) (by decide), (c9 1 (by decide)).2 24 (by decide) (by decide), (c9 1 (by decide)).2 25 (by decide) (by decide)]
      exact b8
    · exact c8
def pr9 (x m : hs_T) (n q : Nat) : Prop := (hs_G x 9 n = none ∧ hs_R m 4 q = nI 0) ∨ ∃ g, hs_G x 9 n = some g ∧ pG x m g q
/-- service q, while the round's services ahead of j are through -/
def wQ (j Rd q n : Nat) (x m : hs_T) : Prop := hs_R m 5 q = nI 0 ∧ (q < j → hs_G x 10 n = none ∧ pr9 x m n q) ∧ (j ≤ q → (∃ g, hs_G x 10 n = some g ∧ pG x m g q) ∨ (hs_G x 10 n = none ∧ pr9 x m n q)) ∧
  (∀ c, c < 8 → ∃ v, v < 10000 ∧ hs_R x (n + 1) c = nI v ∧ hs_R m 8 (8 * q + c) = nI v) ∧ hs_F x 11 n = hs_R m 10 q ∧ hs_F x 12 n = hs_R m 11 q ∧
  (j ≤ q → hs_R m 12 q = hs_R x (n + 2) Rd) ∧ (q < j → ∃ u, u < 2 ∧ hs_R m 21 (15 * Rd + q) = nI u ∧ hs_R x (n + 2) (Rd + 1) = hs_R x (n + 2) Rd + nI u ∧ hs_R m 12 q = hs_R x (n + 2) (Rd + 1)) ∧
  (hs_R x (n + 2) 0 = nI 0 ∧ ∀ r, r < Rd → ∃ u, u < 2 ∧ hs_R m 21 (15 * r + q) = nI u ∧ hs_R x (n + 2) (r + 1) = hs_R x (n + 2) r + nI u) ∧
  (q < j → ∀ i, i < 3 → hs_R x (n + 4) i = hs_R m 22 (3 * q + i) ∧ hs_R x (n + 5) i = hs_R m 23 (3 * q + i) ∧ hs_R x (n + 6) i = hs_R m 24 (3 * q + i) ∧ hs_R x (n + 7) i = hs_R m 25 (3 * q + i)) ∧ (q < j → hs_F x 13 n = nI 0)
def wS (j T Rd : Nat) (st sv : Nat → Nat) (x m : hs_T) : Prop := cS x ∧ mS m ∧ rS st x m ∧ rV T sv x ∧ (hs_F x 8 0 = nI Rd ∧ hs_F m 1 0 = nI Rd ∧ hs_F m 0 0 = nI T ∧ hs_F x 2 2 = nI (3 * T)) ∧ (∃ fa, fa < 1000000 ∧ hs_F x 5 9 = nI fa ∧ hs_F m 21 0 = nI fa) ∧ (∀ i, i < 18 → hs_R m 26 i = hs_t3 i) ∧ ∀ q, q < 3 * T → wQ j Rd q (sv q) x m
def frT (x : hs_T) (n : Nat) (x' : hs_T) : Prop := x'.1 = x.1 ∧ x'.2.2.2.2 = x.2.2.2.2 ∧ (∀ k q, ¬ (q = n ∧ (k = 9 ∨ k = 10)) → hs_G x' k q = hs_G x k q) ∧ (∀ k q, q ≠ 9 → ¬ (q = n ∧ (k = 11 ∨ k = 12 ∨ k = 13)) → hs_F x' k q = hs_F x k q) ∧ ∀ q, q ≠ 10 → q ≠ 11 → q ≠ n + 1 → q ≠ n + 2 → q ≠ n + 4 → q ≠ n + 5 → q ≠ n + 6 → q ≠ n + 7 → hs_R x' q = hs_R x q
def frU (Rd : Nat) (m : hs_T) (p : Nat) (m' : hs_T) : Prop := m'.1 = m.1 ∧ m'.2.2.1 = m.2.2.1 ∧ (∀ k, k ≠ 19 → k ≠ 20 → k ≠ 21 → hs_F m' k 0 = hs_F m k 0) ∧ (∀ a, a ≠ 8 → a ≠ 9 → a ≠ 10 → a ≠ 11 → a ≠ 12 → a ≠ 14 → a ≠ 21 → a ≠ 22 → a ≠ 23 → a ≠ 24 → a ≠ 25 → hs_R m' a = hs_R m a) ∧ (∀ i, (i < 8 * p ∨ 8 * p + 8 ≤ i) → hs_R m' 8 i = hs_R m 8 i) ∧ (∀ q, q ≠ p → hs_R m' 10 q = hs_R m 10 q ∧ hs_R m' 11 q = hs_R m 11 q ∧ hs_R m' 12 q = hs_R m 12 q) ∧ (∀ i, i ≠ 15 * Rd + p → hs_R m' 21 i = hs_R m 21 i) ∧ ∀ a, 22 ≤ a → a ≤ 25 → ∀ i, (i < 3 * p ∨ 3 * p + 3 ≤ i) → hs_R m' a i = hs_R m a i
theorem pQ_T {g q len k0 : Nat} {sg nm : Nat → Nat} (hB : sB x k0 p) (fx : frT x k0 x') (fm : frU Rd m p m') (hQ : pQ x m g q len sg nm) : pQ x' m' g q len sg nm := by
  obtain ⟨f1, f2, f3, f4, f5⟩ := fx
  obtain ⟨e1, e2, e3, e4, -⟩ := fm
  obtain ⟨q1, q2, q3, q4, q5, q6, q7, q8, q9, q10, q11, q12, q13, q14⟩ := id hQ
  have hg : g ≠ k0 := fun z => pQ_row hQ hB (j := 0) (k := 0) (by decide) (by decide) (by omega)
  refine ⟨q1, by rw [hs_N_of f1]; exact q2, by rw [hs_K_of f1]; exact q3, by rw [hs_K_of f1]; exact q4, by rw [hs_K_of f1]; exact q5, by rw [f3 _ _ (fun z => hg z.1)]; exact q6, by rw [f3 _ _ (fun z => hg z.1)]; exact q7, q8, q9, by rw [f4 _ _ (by omega) (fun z => hg z.1)]; exact q10, by rw [e4 4 (by decide) (by decide) (by decide) (by decide) (by decide) (by decide) (by decide) (by decide) (by decide) (by decide) (by decide)]; exact q11, by rw [hs_L_of f1]; exact q12, by rw [hs_L_of f1]; exact q13, fun k hk => ?_⟩
  rw [f5 (g + 1) (by omega) (by omega) (pQ_row hQ hB (by decide) (by decide)) (pQ_row hQ hB (by decide) (by decide)) (pQ_row hQ hB (by decide) (by decide)) (pQ_row hQ hB (by decide) (by decide)) (pQ_row hQ hB (by decide) (by decide)) (pQ_row hQ hB (by decide) (by decide)), f5 (g + 2) (by omega) (by omega) (pQ_row hQ hB (by decide) (by decide)) (pQ_row hQ hB (by decide) (by decide)) (pQ_row hQ hB (by decide) (by decide)) (pQ_row hQ hB (by decide) (by decide)) (pQ_row hQ hB (by decide) (by decide)) (pQ_row hQ hB (by decide) (by decide)), e4 2 (by decide) (by decide) (by decide) (by decide) (by decide) (by decide) (by decide) (by decide) (by decide) (by decide) (by decide), e4 3 (by decide) (by decide) (by decide) (by decide) (by decide) (by decide) (by decide) (by decide) (by decide) (by decide) (by decide)]
  exact q14 k hk
/-- another service -/
theorem wQ_other {q nq k0 : Nat} (hne : q ≠ j) (hq15 : q < 15) (hj15 : j < 15) (hRd : Rd < 100) (hBq : sB x nq q) (hB : sB x k0 j) (fx : frT x k0 x') (fm : frU Rd m j m') (h : wQ j Rd q nq x m) : wQ (j + 1) Rd q nq x' m' := by
  have hpQ : ∀ g, pG x m g q → pG x' m' g q := fun g ⟨len, sg, nm, z⟩ => ⟨len, sg, nm, pQ_T hB fx fm z⟩
  have hn : nq ≠ k0 := fun z => hne (sv_row hBq hB hq15 hj15 (i := 0) (j := 0) (by decide) (by decide) (by omega)).2.2
  have hrow : ∀ a b, a ≤ 7 → b ≤ 7 → nq + a ≠ k0 + b := fun a b ha hb z => hne (sv_row hBq hB hq15 hj15 ha hb z).2.2
  obtain ⟨f1, f2, f3, f4, f5⟩ := fx
  obtain ⟨e1, e2, e3, e4, e5, e6, e7, e8⟩ := fm
  have hn17 := hBq.1
  have hRx : ∀ a, a ≤ 7 → hs_R x' (nq + a) = hs_R x (nq + a) := fun a ha => f5 _ (by omega) (by omega) (hrow a 1 ha (by decide)) (hrow a 2 ha (by decide)) (hrow a 4 ha (by decide)) (hrow a 5 ha (by decide)) (hrow a 6 ha (by decide)) (hrow a 7 ha (by decide))
  have hG : ∀ k, hs_G x' k nq = hs_G x k nq := fun k => f3 k nq (fun z => hn z.1)
  have hF : ∀ k, hs_F x' k nq = hs_F x k nq := fun k => f4 k nq (by omega) (fun z => hn z.1)
  have h9 : pr9 x m nq q → pr9 x' m' nq q := by
    unfold pr9
    rw [hG, e4 4 (by decide) (by decide) (by decide) (by decide) (by decide) (by decide) (by decide) (by decide) (by decide) (by decide) (by decide)]
    exact fun z => z.imp id (fun ⟨g, z1, z2⟩ => ⟨g, z1, hpQ g z2⟩)
  have hl : q < j + 1 → q < j := by omega
  have hge : j + 1 ≤ q → j ≤ q := by omega
  have i8 : ∀ c, c < 8 → (8 * q + c < 8 * j ∨ 8 * j + 8 ≤ 8 * q + c) := by intro c hc; omega
  have i21 : ∀ r, r ≤ Rd → 15 * r + q ≠ 15 * Rd + j := by intro r hr2; omega
  have i22 : ∀ i, i < 3 → (3 * q + i < 3 * j ∨ 3 * j + 3 ≤ 3 * q + i) := by intro i hi; omega
  obtain ⟨w1, w2, w3, w4, w5, w6, w7, w8, w9, w10, w11⟩ := h
  refine ⟨?_, fun hq => ?_, fun hq => ?_, ?_, ?_, ?_, fun hq => ?_, fun hq => ?_, ⟨?_, fun r hr2 => ?_⟩, fun hq i hi => ?_, fun hq => ?_⟩
  · rw [e4 5 (by decide) (by decide) (by decide) (by decide) (by decide) (by decide) (by decide) (by decide) (by decide) (by decide) (by decide)]; exact w1
  · rw [hG]
    exact ⟨(w2 (hl hq)).1, h9 (w2 (hl hq)).2⟩
  · rw [hG]
    exact (w3 (hge hq)).imp (fun ⟨g, z1, z2⟩ => ⟨g, z1, hpQ g z2⟩) (fun z => ⟨z.1, h9 z.2⟩)
  · intro c hc8
    rw [hRx 1 (by decide), e5 _ (i8 c hc8)]
    exact w4 c hc8
  · rw [hF, (e6 q hne).1]; exact w5
  · rw [hF, (e6 q hne).2.1]; exact w6
  · rw [hRx 2 (by decide), (e6 q hne).2.2]; exact w7 (hge hq)
  · rw [hRx 2 (by decide), (e6 q hne).2.2, e7 _ (i21 Rd (Nat.le_refl _))]; exact w8 (hl hq)
  · rw [hRx 2 (by decide)]; exact w9.1
  · rw [hRx 2 (by decide), e7 _ (i21 r (Nat.le_of_lt hr2))]; exact w9.2 r hr2
  · rw [hRx 4 (by decide), hRx 5 (by decide), hRx 6 (by decide), hRx 7 (by decide), e8 22 (by decide) (by decide) _ (i22 i hi), e8 23 (by decide) (by decide) _ (i22 i hi), e8 24 (by decide) (by decide) _ (i22 i hi), e8 25 (by decide) (by decide) _ (i22 i hi)]
    exact w10 (hl hq) i hi
  · rw [hF]; exact w11 (hl hq)
theorem c_take (hB : sB x n p) (hg : ∀ g, hs_G x 10 n = some g → g < hs_N x) : ∃ x1, fX5_takePatch fu x n = some ((), x1) ∧ ((hs_G x 10 n = none ∧ x1 = x) ∨ ∃ g, hs_G x 10 n = some g ∧ x1 = hs_wG (hs_wG x 9 n (some g)) 10 n none) := by
  unfold fX5_takePatch
  rw [s_gR hB, pb_bind]
  cases e : hs_G x 10 n with
  | none => exact ⟨x, by rw [pb_mn], Or.inl ⟨rfl, rfl⟩⟩
  | some g => exact ⟨_, by rw [pb_ms, pb_bind, pb_ms, s_pS hB (hg g e), pb_bind, s_pN (x := hs_wG x 9 n (some g)) hB, pb_bind], Or.inr ⟨g, rfl, rfl⟩⟩
end SvcRound
