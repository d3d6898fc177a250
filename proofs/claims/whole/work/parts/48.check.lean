/-! Pure part 19: one check -/
section Check
variable {c T Rd nh fu n p i : Nat} {st sv hn hb hp hr : Nat → Nat} {x x' m m' : hs_T}
theorem wR_ne {σ : hs_T} {q i' a : Nat} {v : Int32} (h : a ≠ q) : hs_R (hs_wR σ q i' v) a = hs_R σ a := hs_up_row_ne h
def wpN (w wp : Int32) : Int32 := if wp = 0 then (if w = 1 then 1 else 0) else 1
def upN (up rt : Int32) : Int32 := if up = 0 then 0 else (if rt = 0 then 0 else 1)
def b01 (v : Int32) : Prop := v = 0 ∨ v = 1
theorem wpN_b {w wp : Int32} : b01 (wpN w wp) := by
  unfold wpN b01
  by_cases h : wp = 0
  · rw [if_pos h]
    by_cases h2 : w = 1
    · rw [if_pos h2]; exact Or.inr rfl
    · rw [if_neg h2]; exact Or.inl rfl
  · rw [if_neg h]; exact Or.inr rfl
theorem upN_b {up rt : Int32} : b01 (upN up rt) := by
  unfold upN b01
  by_cases h : up = 0
  · rw [if_pos h]; exact Or.inl rfl
  · rw [if_neg h]
    by_cases h2 : rt = 0
    · rw [if_pos h2]; exact Or.inl rfl
    · rw [if_neg h2]; exact Or.inr rfl
def ckI (Rd p n : Nat) (st : Nat → Nat) (x m : hs_T) : Prop := cS x ∧ mS m ∧ sB x n p ∧ rS st x m ∧ hs_F x 8 0 = nI Rd ∧ ((hs_G x 9 n = none ∧ hs_R m 4 p = nI 0) ∨ ∃ g, hs_G x 9 n = some g ∧ pG x m g p) ∧ (∀ c, c < 8 → ∃ v, v < 10000 ∧ hs_R x (n + 1) c = nI v ∧ hs_R m 8 (8 * p + c) = nI v) ∧ (∃ fa, fa < 1000000 ∧ hs_F x 5 9 = nI fa ∧ hs_F m 21 0 = nI fa) ∧ hs_F x 11 n = hs_R m 10 p ∧ hs_F x 12 n = hs_R m 11 p ∧ ∀ i, i < 18 → hs_R m 26 i = hs_t3 i
def frW (x : hs_T) (n : Nat) (x' : hs_T) : Prop := x'.1 = x.1 ∧ x'.2.2.1 = x.2.2.1 ∧ x'.2.2.2.2 = x.2.2.2.2 ∧ (∀ k q, q ≠ 9 → ¬ (q = n ∧ (k = 11 ∨ k = 12)) → hs_F x' k q = hs_F x k q) ∧ ∀ q, q ≠ 10 → q ≠ 11 → q ≠ n + 1 → q ≠ n + 4 → q ≠ n + 5 → q ≠ n + 6 → q ≠ n + 7 → hs_R x' q = hs_R x q
def frV (m : hs_T) (p : Nat) (m' : hs_T) : Prop := m'.1 = m.1 ∧ m'.2.2.1 = m.2.2.1 ∧ m'.2.2.2.2 = m.2.2.2.2 ∧ (∀ k, k ≠ 19 → k ≠ 20 → k ≠ 21 → hs_F m' k 0 = hs_F m k 0) ∧ (∀ a, a ≠ 8 → a ≠ 9 → a ≠ 10 → a ≠ 11 → a ≠ 14 → a ≠ 22 → a ≠ 23 → a ≠ 24 → a ≠ 25 → hs_R m' a = hs_R m a) ∧ (∀ i, (i < 8 * p ∨ 8 * p + 8 ≤ i) → hs_R m' 8 i = hs_R m 8 i) ∧ (∀ q, q ≠ p → hs_R m' 10 q = hs_R m 10 q ∧ hs_R m' 11 q = hs_R m 11 q) ∧ ∀ a, 22 ≤ a → a ≤ 25 → ∀ i, (i < 3 * p ∨ 3 * p + 3 ≤ i) → hs_R m' a i = hs_R m a i
theorem frW_rf : frW x n x := ⟨rfl, rfl, rfl, fun _ _ _ _ => rfl, fun _ _ _ _ _ _ _ _ => rfl⟩
theorem frV_rf : frV m p m := ⟨rfl, rfl, rfl, fun _ _ _ _ => rfl, fun _ _ _ _ _ _ _ _ _ _ => rfl, fun _ _ => rfl, fun _ _ => ⟨rfl, rfl⟩, fun _ _ _ _ _ => rfl⟩
theorem frW_tr {y : hs_T} (h : frW x n y) (g : frW y n x') : frW x n x' := ⟨g.1.trans h.1, g.2.1.trans h.2.1, g.2.2.1.trans h.2.2.1, fun k q a b => (g.2.2.2.1 k q a b).trans (h.2.2.2.1 k q a b), fun q a b c d e f u => (g.2.2.2.2 q a b c d e f u).trans (h.2.2.2.2 q a b c d e f u)⟩
theorem frV_tr {y : hs_T} (h : frV m p y) (g : frV y p m') : frV m p m' := by
  obtain ⟨a1, a2, a3, a4, a5, a6, a7, a8⟩ := h
  obtain ⟨b1, b2, b3, b4, b5, b6, b7, b8⟩ := g
  exact ⟨b1.trans a1, b2.trans a2, b3.trans a3, fun k x y z => (b4 k x y z).trans (a4 k x y z), fun a x1 x2 x3 x4 x5 x6 x7 x8 x9 => (b5 a x1 x2 x3 x4 x5 x6 x7 x8 x9).trans (a5 a x1 x2 x3 x4 x5 x6 x7 x8 x9), fun i hi => (b6 i hi).trans (a6 i hi), fun q hq => ⟨(b7 q hq).1.trans (a7 q hq).1, (b7 q hq).2.trans (a7 q hq).2⟩, fun a h1 h2 i hi => (b8 a h1 h2 i hi).trans (a8 a h1 h2 i hi)⟩
theorem frW_D (h : frD x n x') : frW x n x' := ⟨h.1, h.2.1, h.2.2.1, h.2.2.2.1, fun q a b c _ _ _ _ => h.2.2.2.2 q a b c⟩
theorem frV_E (h : frE m p m') : frV m p m' := by
  obtain ⟨a1, a2, a3, a4, a5, a6, a7⟩ := h
  exact ⟨a1, a2, a3, a4, fun a x1 x2 x3 x4 x5 _ _ _ _ => a5 a x1 x2 x3 x4 x5, a6, a7, fun a h1 h2 i _ => congrFun (a5 a (by omega) (by omega) (by omega) (by omega) (by omega)) i⟩
theorem frW_R {j : Nat} {v : Int32} (hj : j = 4 ∨ j = 5 ∨ j = 6 ∨ j = 7) : frW x n (hs_wR x (n + j) i v) := ⟨rfl, rfl, rfl, fun _ _ _ _ => rfl, fun q _ _ _ h4 h5 h6 h7 => hs_up_row_ne (by omega)⟩
theorem frV_R {a k : Nat} {v : Int32} (ha : 22 ≤ a) (ha2 : a ≤ 25) (hk : 3 * p ≤ k) (hk2 : k < 3 * p + 3) : frV m p (hs_wR m a k v) := ⟨rfl, rfl, rfl, fun _ _ _ _ => rfl, fun b _ _ _ _ _ h22 h23 h24 h25 => hs_up_row_ne (by omega), fun j _ => by rw [pb_R_wR, if_neg (by omega)], fun q _ => ⟨by rw [pb_R_wR, if_neg (by omega)], by rw [pb_R_wR, if_neg (by omega)]⟩, fun b h1 h2 j hj => by rw [pb_R_wR, if_neg (by omega)]⟩
theorem rS_of2 (h1 : hs_R x' 1 = hs_R x 1) (h2 : hs_R m' 13 = hs_R m 13) (h : rS st x m) : rS st x' m' := ⟨fun w hw => by rw [h1, h2]; exact h.1 w hw, h.2⟩
/-- the rows of the checks change: all else stays -/
theorem ckI_of (h : ckI Rd p n st x m) (x1 : x'.1 = x.1) (x2 : x'.2.2.1 = x.2.2.1) (xF : ∀ k q, hs_F x' k q = hs_F x k q) (xR : ∀ q, q ≠ n + 4 → q ≠ n + 5 → q ≠ n + 6 → q ≠ n + 7 → hs_R x' q = hs_R x q) (m1 : m'.1 = m.1) (m2 : m'.2.2.1 = m.2.2.1) (mF : ∀ k, hs_F m' k 0 = hs_F m k 0) (mR : ∀ a, a ≠ 22 → a ≠ 23 → a ≠ 24 → a ≠ 25 → hs_R m' a = hs_R m a) : ckI Rd p n st x' m' := by
  obtain ⟨hC, hM, hB, hS, h8, hP, hc, hf, h11, h12, hO⟩ := h
  have hn := hB.1
  have eG : hs_G x' = hs_G x := x2
  refine ⟨cS_of x1 x2 hC, mS_of m1 m2 hM, sB_of2 x1 x2 (xF _ _) (xF _ _) hB, rS_of2 (xR 1 (by omega) (by omega) (by omega) (by omega)) (mR 13 (by decide) (by decide) (by decide) (by decide)) hS, by rw [xF]; exact h8, ?_, ?_, ?_, ?_, ?_, ?_⟩
  · rw [eG, mR 4 (by decide) (by decide) (by decide) (by decide)]
    refine hP.imp id ?_
    rintro ⟨g, e, len, sg, nm, q⟩
    refine ⟨g, e, len, sg, nm, pQ_of x1 x2 (xF _ _) (xR _ (pQ_row q hB (by decide) (by decide)) (pQ_row q hB (by decide) (by decide)) (pQ_row q hB (by decide) (by decide)) (pQ_row q hB (by decide) (by decide))) (xR _ (pQ_row q hB (by decide) (by decide)) (pQ_row q hB (by decide) (by decide)) (pQ_row q hB (by decide) (by decide)) (pQ_row q hB (by decide) (by decide))) (congrFun (mR 4 (by decide) (by decide) (by decide) (by decide)) p) (fun k _ => congrFun (mR 2 (by decide) (by decide) (by decide) (by decide)) _) (fun k _ => congrFun (mR 3 (by decide) (by decide) (by decide) (by decide)) _) q⟩
  · rw [xR (n + 1) (by omega) (by omega) (by omega) (by omega), mR 8 (by decide) (by decide) (by decide) (by decide)]
    exact hc
  · rw [xF, mF]; exact hf
  · rw [xF, mR 10 (by decide) (by decide) (by decide) (by decide)]; exact h11
  · rw [xF, mR 11 (by decide) (by decide) (by decide) (by decide)]; exact h12
  · rw [mR 26 (by decide) (by decide) (by decide) (by decide)]; exact hO
/-- a letter: what it leaves -/
theorem ckI_dl (h : ckI Rd p n st x m) (hp15 : p < 15) (fx : frD x n x') (fm : frE m p m') (hc : ∀ c, c < 8 → ∃ v, v < 10000 ∧ hs_R x' (n + 1) c = nI v ∧ hs_R m' 8 (8 * p + c) = nI v) (hf : ∃ fa, fa < 1000000 ∧ hs_F x' 5 9 = nI fa ∧ hs_F m' 21 0 = nI fa) (h11 : hs_F x' 11 n = hs_R m' 10 p) (h12 : hs_F x' 12 n = hs_R m' 11 p) : ckI Rd p n st x' m' := by
  obtain ⟨hC, hM, hB, hS, h8, hP, -, -, -, -, hO⟩ := h
  obtain ⟨x1, x2, x3, xF, xR⟩ := fx
  obtain ⟨m1, m2, m3, mF, mR, m8, m10⟩ := fm
  have hn := hB.1
  have eG : hs_G x' = hs_G x := x2
  refine ⟨cS_of x1 x2 hC, mS_of m1 m2 hM, sB_of2 x1 x2 (xF _ _ (by omega) (by omega)) (xF _ _ (by omega) (by omega)) hB, rS_of2 (xR 1 (by omega) (by omega) (by omega)) (mR 13 (by decide) (by decide) (by decide) (by decide) (by decide)) hS, by rw [xF 8 0 (by decide) (by omega)]; exact h8, ?_, hc, hf, h11, h12, ?_⟩
  · rw [eG, mR 4 (by decide) (by decide) (by decide) (by decide) (by decide)]
    refine hP.imp id ?_
    rintro ⟨g, e, len, sg, nm, q⟩
    have hg := q.1
    refine ⟨g, e, len, sg, nm, pQ_of x1 x2 (xF _ _ (by omega) (by omega)) (xR _ (by omega) (by omega) (pQ_row q hB (by decide) (by decide))) (xR _ (by omega) (by omega) (pQ_row q hB (by decide) (by decide))) (congrFun (mR 4 (by decide) (by decide) (by decide) (by decide) (by decide)) p) (fun k _ => congrFun (mR 2 (by decide) (by decide) (by decide) (by decide) (by decide)) _) (fun k _ => congrFun (mR 3 (by decide) (by decide) (by decide) (by decide) (by decide)) _) q⟩
  · rw [mR 26 (by decide) (by decide) (by decide) (by decide) (by decide)]; exact hO
def kcX (x : hs_T) (n i : Nat) (w nb ans rt : Int32) : hs_T := hs_wR (hs_wR (hs_wR (hs_wR x (n + 4) i w) (n + 5) i nb) (n + 6) i ans) (n + 7) i rt
theorem c_keep (hB : sB x n p) (hi : i < 3) {w nb ans rt : Int32} (hr : b01 rt) : fX5_keepCheck fu x n (nI i) w nb ans rt = some ((), kcX x n i w nb ans rt) := by
  unfold fX5_keepCheck
  rw [s_g5 hB, pb_bind, s_st4 hB hi, pb_bind, s_g6 (x := hs_wR x (n + 4) i w) hB, pb_bind, s_st5 (x := hs_wR x (n + 4) i w) hB hi, pb_bind, s_g7 (x := hs_wR (hs_wR x (n + 4) i w) (n + 5) i nb) hB, pb_bind, s_st6 (x := hs_wR (hs_wR x (n + 4) i w) (n + 5) i nb) hB hi, pb_bind, s_g8 (x := hs_wR (hs_wR (hs_wR x (n + 4) i w) (n + 5) i nb) (n + 6) i ans) hB, pb_bind]
  unfold fX5_keepCheck_37
  rcases hr with rfl | rfl
  · rw [if_pos rfl, s_st7 (x := hs_wR (hs_wR (hs_wR x (n + 4) i w) (n + 5) i nb) (n + 6) i ans) hB hi, pb_bind]
    rfl
  · rw [if_neg o_nz, s_st7 (x := hs_wR (hs_wR (hs_wR x (n + 4) i w) (n + 5) i nb) (n + 6) i ans) hB hi, pb_bind]
    rfl
theorem c_102 (hB : sB x n p) (hi : i < 3) {X2 X3 w nb ans rt wp up : Int32} (hr : b01 rt) {k : hs_T → Nat → Nat → Int32 → Int32 → Int32 → Int32 → Int32 → Option (Int32 × hs_T)} : fX7_writeChecks_102 fu k x 0 n X2 X3 wp up (nI i) w nb ans rt = k (kcX x n i w nb ans rt) 0 n X2 X3 (wpN w wp) (upN up rt) (nI (i + 1)) := by
  unfold fX7_writeChecks_102 fX7_writeChecks_129 fX7_writeChecks_134 wpN upN
  rw [s_ck hB, pb_bind, c_keep hB hi hr, pb_b2, nI_1]
  by_cases h1 : wp = 0 <;> by_cases h2 : w = 1 <;> by_cases h3 : up = 0 <;> by_cases h4 : rt = 0 <;> simp only [h1, h2, h3, h4, if_true, if_false]
theorem m_229 (hM : mS m) (hi : i < 3) (hp15 : p < 15) {r mx w rt wp up : Int32} (hr : b01 rt) {k : hs_T → Nat → Int32 → Int32 → Int32 → Int32 → Int32 → Int32 → Option (Int32 × hs_T)} : fX8_checks_229 fu k m 0 r (nI p) mx up wp (nI i) w (nI (3 * p + i)) rt = k (hs_wR m 25 (3 * p + i) rt) 0 r (nI p) mx (upN up rt) (wpN w wp) (nI (i + 1)) := by
  unfold fX8_checks_229 fX8_checks_242 fX8_checks_247 fX8_checks_265 wpN upN
  rw [m_g35 hM, pb_bind, pb_bind, m_st25 hM (by omega), pb_bind, m_st25 hM (by omega), pb_bind, nI_1]
  rcases hr with rfl | rfl
  · by_cases h1 : wp = 0 <;> by_cases h2 : w = 1 <;> by_cases h3 : up = 0 <;> simp only [h1, h2, h3, if_true, if_false, pb_bind]
  · by_cases h1 : wp = 0 <;> by_cases h2 : w = 1 <;> by_cases h3 : up = 0 <;> simp only [h1, h2, h3, if_true, if_false, o_nz, pb_bind]
theorem t3_is : ∀ j, j < 18 → hs_t3 j = nI 0 ∨ hs_t3 j = nI 1 ∨ hs_t3 j = nI 2 := by decide
theorem n_m1 {v : Nat} (h : v < 2 ^ 31) : ¬ nI v = -1 := by
  intro z
  have h1 := nI_pos h
  rw [z] at h1
  exact h1 (by decide)
theorem c_due0 (h : ckI Rd p n st x m) (hp15 : p < 15) {mx : Nat} (hmx : mx < 997) {wp : Int32} : fX7_dueAnswer fu x 0 (nI 0) n (nI mx) wp = some (nI ((mx + st (4 + p % 3)) % 10000), x) := by
  obtain ⟨hC, hM, hB, hS, -⟩ := h
  have q2 : hs_F x 1 n = nI (p % 3) := hB.2.2.2.2.2.2.2
  obtain ⟨hSx, s0, s1, s2, s3, s4, s5, s6, s7, s8⟩ := hS
  have hk : st (4 + p % 3) ≤ 9999 := by rcases (show p % 3 = 0 ∨ p % 3 = 1 ∨ p % 3 = 2 by omega) with e | e | e <;> rw [e] <;> assumption
  unfold fX7_dueAnswer
  rw [if_pos (show nI 0 = 0 from rfl), c_g0_0 hC, pb_bind, s_gI hB, pb_bind, q2, il 4, nI_add, c_ld1 hC (by omega), pb_bind, (hSx (4 + p % 3) (by omega)).1, nI_add, il 10000, n_rem (by omega) (by decide) (by decide)]
theorem m_key (h : ckI Rd p n st x m) (hp15 : p < 15) : hs_R m 13 (4 + p % 3) = nI (st (4 + p % 3)) ∧ st (4 + p % 3) ≤ 9999 := by
  obtain ⟨hC, hM, hB, ⟨hSx, s0, s1, s2, s3, s4, s5, s6, s7, s8⟩, -⟩ := h
  refine ⟨(hSx (4 + p % 3) (by omega)).2, ?_⟩
  rcases (show p % 3 = 0 ∨ p % 3 = 1 ∨ p % 3 = 2 by omega) with e | e | e <;> rw [e] <;> assumption
theorem c_due1 {mx : Int32} {wp : Int32} : fX7_dueAnswer fu x 0 (nI 1) n mx wp = some (nI 0, x) := by
  unfold fX7_dueAnswer
  rw [if_neg (show ¬ nI 1 = 0 by decide), if_pos (show nI 1 = 1 from rfl)]
  rfl
theorem c_due2 (h : ckI Rd p n st x m) (hp15 : p < 15) (hRd : Rd < 100) {wp : Int32} (hw : b01 wp) : fX7_dueAnswer fu x 0 (nI 2) n (nI (mxN (st 1) Rd p)) wp = some (if wp = 0 then (if Rd = 0 then -1 else nI (fgN (st 1) (Rd - 1) p)) else nI (fgN (st 1) Rd p), x) := by
  obtain ⟨hC, hM, hB, hS, h8, -⟩ := h
  unfold fX7_dueAnswer
  rw [if_neg (show ¬ nI 2 = 0 by decide), if_neg (show ¬ nI 2 = 1 by decide)]
  rcases hw with rfl | rfl
  · rw [if_pos rfl, if_pos rfl, c_gI0 hC, pb_bind, h8]
    by_cases q : Rd = 0
    · rw [if_pos (show nI Rd = 0 by rw [q]; rfl), if_pos q]
    · obtain ⟨R, rfl⟩ : ∃ R, Rd = R + 1 := ⟨Rd - 1, by omega⟩
      rw [if_neg (nI_ne0 (by omega) (by omega)), if_neg q, pb_bind, c_ck0 hC, pb_bind, nI_pred, c_mix hC hS hB (by omega) hp15, pb_b2, c_flagOf (mxN_lt _ _ _), pb_b2]
      rfl
  · rw [if_neg o_nz, if_neg o_nz, c_flagOf (mxN_lt _ _ _), pb_b2]
    rfl
/-- the right answers -/
def rtN (w : Nat) (Rd p : Nat) (st : Nat → Nat) (wp : Int32) (ans : Nat) : Int32 := if w = 0 then (if (mxN (st 1) Rd p + st (4 + p % 3)) % 10000 = ans then 1 else 0) else if w = 1 then (if 0 = ans then 1 else 0) else if wp = 0 then (if Rd = 0 then 1 else (if fgN (st 1) (Rd - 1) p = ans then 1 else 0)) else (if fgN (st 1) Rd p = ans then 1 else 0)
def nbN (w Rd p : Nat) (st : Nat → Nat) : Nat := if w = 0 then mxN (st 1) Rd p else if w = 1 then fgN (st 1) Rd p else 0
theorem rtN_b {w ans : Nat} {wp : Int32} : b01 (rtN w Rd p st wp ans) := by
  have key : ∀ (P : Prop) [Decidable P], b01 (if P then (1 : Int32) else 0) := fun P _ => by
    by_cases q : P
    · rw [if_pos q]; exact Or.inr rfl
    · rw [if_neg q]; exact Or.inl rfl
  unfold rtN
  by_cases h0 : w = 0
  · rw [if_pos h0]; exact key _
  · rw [if_neg h0]
    by_cases h1 : w = 1
    · rw [if_pos h1]; exact key _
    · rw [if_neg h1]
      by_cases h2 : wp = 0
      · rw [if_pos h2]
        by_cases h3 : Rd = 0
        · rw [if_pos h3]; exact Or.inr rfl
        · rw [if_neg h3]; exact key _
      · rw [if_neg h2]; exact key _
theorem c_after (h : ckI Rd p n st x m) (hp15 : p < 15) (hRd : Rd < 100) (hi : i < 3) {w ans : Nat} (hw : w = 0 ∨ w = 1 ∨ w = 2) (hans : ans ≤ 10002) {X3 wp up : Int32} {nb : Int32} (hwp : b01 wp) {k : hs_T → Nat → Nat → Int32 → Int32 → Int32 → Int32 → Int32 → Option (Int32 × hs_T)} : (hs_b2 (fX7_dueAnswer fu x 0 (nI w) n (nI (mxN (st 1) Rd p)) wp) fun v27 σ25 => if v27 = (-1) then fX7_writeChecks_97 fu k σ25 0 n (nI (mxN (st 1) Rd p)) X3 wp up (nI i) (nI w) nb (nI ans) else if v27 = nI ans then fX7_writeChecks_97 fu k σ25 0 n (nI (mxN (st 1) Rd p)) X3 wp up (nI i) (nI w) nb (nI ans) else fX7_writeChecks_102 fu k σ25 0 n (nI (mxN (st 1) Rd p)) X3 wp up (nI i) (nI w) nb (nI ans) 0) = k (kcX x n i (nI w) nb (nI ans) (rtN w Rd p st wp ans)) 0 n (nI (mxN (st 1) Rd p)) X3 (wpN (nI w) wp) (upN up (rtN w Rd p st wp ans)) (nI (i + 1)) := by
  have hB := h.2.2.1
  have fin : ∀ d, d < 20000 → rtN w Rd p st wp ans = (if d = ans then 1 else 0) → (if nI d = -1 then fX7_writeChecks_97 fu k x 0 n (nI (mxN (st 1) Rd p)) X3 wp up (nI i) (nI w) nb (nI ans) else if nI d = nI ans then fX7_writeChecks_97 fu k x 0 n (nI (mxN (st 1) Rd p)) X3 wp up (nI i) (nI w) nb (nI ans) else fX7_writeChecks_102 fu k x 0 n (nI (mxN (st 1) Rd p)) X3 wp up (nI i) (nI w) nb (nI ans) 0) = k (kcX x n i (nI w) nb (nI ans) (rtN w Rd p st wp ans)) 0 n (nI (mxN (st 1) Rd p)) X3 (wpN (nI w) wp) (upN up (rtN w Rd p st wp ans)) (nI (i + 1)) := by
    intro d hd e
    rw [e, if_neg (n_m1 (by omega))]
    unfold fX7_writeChecks_97
    by_cases q : d = ans
    · rw [if_pos (congrArg nI q), if_pos q]
      exact c_102 hB hi (Or.inr rfl)
    · rw [if_neg (n_ne (by omega) (by omega) q), if_neg q]
      exact c_102 hB hi (Or.inl rfl)
  rcases hw with rfl | rfl | rfl
  · rw [c_due0 h hp15 (mxN_lt _ _ _), pb_b2]
    exact fin _ (by omega) rfl
  · rw [c_due1, pb_b2]
    exact fin 0 (by decide) rfl
  · rw [c_due2 h hp15 hRd hwp, pb_b2]
    rcases hwp with rfl | rfl
    · rw [if_pos rfl]
      by_cases q : Rd = 0
      · have e : rtN 2 Rd p st 0 ans = 1 := by
          unfold rtN
          rw [if_neg (by decide), if_neg (by decide), if_pos rfl, if_pos q]
        rw [if_pos q, if_pos rfl, e]
        exact c_102 hB hi (Or.inr rfl)
      · rw [if_neg q]
        refine fin _ (by have := fgN_lt (st 1) (Rd - 1) p; omega) ?_
        unfold rtN
        rw [if_neg (by decide), if_neg (by decide), if_pos rfl, if_neg q]
    · rw [if_neg o_nz]
      refine fin _ (by have := fgN_lt (st 1) Rd p; omega) ?_
      unfold rtN
      rw [if_neg (by decide), if_neg (by decide), if_neg o_nz]
theorem m_86 {ans w : Nat} {m2 : hs_T} {nbv up wp : Int32} (h : ckI Rd p n st x m2) (hM : mS m) (hp15 : p < 15) (hRd : Rd < 100) (hi : i < 3) (hw : w = 0 ∨ w = 1 ∨ w = 2) (hans : ans ≤ 10002) (hwp : b01 wp) (hrun : fX8_runs fu (hs_wR m 23 (3 * p + i) nbv) 0 (nI p) (nI (w + 1)) nbv = some (nI ans, m2)) {k : hs_T → Nat → Int32 → Int32 → Int32 → Int32 → Int32 → Int32 → Option (Int32 × hs_T)} : fX8_checks_86 fu k m 0 (nI Rd) (nI p) (nI (mxN (st 1) Rd p)) up wp (nI i) (nI w) (nI (3 * p + i)) nbv (nI (3 * p + i)) 23 = k (hs_wR (hs_wR m2 24 (3 * p + i) (nI ans)) 25 (3 * p + i) (rtN w Rd p st wp ans)) 0 (nI Rd) (nI p) (nI (mxN (st 1) Rd p)) (upN up (rtN w Rd p st wp ans)) (wpN (nI w) wp) (nI (i + 1)) := by
  have hM2 := h.2.1
  have hS := h.2.2.2.1
  obtain ⟨hk1, hk2⟩ := m_key h hp15
  unfold fX8_checks_86
  rw [m_st23 hM (by omega), pb_bind, m_g34 (σ := hs_wR m 23 (3 * p + i) nbv) hM, pb_bind, m_g33 (σ := hs_wR m 23 (3 * p + i) nbv) hM, pb_bind, m_ld23 (σ := hs_wR m 23 (3 * p + i) nbv) hM (by omega), pb_bind, pb_R_wR, if_pos ⟨rfl, rfl⟩, m_ck (σ := hs_wR m 23 (3 * p + i) nbv) hM, pb_bind, nI_1, hrun, pb_b2, m_st24 hM2 (by omega), pb_bind]
  generalize hm3 : hs_wR m2 24 (3 * p + i) (nI ans) = m3
  have hM3 : mS m3 := by subst hm3; exact hM2
  have e24 : hs_R m3 24 (3 * p + i) = nI ans := by subst hm3; rw [pb_R_wR, if_pos ⟨rfl, rfl⟩]
  have e13 : hs_R m3 13 = hs_R m2 13 := by subst hm3; exact wR_ne (by decide)
  have hS3 : rS st x m3 := rS_of2 rfl e13 hS
  have ld : hs_ld m3 11 24 (nI (3 * p + i)) = some (nI ans) := by rw [m_ld24 hM3 (by omega), e24]
  have fin : ∀ d, d < 20000 → rtN w Rd p st wp ans = (if d = ans then 1 else 0) → (if nI ans = nI d then fX8_checks_229 fu k m3 0 (nI Rd) (nI p) (nI (mxN (st 1) Rd p)) up wp (nI i) (nI w) (nI (3 * p + i)) 1 else fX8_checks_229 fu k m3 0 (nI Rd) (nI p) (nI (mxN (st 1) Rd p)) up wp (nI i) (nI w) (nI (3 * p + i)) 0) = k (hs_wR m3 25 (3 * p + i) (rtN w Rd p st wp ans)) 0 (nI Rd) (nI p) (nI (mxN (st 1) Rd p)) (upN up (rtN w Rd p st wp ans)) (wpN (nI w) wp) (nI (i + 1)) := by
    intro d hd e
    rw [e]
    by_cases q : d = ans
    · rw [if_pos (congrArg nI q.symm), if_pos q]
      exact m_229 hM3 hi hp15 (Or.inr rfl)
    · rw [if_neg (n_ne (by omega) (by omega) (fun z => q z.symm)), if_neg q]
      exact m_229 hM3 hi hp15 (Or.inl rfl)
  rcases hw with rfl | rfl | rfl
  · rw [if_pos (show nI 0 = 0 from rfl), m_g34 hM3, pb_bind, ld, pb_bind, m_g17 hM3, pb_bind, il 3, n_rem (by omega) (by decide) (by decide), il 4, nI_add, m_ld13 hM3 (by omega), pb_bind, e13, hk1, nI_add, il 10000, n_rem (by have := mxN_lt (st 1) Rd p; omega) (by decide) (by decide)]
    exact fin _ (by omega) rfl
  · rw [if_neg (show ¬ nI 1 = 0 by decide), if_pos (show nI 1 = 1 from rfl), m_g34 hM3, pb_bind, ld, pb_bind]
    exact fin 0 (by decide) rfl
  · rw [if_neg (show ¬ nI 2 = 0 by decide), if_neg (show ¬ nI 2 = 1 by decide)]
    rcases hwp with rfl | rfl
    · rw [if_pos rfl]
      by_cases q : Rd = 0
      · have e : rtN 2 Rd p st 0 ans = 1 := by
          unfold rtN
          rw [if_neg (by decide), if_neg (by decide), if_pos rfl, if_pos q]
        rw [if_pos (show nI Rd = 0 by rw [q]; rfl), e]
        unfold fX8_checks_224
        exact m_229 hM3 hi hp15 (Or.inr rfl)
      · have e : rtN 2 Rd p st 0 ans = (if fgN (st 1) (Rd - 1) p = ans then 1 else 0) := by
          unfold rtN
          rw [if_neg (by decide), if_neg (by decide), if_pos rfl, if_neg q]
        rw [if_neg (nI_ne0 (by omega) (by omega)), m_g34 hM3, pb_bind, ld, pb_bind, m_ck hM3, pb_bind, show nI Rd - 1 = nI (Rd - 1) by
          obtain ⟨R, rfl⟩ : ∃ R, Rd = R + 1 := ⟨Rd - 1, by omega⟩
          exact nI_pred R, m_flagOf hM3 hS3 (by omega) hp15, pb_b2]
        unfold fX8_checks_224
        exact fin _ (by have := fgN_lt (st 1) (Rd - 1) p; omega) e
    · have e : rtN 2 Rd p st 1 ans = (if fgN (st 1) Rd p = ans then 1 else 0) := by
        unfold rtN
        rw [if_neg (by decide), if_neg (by decide), if_neg o_nz]
      rw [if_neg o_nz, m_g34 hM3, pb_bind, ld, pb_bind, m_ck hM3, pb_bind, m_flagOf hM3 hS3 (by omega) hp15, pb_b2]
      exact fin _ (by have := fgN_lt (st 1) Rd p; omega) e
theorem c_nb {w : Nat} (hw : w = 0 ∨ w = 1 ∨ w = 2) : fX7_checkNumber fu x (nI w) (nI (mxN (st 1) Rd p)) = some (nI (nbN w Rd p st), x) := by
  unfold fX7_checkNumber nbN
  rcases hw with rfl | rfl | rfl
  · rw [if_pos (show nI 0 = 0 from rfl), if_pos rfl]
  · rw [if_neg (show ¬ nI 1 = 0 by decide), if_pos (show nI 1 = 1 from rfl), c_flagOf (mxN_lt _ _ _), pb_b2, if_neg (by decide), if_pos rfl]
    rfl
  · rw [if_neg (show ¬ nI 2 = 0 by decide), if_neg (show ¬ nI 2 = 1 by decide), if_neg (by decide), if_neg (by decide)]
    rfl
theorem nbN_lt {w : Nat} : nbN w Rd p st < 10000 := by
  unfold nbN
  have h1 := mxN_lt (st 1) Rd p
  have h2 := fgN_lt (st 1) Rd p
  by_cases q : w = 0
  · rw [if_pos q]; omega
  · rw [if_neg q]
    by_cases q2 : w = 1
    · rw [if_pos q2]; omega
    · rw [if_neg q2]; omega
theorem ck_one (h : ckI Rd p n st x m) (hp15 : p < 15) (hRd : Rd < 100) (hi : i < 3) {wp up : Int32} (hwp : b01 wp) (hup : b01 up) (hfu : 600 < fu) : ∃ x' m' wp' up', b01 wp' ∧ b01 up' ∧ (∀ k, fX7_writeChecks_24b fu k x 0 n (nI (mxN (st 1) Rd p)) (nI (mxN (st 1) Rd p % 6)) wp up (nI i) = k x' 0 n (nI (mxN (st 1) Rd p)) (nI (mxN (st 1) Rd p % 6)) wp' up' (nI (i + 1))) ∧ (∀ k, fX8_checks_16b fu k m 0 (nI Rd) (nI p) (nI (mxN (st 1) Rd p)) up wp (nI i) = k m' 0 (nI Rd) (nI p) (nI (mxN (st 1) Rd p)) up' wp' (nI (i + 1))) ∧ ckI Rd p n st x' m' ∧ frW x n x' ∧ frV m p m' ∧ (hs_R x' (n + 4) i = hs_R m' 22 (3 * p + i) ∧ hs_R x' (n + 5) i = hs_R m' 23 (3 * p + i) ∧ hs_R x' (n + 6) i = hs_R m' 24 (3 * p + i) ∧ hs_R x' (n + 7) i = hs_R m' 25 (3 * p + i)) ∧ ∀ i', i' ≠ i → (∀ j, 4 ≤ j → j ≤ 7 → hs_R x' (n + j) i' = hs_R x (n + j) i') ∧ ∀ a, 22 ≤ a → a ≤ 25 → hs_R m' a (3 * p + i') = hs_R m a (3 * p + i') := by
  have h0 := h
  obtain ⟨hC, hM, hB, hS, h8, hP, hc, ⟨fa, hfa, fx, fm⟩, h11, h12, hO⟩ := h
  have hn := hB.1
  have hmx := mxN_lt (st 1) Rd p
  obtain ⟨w, hw, ew⟩ : ∃ w, (w = 0 ∨ w = 1 ∨ w = 2) ∧ hs_t3 (mxN (st 1) Rd p % 6 * 3 + i) = nI w := by
    rcases t3_is (mxN (st 1) Rd p % 6 * 3 + i) (by omega) with e | e | e
    · exact ⟨0, Or.inl rfl, e⟩
    · exact ⟨1, Or.inr (Or.inl rfl), e⟩
    · exact ⟨2, Or.inr (Or.inr rfl), e⟩
  -- the reference writes kind and number first
  have hm1 : ckI Rd p n st x (hs_wR (hs_wR m 22 (3 * p + i) (nI w)) 23 (3 * p + i) (nI (nbN w Rd p st))) := ckI_of h0 rfl rfl (fun _ _ => rfl) (fun _ _ _ _ _ => rfl) rfl rfl (fun _ => rfl) (fun a h22 h23 _ _ => (hs_up_row_ne h23).trans (hs_up_row_ne h22))
  obtain ⟨hC', hM', hB', hS', h8', hP', hc', ⟨fa', hfa', fx', fm'⟩, h11', h12', hO'⟩ := id hm1
  obtain ⟨ans, x1, m2, fa2, d1, d2, d3, d4, d5, d6, d7, d8, d9, d10, d11⟩ := lk_deliver (fu := fu) (fl := st 0) (av := w + 1) (bv := nbN w Rd p st) (fa := fa') hC' hM' hB' hp15 hP' hc' hfa' fx' fm' (hS'.1 0 (by decide)).2 hS'.2.2.1 (by omega) nbN_lt hfu
  have I1 : ckI Rd p n st x1 m2 := ckI_dl hm1 hp15 d4 d5 d6 ⟨fa2, d7, d8, d9⟩ (d10 h11') (d11 h12')
  have hM2 := I1.2.1
  refine ⟨kcX x1 n i (nI w) (nI (nbN w Rd p st)) (nI ans) (rtN w Rd p st wp ans), hs_wR (hs_wR m2 24 (3 * p + i) (nI ans)) 25 (3 * p + i) (rtN w Rd p st wp ans), wpN (nI w) wp, upN up (rtN w Rd p st wp ans), wpN_b, upN_b, fun k => ?_, fun k => ?_, ?_, ?_, ?_, ?_, fun i' hi' => ⟨fun j j1 j2 => ?_, fun a a1 a2 => ?_⟩⟩
  · unfold fX7_writeChecks_24b
    rw [if_neg (show ¬ 3 ≤ nI i from nI_ge (b := 3) hi (by decide)), il 3, pk_mul, nI_add, pb_tb (by omega) (by decide), pb_bind, ew, c_nb hw, pb_b2, c_g5_0 hC, pb_bind, c_g0_0 hC, pb_bind, show hs_ld x 11 1 0 = _ from c_ld1 hC (i := 0) (by decide), pb_bind, (hS.1 0 (by decide)).1, c_ck9 hC, pb_bind, nI_1, d1, pb_b2, c_ck0 I1.1, pb_bind]
    exact c_after I1 hp15 hRd hi hw d3 hwp
  · unfold fX8_checks_16b
    rw [if_neg (show ¬ 3 ≤ nI i from nI_ge (b := 3) hi (by decide)), m_g36 hM, pb_bind, il 6, n_rem (by omega) (by decide) (by decide), il 3, pk_mul, nI_add, m_ld26 hM (by omega), pb_bind, hO _ (by omega), show 3 * (mxN (st 1) Rd p % 6) + i = mxN (st 1) Rd p % 6 * 3 + i by omega, ew, m_g32 hM, pb_bind, pk_mul, nI_add, m_st22 hM (by omega), pb_bind, m_g33 (σ := hs_wR m 22 (3 * p + i) (nI w)) hM, pb_bind]
    have fin := m_86 (fu := fu) (m := hs_wR m 22 (3 * p + i) (nI w)) (nbv := nI (nbN w Rd p st)) (up := up) (k := k) I1 hM hp15 hRd hi hw d3 hwp d2
    rcases hw with rfl | rfl | rfl
    · rw [if_pos (show nI 0 = 0 from rfl)]
      exact fin
    · rw [if_neg (show ¬ nI 1 = 0 by decide), if_pos (show nI 1 = 1 from rfl), m_ck (σ := hs_wR m 22 (3 * p + i) (nI 1)) hM, pb_bind, m_flagOf (m := hs_wR m 22 (3 * p + i) (nI 1)) (x := x) hM (rS_of2 (x := x) (m := m) rfl (wR_ne (by decide)) hS) (show Rd < 101 by omega) hp15, pb_b2]
      exact fin
    · rw [if_neg (show ¬ nI 2 = 0 by decide), if_neg (show ¬ nI 2 = 1 by decide)]
      exact fin
  · exact ckI_of I1 rfl rfl (fun _ _ => rfl) (fun q h4 h5 h6 h7 => (hs_up_row_ne h7).trans ((hs_up_row_ne h6).trans ((hs_up_row_ne h5).trans (hs_up_row_ne h4)))) rfl rfl (fun _ => rfl) (fun a h22 h23 h24 h25 => (hs_up_row_ne h25).trans (hs_up_row_ne h24))
  · exact frW_tr (frW_D d4) (frW_tr (frW_R (Or.inl rfl)) (frW_tr (frW_R (Or.inr (Or.inl rfl))) (frW_tr (frW_R (Or.inr (Or.inr (Or.inl rfl)))) (frW_R (Or.inr (Or.inr (Or.inr rfl)))))))
  · exact frV_tr (frV_R (a := 22) (by decide) (by decide) (by omega) (by omega)) (frV_tr (frV_R (a := 23) (by decide) (by decide) (by omega) (by omega)) (frV_tr (frV_E d5) (frV_tr (frV_R (a := 24) (by decide) (by decide) (by omega) (by omega)) (frV_R (a := 25) (by decide) (by decide) (by omega) (by omega)))))
  · have m22 : hs_R m2 22 (3 * p + i) = nI w := by
      rw [d5.2.2.2.2.1 22 (by decide) (by decide) (by decide) (by decide) (by decide), pb_R_wR, if_neg (by omega), pb_R_wR, if_pos ⟨rfl, rfl⟩]
    have m23 : hs_R m2 23 (3 * p + i) = nI (nbN w Rd p st) := by
      rw [d5.2.2.2.2.1 23 (by decide) (by decide) (by decide) (by decide) (by decide), pb_R_wR, if_pos ⟨rfl, rfl⟩]
    unfold kcX
    simp only [pb_R_wR, Nat.add_left_cancel_iff, m22, m23, and_true, if_true, show (4 = 7) ↔ False by decide, show (4 = 6) ↔ False by decide, show (4 = 5) ↔ False by decide, show (5 = 7) ↔ False by decide, show (5 = 6) ↔ False by decide, show (6 = 7) ↔ False by decide, show (22 = 25) ↔ False by decide, show (22 = 24) ↔ False by decide, show (23 = 25) ↔ False by decide, show (23 = 24) ↔ False by decide, show (24 = 25) ↔ False by decide, if_false, and_self]
  · unfold kcX
    rw [pb_R_wR, if_neg (fun z => hi' z.2), pb_R_wR, if_neg (fun z => hi' z.2), pb_R_wR, if_neg (fun z => hi' z.2), pb_R_wR, if_neg (fun z => hi' z.2), d4.2.2.2.2 (n + j) (by omega) (by omega) (by omega)]
  · rw [pb_R_wR, if_neg (by omega), pb_R_wR, if_neg (by omega), d5.2.2.2.2.1 a (by omega) (by omega) (by omega) (by omega) (by omega), pb_R_wR, if_neg (by omega), pb_R_wR, if_neg (by omega)]
end Check
