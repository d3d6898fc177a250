/-! Pure part 7: a letter, on both sides -/
theorem wRow_self (σ : hs_T) (n : Nat) : hs_wRow σ n (hs_R σ n) = σ := by
  obtain ⟨T, F, G, R, O⟩ := σ
  unfold hs_wRow hs_R
  dsimp only
  congr 4
  funext q
  by_cases h : q = n
  · rw [if_pos h, h]
  · rw [if_neg h]
theorem wR_wRow (σ : hs_T) (n i : Nat) (f : Nat → Int32) (v : Int32) : hs_wR (hs_wRow σ n f) n i v = hs_wRow σ n (fun k => if k = i then v else f k) := by
  obtain ⟨T, F, G, R, O⟩ := σ
  unfold hs_wRow hs_wR
  dsimp only
  congr 4
  funext q k
  unfold hs_up
  by_cases h : q = n
  · by_cases h2 : k = i
    · rw [if_pos ⟨h, h2⟩, if_pos h, if_pos h2]
    · rw [if_neg (fun z => h2 z.2), if_pos h, if_neg h2]
      dsimp only
      rw [if_pos h]
  · rw [if_neg (fun z => h z.1), if_neg h]
    dsimp only
    rw [if_neg h]
theorem wRow_wRow (σ : hs_T) (n : Nat) (f g : Nat → Int32) : hs_wRow (hs_wRow σ n f) n g = hs_wRow σ n g := by
  unfold hs_wRow
  congr 4
  funext q
  by_cases h : q = n
  · rw [if_pos h, if_pos h]
  · rw [if_neg h, if_neg h]
    dsimp only
    rw [if_neg h]
/-- a loop whose n rounds are known, from its first state on -/
theorem pb_lpz {α β : Type} {B : (α → Option β) → α → Option β} {a0 : α} {E : Option β} {fuel : Nat} (st : Nat → α) (n : Nat) (h0 : a0 = st 0) (hs : ∀ k i, i < n → B k (st i) = k (st (i + 1))) (he : ∀ k, B k (st n) = E) (hf : n < fuel) : hs_lp B fuel a0 = E := by
  rw [h0]
  exact pb_lp hs he fuel hf
/-- what a letter may change in the class's heap -/
def frD (x : hs_T) (n : Nat) (x' : hs_T) : Prop := x'.1 = x.1 ∧ x'.2.2.1 = x.2.2.1 ∧ x'.2.2.2.2 = x.2.2.2.2 ∧ (∀ k q, q ≠ 9 → ¬ (q = n ∧ (k = 11 ∨ k = 12)) → hs_F x' k q = hs_F x k q) ∧ ∀ q, q ≠ 10 → q ≠ 11 → q ≠ n + 1 → hs_R x' q = hs_R x q
def frE (m : hs_T) (p : Nat) (m' : hs_T) : Prop := m'.1 = m.1 ∧ m'.2.2.1 = m.2.2.1 ∧ m'.2.2.2.2 = m.2.2.2.2 ∧ (∀ k, k ≠ 19 → k ≠ 20 → k ≠ 21 → hs_F m' k 0 = hs_F m k 0) ∧ (∀ a, a ≠ 8 → a ≠ 9 → a ≠ 10 → a ≠ 11 → a ≠ 14 → hs_R m' a = hs_R m a) ∧ (∀ i, (i < 8 * p ∨ 8 * p + 8 ≤ i) → hs_R m' 8 i = hs_R m 8 i) ∧ ∀ q, q ≠ p → hs_R m' 10 q = hs_R m 10 q ∧ hs_R m' 11 q = hs_R m 11 q
theorem frD_rf {x : hs_T} {n : Nat} : frD x n x := ⟨rfl, rfl, rfl, fun _ _ _ _ => rfl, fun _ _ _ _ => rfl⟩
theorem frE_rf {m : hs_T} {p : Nat} : frE m p m := ⟨rfl, rfl, rfl, fun _ _ _ _ => rfl, fun _ _ _ _ _ _ => rfl, fun _ _ => rfl, fun _ _ => ⟨rfl, rfl⟩⟩
theorem frD_tr {x y z : hs_T} {n : Nat} (h : frD x n y) (g : frD y n z) : frD x n z := ⟨g.1.trans h.1, g.2.1.trans h.2.1, g.2.2.1.trans h.2.2.1, fun k q a b => (g.2.2.2.1 k q a b).trans (h.2.2.2.1 k q a b), fun q a b c => (g.2.2.2.2 q a b c).trans (h.2.2.2.2 q a b c)⟩
theorem frE_tr {x y z : hs_T} {n : Nat} (h : frE x n y) (g : frE y n z) : frE x n z := ⟨g.1.trans h.1, g.2.1.trans h.2.1, g.2.2.1.trans h.2.2.1, fun k a b c => (g.2.2.2.1 k a b c).trans (h.2.2.2.1 k a b c), fun a h1 h2 h3 h4 h5 => (g.2.2.2.2.1 a h1 h2 h3 h4 h5).trans (h.2.2.2.2.1 a h1 h2 h3 h4 h5), fun i hi => (g.2.2.2.2.2.1 i hi).trans (h.2.2.2.2.2.1 i hi), fun q hq => ⟨(g.2.2.2.2.2.2 q hq).1.trans (h.2.2.2.2.2.2 q hq).1, (g.2.2.2.2.2.2 q hq).2.trans (h.2.2.2.2.2.2 q hq).2⟩⟩
theorem frX_D {x y : hs_T} {n : Nat} (h : frX x n y) : frD x n y := ⟨h.1, h.2.1, h.2.2.1, fun k q a _ => h.2.2.2.1 k q a, h.2.2.2.2⟩
theorem frM_E {x y : hs_T} {n : Nat} (h : frM x n y) : frE x n y := ⟨h.1, h.2.1, h.2.2.1, h.2.2.2.1, fun a h1 h2 h3 h4 h5 => h.2.2.2.2.1 a h1 h2 h5, h.2.2.2.2.2, fun q _ => ⟨congrFun (h.2.2.2.2.1 10 (by decide) (by decide) (by decide)) q, congrFun (h.2.2.2.2.1 11 (by decide) (by decide) (by decide)) q⟩⟩
section Deliver
variable {fu : Nat} {x0 m0 x m : hs_T} {n p h nx fa g len fl j av bv : Nat} {c0 pl cl sg nm : Nat → Nat}
/-- the whole run -/
theorem lk_loop (hC : cS x0) (hM : mS m0) (hB : sB x0 n p) (hp : p < 15) (hQ : pQ x0 m0 g p len sg nm) (hS0 : hs_R m0 13 0 = nI fl) (hav : av < 10000) (hbv : bv < 10000) (hfl : fl ≤ 500) : ∀ (d j : Nat) (x m : hs_T) (h nx : Nat) (pl cl : Nat → Nat) (fa e1 e2 : Nat), fl = j + d → d < e1 → d < e2 → cR x0 n c0 (nI av) (nI bv) x h pl cl fa → mR m0 p c0 m h nx pl cl fa → rIn h pl cl fa nx len →
    rOut fu x0 m0 n p c0 av bv (hs_lp (fun (k : hs_T × Nat × Nat × Nat × Int32 × Int32 × Int32 → Option (Int32 × hs_T)) (a : hs_T × Nat × Nat × Nat × Int32 × Int32 × Int32) => fX1_run_6b fu  (fun σ x0 x1 x2 x3 x4 x5 => k (σ, x0, x1, x2, x3, x4, x5)) a.1 a.2.1 a.2.2.1 a.2.2.2.1 a.2.2.2.2.1 a.2.2.2.2.2.1 a.2.2.2.2.2.2) e1 (x, 9, g, n + 1, nI fl, nI nx, nI j))
      (hs_lp (fun (k : hs_T × Nat × Int32 × Int32 × Int32 × Int32 → Option (Int32 × hs_T)) (a : hs_T × Nat × Int32 × Int32 × Int32 × Int32) => fX8_runs_48b fu  (fun σ x0 x1 x2 x3 x4 => k (σ, x0, x1, x2, x3, x4)) a.1 a.2.1 a.2.2.1 a.2.2.2.1 a.2.2.2.2.1 a.2.2.2.2.2) e2 (m, 0, nI p, nI av, nI bv, nI j)) := by
  have hlen : len ≤ 24 := hQ.2.2.2.2.2.2.2.2.1
  intro d
  induction d with
  | zero =>
    intro j x m h nx pl cl fa e1 e2 hd h1 h2 hx hm hi
    obtain ⟨f1, rfl⟩ : ∃ f, e1 = f + 1 := ⟨e1 - 1, by omega⟩
    obtain ⟨f2, rfl⟩ : ∃ f, e2 = f + 1 := ⟨e2 - 1, by omega⟩
    obtain ⟨k1, k2, k3, k4, k5⟩ := pr_rd hB hQ hx.1
    have hM1 := mR_mS hM hm
    have hj : fl = j := by omega
    subst hj
    have e4 : hs_R m 4 p = nI len := by
      rw [hm.1.2.2.2.2.1 4 (by decide) (by decide) (by decide)]
      exact hQ.2.2.2.2.2.2.2.2.2.2.1
    have e13 : hs_R m 13 0 = nI fl := by
      rw [hm.1.2.2.2.2.1 13 (by decide) (by decide) (by decide)]
      exact hS0
    rw [pb_lp0, pb_lp0]
    dsimp only
    unfold fX1_run_6b fX1_run_154 fX8_runs_48b
    rw [if_pos (nI_le (Nat.le_refl _) (by omega)), pb_gI k1 k2, pb_bind, k3, m_gI hM1, pb_bind, hm.2.2.1, m_g5 hM1, pb_bind, m_ld4 hM1 (by omega), pb_bind, e4]
    by_cases hq : nx < len
    · rw [if_neg (nI_ge hq (by omega)), if_neg (nI_ge hq (by omega)), m_g17 hM1, pb_bind, show (0 : Int32) = nI 0 from rfl, m_ld13 hM1 (by decide), pb_bind, e13, if_pos rfl, m_g15 hM1, pb_bind, m_ld11 hM1 (by omega), pb_bind, m_st11 hM1 (by omega), pb_bind]
      refine ⟨10001, x, m, h, h, nx, fa, pl, pl, cl, rfl, hx, hm, hi.2.2.1, hi.2.2.2.1, Or.inr (Or.inl ⟨rfl, ?_⟩)⟩
      rw [hm.1.2.2.2.2.1 11 (by decide) (by decide) (by decide)]
    · have hl : nx = len := by have := hi.2.2.2.2; omega
      rw [hl, if_pos (nI_le (Nat.le_refl _) (by omega)), if_pos (nI_le (Nat.le_refl _) (by omega))]
      exact ⟨10000, x, m, h, h, nx, fa, pl, pl, cl, rfl, hx, hm, hi.2.2.1, hi.2.2.2.1, Or.inl ⟨10000, by decide, rfl, rfl⟩⟩
  | succ d ih =>
    intro j x m h nx pl cl fa e1 e2 hd h1 h2 hx hm hi
    obtain ⟨f1, rfl⟩ : ∃ f, e1 = f + 1 := ⟨e1 - 1, by omega⟩
    obtain ⟨f2, rfl⟩ : ∃ f, e2 = f + 1 := ⟨e2 - 1, by omega⟩
    rw [pb_lp0, pb_lp0]
    dsimp only
    by_cases hq : nx < len
    · rcases lk_step (fu := fu) hC hM hB hp hQ hS0 hav hbv hx hm hi hq (show j < fl by omega) hfl _ _ with ⟨x', m', h', nx', pl', cl', fa', hi', hx', hm', q1, q2⟩ | ho
      · rw [q1, q2]
        exact ih (j + 1) x' m' h' nx' pl' cl' fa' f1 f2 (by omega) (by omega) (by omega) hx' hm' hi'
      · exact ho
    · obtain ⟨k1, k2, k3, k4, k5⟩ := pr_rd hB hQ hx.1
      have hM1 := mR_mS hM hm
      have e4 : hs_R m 4 p = nI len := by
        rw [hm.1.2.2.2.2.1 4 (by decide) (by decide) (by decide)]
        exact hQ.2.2.2.2.2.2.2.2.2.2.1
      have hl : nx = len := by have := hi.2.2.2.2; omega
      unfold fX1_run_6b fX1_run_154 fX8_runs_48b
      rw [if_neg (nI_ge (show j < fl by omega) (by omega)), pb_gI k1 k2, pb_bind, k3, hl, if_pos (nI_le (Nat.le_refl _) (by omega)), pb_bind, if_pos (nI_le (Nat.le_refl _) (by omega)), m_gI hM1, pb_bind, hm.2.2.1, hl, m_g5 hM1, pb_bind, m_ld4 hM1 (by omega), pb_bind, e4, if_pos (nI_le (Nat.le_refl _) (by omega))]
      exact ⟨10000, x, m, h, h, nx, fa, pl, pl, cl, rfl, hx, hm, hi.2.2.1, hi.2.2.2.1, Or.inl ⟨10000, by decide, rfl, rfl⟩⟩
/-- the reference keeps the cells -/
theorem m_kept (hM : mS m) (hp : p < 15) (hfu : 8 < fu) {a b : Int32} : fX8_runs_13 fu m 0 (nI p) a b 0 = fX8_runs_48 fu (hs_wRow m 9 (fun k => if k < 8 then hs_R m 8 (8 * p + k) else hs_R m 9 k)) 0 (nI p) a b 0 := by
  unfold fX8_runs_13
  refine pb_lpz (fun i => (hs_wRow m 9 (fun k => if k < i then hs_R m 8 (8 * p + k) else hs_R m 9 k), 0, nI p, a, b, nI i)) 8 ?_ ?_ ?_ hfu
  · have e0 : hs_wRow m 9 (fun k => if k < 0 then hs_R m 8 (8 * p + k) else hs_R m 9 k) = m := by
      have : (fun k => if k < 0 then hs_R m 8 (8 * p + k) else hs_R m 9 k) = hs_R m 9 := by
        funext k
        rw [if_neg (Nat.not_lt_zero k)]
      rw [this, wRow_self]
    rw [e0]
    rfl
  · intro k i hi
    dsimp only
    unfold fX8_runs_13b
    have hM1 : mS (hs_wRow m 9 (fun k => if k < i then hs_R m 8 (8 * p + k) else hs_R m 9 k)) := hM
    rw [if_neg (show ¬ (8 : Int32) ≤ nI i from nI_ge (b := 8) hi (by decide)), m_g13 hM1, pb_bind, m_g12 hM1, pb_bind, show (8 : Int32) = nI 8 from rfl, pk_mul, nI_add, m_ld8 hM1 (by omega), pb_bind, m_st9 hM1 hi, pb_bind, nI_1, wR_wRow, pb_R_wRow, if_neg (by decide)]
    congr 2
    congr 1
    funext q
    by_cases h1 : q = i
    · rw [if_pos h1, if_pos (by omega), h1]
    · rw [if_neg h1]
      by_cases h2 : q < i
      · rw [if_pos h2, if_pos (by omega)]
      · rw [if_neg h2, if_neg (by omega)]
  · intro k
    dsimp only
    unfold fX8_runs_13b
    rw [if_pos (show (8 : Int32) ≤ nI 8 by decide)]
/-- the reference puts them back -/
theorem m_back (hM : mS m) (hp : p < 15) (hfu : 8 < fu) : fX8_runs_150 fu m 0 (nI p) 0 = some (10002, hs_wR (hs_wRow m 8 (fun k => if 8 * p ≤ k ∧ k < 8 * p + 8 then hs_R m 9 (k - 8 * p) else hs_R m 8 k)) 10 p (hs_R m 10 p + 1)) := by
  unfold fX8_runs_150
  refine pb_lpz (fun i => (hs_wRow m 8 (fun k => if 8 * p ≤ k ∧ k < 8 * p + i then hs_R m 9 (k - 8 * p) else hs_R m 8 k), 0, nI p, nI i)) 8 ?_ ?_ ?_ hfu
  · have e0 : hs_wRow m 8 (fun k => if 8 * p ≤ k ∧ k < 8 * p + 0 then hs_R m 9 (k - 8 * p) else hs_R m 8 k) = m := by
      have : (fun k => if 8 * p ≤ k ∧ k < 8 * p + 0 then hs_R m 9 (k - 8 * p) else hs_R m 8 k) = hs_R m 8 := by
        funext k
        rw [if_neg (by omega)]
      rw [this, wRow_self]
    rw [e0]
    rfl
  · intro k i hi
    dsimp only
    unfold fX8_runs_150b
    have hM1 : mS (hs_wRow m 8 (fun k => if 8 * p ≤ k ∧ k < 8 * p + i then hs_R m 9 (k - 8 * p) else hs_R m 8 k)) := hM
    rw [if_neg (show ¬ (8 : Int32) ≤ nI i from nI_ge (b := 8) hi (by decide)), m_g12 hM1, pb_bind, m_g13 hM1, pb_bind, m_ld9 hM1 hi, pb_bind, show (8 : Int32) = nI 8 from rfl, pk_mul, nI_add, m_st8 hM1 (by omega), pb_bind, nI_1, wR_wRow, pb_R_wRow, if_neg (by decide)]
    congr 2
    congr 1
    funext q
    by_cases h1 : q = 8 * p + i
    · rw [if_pos h1, if_pos (by omega), h1, Nat.add_sub_cancel_left]
    · rw [if_neg h1]
      by_cases h2 : 8 * p ≤ q ∧ q < 8 * p + i
      · rw [if_pos h2, if_pos (by omega)]
      · rw [if_neg h2, if_neg (by omega)]
  · intro k
    dsimp only
    unfold fX8_runs_150b
    have hM1 : mS (hs_wRow m 8 (fun k => if 8 * p ≤ k ∧ k < 8 * p + 8 then hs_R m 9 (k - 8 * p) else hs_R m 8 k)) := hM
    rw [if_pos (show (8 : Int32) ≤ nI 8 by decide), m_g14 hM1, pb_bind, m_ld10 hM1 hp, pb_bind, m_st10 hM1 hp, pb_bind, pb_R_wRow, if_neg (by decide)]
/-- what a letter does, on both sides -/
theorem lk_deliver (hC : cS x) (hM : mS m) (hB : sB x n p) (hp : p < 15) (hP : (hs_G x 9 n = none ∧ hs_R m 4 p = nI 0) ∨ ∃ g, hs_G x 9 n = some g ∧ pG x m g p) (hc : ∀ c, c < 8 → ∃ v, v < 10000 ∧ hs_R x (n + 1) c = nI v ∧ hs_R m 8 (8 * p + c) = nI v) (hfa : fa < 1000000) (fx : hs_F x 5 9 = nI fa) (fm : hs_F m 21 0 = nI fa) (hS0 : hs_R m 13 0 = nI fl) (hfl : fl ≤ 500) (hav : av < 10000) (hbv : bv < 10000) (hfu : 600 < fu) :
    ∃ ans x' m' fa', fX1_deliver fu x 9 n (nI av) (nI bv) (nI fl) = some (nI ans, x') ∧ fX8_runs fu m 0 (nI p) (nI av) (nI bv) = some (nI ans, m') ∧ ans ≤ 10002 ∧ frD x n x' ∧ frE m p m' ∧ (∀ c, c < 8 → ∃ v, v < 10000 ∧ hs_R x' (n + 1) c = nI v ∧ hs_R m' 8 (8 * p + c) = nI v) ∧ fa' < 1000000 ∧ hs_F x' 5 9 = nI fa' ∧ hs_F m' 21 0 = nI fa' ∧ (hs_F x 11 n = hs_R m 10 p → hs_F x' 11 n = hs_R m' 10 p) ∧ (hs_F x 12 n = hs_R m 11 p → hs_F x' 12 n = hs_R m' 11 p) := by
  have hn := hB.1
  -- the cells ahead of the letter
  obtain ⟨c0, hc0⟩ : ∃ c0 : Nat → Nat, ∀ c, c < 8 → c0 c < 10000 ∧ hs_R x (n + 1) c = nI (c0 c) ∧ hs_R m 8 (8 * p + c) = nI (c0 c) := by
    refine ⟨fun c => if h : c < 8 then Classical.choose (hc c h) else 0, fun c hc8 => ?_⟩
    have := Classical.choose_spec (hc c hc8)
    simp only [hc8, dif_pos]
    exact this
  -- the reference's start
  have hMa : mS (hs_wF (hs_wF m 19 0 0) 20 0 0) := hM
  have eM : fX8_runs fu m 0 (nI p) (nI av) (nI bv) = fX8_runs_48 fu (hs_wRow (hs_wF (hs_wF m 19 0 0) 20 0 0) 9 (fun k => if k < 8 then hs_R m 8 (8 * p + k) else hs_R m 9 k)) 0 (nI p) (nI av) (nI bv) 0 := by
    unfold fX8_runs
    rw [m_pI hM, pb_bind, m_pI (σ := hs_wF m 19 0 0) hM, pb_bind, m_kept hMa hp (by omega)]
    rfl
  have hMb : mS (hs_wRow (hs_wF (hs_wF m 19 0 0) 20 0 0) 9 (fun k => if k < 8 then hs_R m 8 (8 * p + k) else hs_R m 9 k)) := hM
  have hm1 : mR m p c0 (hs_wRow (hs_wF (hs_wF m 19 0 0) 20 0 0) 9 (fun k => if k < 8 then hs_R m 8 (8 * p + k) else hs_R m 9 k)) 0 0 (fun _ => 0) c0 fa := by
    refine ⟨⟨rfl, rfl, rfl, fun k h1 h2 h3 => ?_, fun q h1 h2 h3 => ?_, fun i hi => ?_⟩, ?_, ?_, ?_, fun i hi => absurd hi (Nat.not_lt_zero i), fun c hc8 => ?_, fun c hc8 => ?_⟩
    · rw [pb_F_wRow, pb_F_wF, if_neg (by omega), pb_F_wF, if_neg (by omega)]
    · exact if_neg h2
    · rw [pb_R_wRow, if_neg (by decide)]; rfl
    · rw [pb_F_wRow, pb_F_wF, if_neg (by decide), pb_F_wF, if_pos ⟨rfl, rfl⟩]; rfl
    · rw [pb_F_wRow, pb_F_wF, if_pos ⟨rfl, rfl⟩]; rfl
    · rw [pb_F_wRow, pb_F_wF, if_neg (by decide), pb_F_wF, if_neg (by decide)]; exact fm
    · rw [pb_R_wRow, if_neg (by decide)]; exact (hc0 c hc8).2.2
    · rw [pb_R_wRow, if_pos rfl, if_pos hc8]; exact (hc0 c hc8).2.2
  rcases hP with ⟨g1, g2⟩ | ⟨g, g1, len, sg, nm, hQ⟩
  · -- no program
    refine ⟨10000, x, _, fa, ?_, ?_, by decide, frD_rf, frM_E hm1.1, fun c hc8 => ⟨c0 c, (hc0 c hc8).1, (hc0 c hc8).2.1, hm1.2.2.2.2.2.1 c hc8⟩, hfa, fx, hm1.2.2.2.1, fun h => ?_, fun h => ?_⟩
    · unfold fX1_deliver
      rw [s_gR hB, pb_bind, g1, pb_mn]
      rfl
    · rw [eM]
      unfold fX8_runs_48
      obtain ⟨f2, rfl⟩ : ∃ f, fu = f + 1 := ⟨fu - 1, by omega⟩
      rw [pb_lp0]
      dsimp only
      unfold fX8_runs_48b
      have e4 : hs_R (hs_wRow (hs_wF (hs_wF m 19 0 0) 20 0 0) 9 (fun k => if k < 8 then hs_R m 8 (8 * p + k) else hs_R m 9 k)) 4 p = nI 0 := by
        rw [pb_R_wRow, if_neg (by decide)]; exact g2
      rw [m_gI hMb, pb_bind, hm1.2.2.1, m_g5 hMb, pb_bind, m_ld4 hMb (by omega), pb_bind, e4, if_pos (nI_le (Nat.le_refl _) (by decide))]
      rfl
    · rw [h]; rfl
    · rw [h]; rfl
  · -- the class's start
    have hlen : len ≤ 24 := hQ.2.2.2.2.2.2.2.2.1
    have hl0 : 1 ≤ len := hQ.2.2.2.2.2.2.2.1
    have ecp : hs_cp x (n + 1) 0 11 0 8 = some (hs_wRow x 11 (va_cpy (hs_R x (n + 1)) (hs_R x 11) 0 0 8)) := pb_cp (sp := 0) (dp := 0) (k := 8) hB.2.2.2.1.1 (s_lt hB (by decide)) (c_K11 hC) (Nat.lt_of_lt_of_le (by decide) hC.1) hB.2.2.2.2.1.1 (c_L11 hC) (by decide) (by decide) (by decide) (by decide)
    generalize hxa : hs_wRow x 11 (va_cpy (hs_R x (n + 1)) (hs_R x 11) 0 0 8) = xa at ecp
    have hx1 : cR x n c0 (nI av) (nI bv) (hs_wF (hs_wF (hs_wF xa 3 9 (nI av)) 4 9 (nI bv)) 2 9 0) 0 (fun _ => 0) c0 fa := by
      subst hxa
      refine ⟨frX_F (frX_F (frX_F (frX_Row frX_rf (Or.inr (Or.inl rfl))))), ?_, ?_, ?_, ?_, fun i hi => absurd hi (Nat.not_lt_zero i), fun c hc8 => ?_, fun c hc8 => ?_⟩
      · rw [pb_F_wF, if_pos ⟨rfl, rfl⟩]; rfl
      · rw [pb_F_wF, if_neg (by decide), pb_F_wF, if_neg (by decide), pb_F_wF, if_pos ⟨rfl, rfl⟩]
      · rw [pb_F_wF, if_neg (by decide), pb_F_wF, if_pos ⟨rfl, rfl⟩]
      · rw [pb_F_wF, if_neg (by decide), pb_F_wF, if_neg (by decide), pb_F_wF, if_neg (by decide), pb_F_wRow]; exact fx
      · rw [pb_R_wF, pb_R_wF, pb_R_wF, pb_R_wRow, if_neg (by omega)]; exact (hc0 c hc8).2.1
      · rw [pb_R_wF, pb_R_wF, pb_R_wF, pb_R_wRow, if_pos rfl, pk_cpy_in (by omega) (by omega), Nat.zero_add, Nat.sub_zero]; exact (hc0 c hc8).2.1
    have hCa : cS xa := by subst hxa; exact hC
    have hBa : sB (hs_wF (hs_wF (hs_wF xa 3 9 (nI av)) 4 9 (nI bv)) 2 9 0) n p := sB_of hx1.1.1 hx1.1.2.1 (fun k => hx1.1.2.2.2.1 k n (by omega)) hB
    have hGa : hs_G (hs_wF (hs_wF (hs_wF xa 3 9 (nI av)) 4 9 (nI bv)) 2 9 0) 9 n = some g := by subst hxa; exact g1
    have eX : fX1_deliver fu x 9 n (nI av) (nI bv) (nI fl) = hs_b2 (fX1_run fu (hs_wF (hs_wF (hs_wF xa 3 9 (nI av)) 4 9 (nI bv)) 2 9 0) 9 g (n + 1) (nI fl)) fun v26 y => if v26 = 10002 then ((hs_gN y 3 9 1).bind fun n34 => (hs_gN y 7 n 2).bind fun n36 => (hs_cp y n34 0 n36 0 8).bind fun z => (hs_gI z 7 n 11).bind fun v40 => (hs_pI z 7 n 11 (v40 + 1)).bind fun w => some (v26, w)) else (if v26 = 10001 then ((hs_gI y 7 n 12).bind fun v30 => (hs_pI y 7 n 12 (v30 + 1)).bind fun w => some (v26, w)) else (some (v26, y))) := by
      unfold fX1_deliver
      rw [s_gR hB, pb_bind, g1, pb_ms, s_g2 hB, pb_bind, c_g1_9 hC, pb_bind, ecp, pb_bind, c_pI9 hCa, pb_bind, c_pI9 (σ := hs_wF xa 3 9 (nI av)) hCa, pb_bind, c_pI9 (σ := hs_wF (hs_wF xa 3 9 (nI av)) 4 9 (nI bv)) hCa, pb_bind, s_gR hBa, pb_bind, hGa, pb_ms, s_g2 hBa, pb_bind, c_ck9 (σ := hs_wF (hs_wF (hs_wF xa 3 9 (nI av)) 4 9 (nI bv)) 2 9 0) hCa, pb_bind]
    have hrun := lk_loop (fu := fu) hC hM hB hp hQ hS0 hav hbv hfl fl 0 _ _ 0 0 _ c0 fa fu fu (by omega) (by omega) (by omega) hx1 hm1 ⟨by decide, fun i hi => absurd hi (Nat.not_lt_zero i), fun c hc8 => (hc0 c hc8).1, hfa, by omega⟩
    obtain ⟨ans, x1, m1, h, h2, nx, fa2, pl, pl2, cl, r1, r2, r3, r4, r5, r6⟩ := hrun
    have eXr : fX1_run fu (hs_wF (hs_wF (hs_wF xa 3 9 (nI av)) 4 9 (nI bv)) 2 9 0) 9 g (n + 1) (nI fl) = some (ans, x1) := r1
    rw [eX, eXr, pb_b2]
    have hB1 : sB x1 n p := sB_of r2.1.1 r2.1.2.1 (fun k => r2.1.2.2.2.1 k n (by omega)) hB
    have hC1 : cS x1 := cR_cS hC r2
    have hM1 : mS m1 := mR_mS hM r3
    rw [eM]
    rcases r6 with ⟨v, hv, rfl, hrm⟩ | ⟨rfl, hrm⟩ | ⟨rfl, hrm⟩
    · refine ⟨v, x1, m1, fa2, ?_, hrm, by omega, frX_D r2.1, frM_E r3.1, fun c hc8 => ⟨cl c, r4 c hc8, r2.2.2.2.2.2.2.1 c hc8, r3.2.2.2.2.2.1 c hc8⟩, r5, r2.2.2.2.2.1, r3.2.2.2.1, fun q => ?_, fun q => ?_⟩
      · rw [if_neg (show ¬ nI v = 10002 from n_ne (a := v) (b := 10002) (by omega) (by decide) (by omega)), if_neg (show ¬ nI v = 10001 from n_ne (a := v) (b := 10001) (by omega) (by decide) (by omega))]
      · rw [r2.1.2.2.2.1 11 n (by omega), q, r3.1.2.2.2.2.1 10 (by decide) (by decide) (by decide)]
      · rw [r2.1.2.2.2.1 12 n (by omega), q, r3.1.2.2.2.2.1 11 (by decide) (by decide) (by decide)]
    · have hF12 : hs_F x1 12 n = hs_F x 12 n := r2.1.2.2.2.1 12 n (by omega)
      refine ⟨10001, hs_wF x1 12 n (hs_F x1 12 n + 1), hs_wR m1 11 p (hs_R m 11 p + 1), fa2, ?_, hrm, by decide, frD_tr (frX_D r2.1) ⟨rfl, rfl, rfl, fun k q h1 h2 => ?_, fun q _ _ _ => rfl⟩, frE_tr (frM_E r3.1) ⟨rfl, rfl, rfl, fun k _ _ _ => rfl, fun q h1 h2 h3 h4 h5 => hs_up_row_ne h4, fun i hi => ?_, fun q hq => ⟨?_, ?_⟩⟩, fun c hc8 => ⟨cl c, r4 c hc8, r2.2.2.2.2.2.2.1 c hc8, ?_⟩, r5, ?_, r3.2.2.2.1, fun q => ?_, fun q => ?_⟩
      · rw [if_neg (show ¬ (10001 : Int32) = 10002 by decide), if_pos rfl, s_gI hB1, pb_bind, s_pI hB1, pb_bind]
        rfl
      · rw [pb_F_wF, if_neg (by intro z; exact h2 ⟨z.2, Or.inr z.1⟩)]
      · rw [pb_R_wR, if_neg (by omega)]
      · rw [pb_R_wR, if_neg (by omega)]
      · rw [pb_R_wR, if_neg (by omega)]
      · rw [pb_R_wR, if_neg (by omega)]; exact r3.2.2.2.2.2.1 c hc8
      · rw [pb_F_wF, if_neg (by omega)]; exact r2.2.2.2.2.1
      · rw [pb_F_wF, if_neg (by omega), r2.1.2.2.2.1 11 n (by omega), q, pb_R_wR, if_neg (by omega), r3.1.2.2.2.2.1 10 (by decide) (by decide) (by decide)]
      · rw [pb_F_wF, if_pos ⟨rfl, rfl⟩, hF12, q, pb_R_wR, if_pos ⟨rfl, rfl⟩]
    · have ecp2 : hs_cp x1 11 0 (n + 1) 0 8 = some (hs_wRow x1 (n + 1) (va_cpy (hs_R x1 11) (hs_R x1 (n + 1)) 0 0 8)) := pb_cp (sp := 0) (dp := 0) (k := 8) (c_K11 hC1) (Nat.lt_of_lt_of_le (by decide) hC1.1) hB1.2.2.2.1.1 (s_lt hB1 (by decide)) (c_L11 hC1) hB1.2.2.2.2.1.1 (by decide) (by decide) (by decide) (by decide)
      have hB2 : sB (hs_wRow x1 (n + 1) (va_cpy (hs_R x1 11) (hs_R x1 (n + 1)) 0 0 8)) n p := hB1
      have hF11 : hs_F x1 11 n = hs_F x 11 n := r2.1.2.2.2.1 11 n (by omega)
      rw [m_back hM1 hp (by omega)] at hrm
      refine ⟨10002, hs_wF (hs_wRow x1 (n + 1) (va_cpy (hs_R x1 11) (hs_R x1 (n + 1)) 0 0 8)) 11 n (hs_F x1 11 n + 1), _, fa2, ?_, hrm, by decide, frD_tr (frX_D (frX_Row r2.1 (Or.inr (Or.inr rfl)))) ⟨rfl, rfl, rfl, fun k q h1 h2 => ?_, fun q _ _ _ => rfl⟩, frE_tr (frM_E r3.1) ⟨rfl, rfl, rfl, fun k _ _ _ => rfl, fun q h1 h2 h3 h4 h5 => ?_, fun i hi => ?_, fun q hq => ⟨?_, ?_⟩⟩, fun c hc8 => ⟨c0 c, (hc0 c hc8).1, ?_, ?_⟩, r5, ?_, r3.2.2.2.1, fun q => ?_, fun q => ?_⟩
      · rw [if_pos rfl, c_g1_9 hC1, pb_bind, s_g2 hB1, pb_bind, ecp2, pb_bind, s_gI hB2, pb_bind, s_pI hB2, pb_bind]
        rfl
      · rw [pb_F_wF, if_neg (by intro z; exact h2 ⟨z.2, Or.inl z.1⟩)]
      · rw [show hs_R (hs_wR (hs_wRow m1 8 (fun k => if 8 * p ≤ k ∧ k < 8 * p + 8 then hs_R m1 9 (k - 8 * p) else hs_R m1 8 k)) 10 p (hs_R m1 10 p + 1)) q = hs_R (hs_wRow m1 8 (fun k => if 8 * p ≤ k ∧ k < 8 * p + 8 then hs_R m1 9 (k - 8 * p) else hs_R m1 8 k)) q from hs_up_row_ne h3]
        exact if_neg h1
      · rw [pb_R_wR, if_neg (by omega), pb_R_wRow, if_pos rfl, if_neg (by omega)]
      · rw [pb_R_wR, if_neg (by omega), pb_R_wRow, if_neg (by decide)]
      · rw [pb_R_wR, if_neg (by omega), pb_R_wRow, if_neg (by decide)]
      · rw [pb_R_wF, pb_R_wRow, if_pos rfl, pk_cpy_in (by omega) (by omega), Nat.zero_add, Nat.sub_zero]; exact r2.2.2.2.2.2.2.2 c hc8
      · rw [pb_R_wR, if_neg (by omega), pb_R_wRow, if_pos rfl, if_pos (by omega), Nat.add_sub_cancel_left]; exact r3.2.2.2.2.2.2 c hc8
      · rw [pb_F_wF, if_neg (by omega), pb_F_wRow]; exact r2.2.2.2.2.1
      · rw [pb_F_wF, if_pos ⟨rfl, rfl⟩, hF11, q, pb_R_wR, if_pos ⟨rfl, rfl⟩, r3.1.2.2.2.2.1 10 (by decide) (by decide) (by decide)]
      · rw [pb_F_wF, if_neg (by omega), pb_F_wRow, r2.1.2.2.2.1 12 n (by omega), q, pb_R_wR, if_neg (by omega), pb_R_wRow, if_neg (by decide), r3.1.2.2.2.2.1 11 (by decide) (by decide) (by decide)]
end Deliver
