/-! Pure part 9: set, letter, unpatch -/
section Letter
variable {c T Rd nh fu : Nat} {st sv hn hb hp hr : Nat → Nat} {x x' m m' : hs_T}
theorem Rl_rest (h : Rl c T Rd nh st sv hn hb hp hr x m) : rest T Rd nh sv hn hb hp hr x m := by
  obtain ⟨hM, hC, hN, hnh, rn, rs, rt, rl, rv, rp, rc, rk, ra, rh, rg, ro⟩ := h
  exact ⟨rv, rp, rk, ra, rh, rg, ro⟩
/-- all of it again -/
theorem Rl_mk (hM : mS m) (hC : cS x) (hN : hs_N x ≤ 17 + 30 * c) (hnh : nh ≤ c) (rn : rN T Rd nh x m) (rs : rS st x m) (rt : rT x m) (rl : rL T x m) (rc : rC T Rd sv x m) (r : rest T Rd nh sv hn hb hp hr x m) : Rl c T Rd nh st sv hn hb hp hr x m := ⟨hM, hC, hN, hnh, rn, rs, rt, rl, r.1, r.2.1, rc, r.2.2.1, r.2.2.2.1, r.2.2.2.2.1, r.2.2.2.2.2.1, r.2.2.2.2.2.2⟩
theorem Rl_le {c2 : Nat} (hc : c ≤ c2) (h : Rl c T Rd nh st sv hn hb hp hr x m) : Rl c2 T Rd nh st sv hn hb hp hr x m := by
  obtain ⟨hM, hC, hN, hnh, r⟩ := h
  exact ⟨hM, hC, by omega, by omega, r⟩
/-- numbers 0 .. 9999, as the two sides ask -/
theorem num_cases (a : Int32) : (∃ v, v < 10000 ∧ a = nI v) ∨ (a < 0 ∨ nI 10000 ≤ a) := (i_lt (a := a) (n := 10000) (by decide)).symm
theorem c_num_y {v : Nat} (h : v < 10000) : fX7_isNumber fu x (nI v) = some (1, x) := by
  unfold fX7_isNumber
  rw [if_neg (nI_pos (by omega))]
  first | rw [if_pos (show nI v < 10000 from nI_lt (b := 10000) h (by decide))] | rw [if_neg (show ¬ (10000 : Int32) ≤ nI v from nI_ge (b := 10000) h (by decide))]
theorem c_num_n {a : Int32} (h : a < 0 ∨ nI 10000 ≤ a) : fX7_isNumber fu x a = some (0, x) := by
  unfold fX7_isNumber
  by_cases h0 : a < 0
  · rw [if_pos h0]
  · rw [if_neg h0]
    first | rw [if_neg (show ¬ a < 10000 from n_nlt (h.resolve_left h0))] | rw [if_pos (show (10000 : Int32) ≤ a from h.resolve_left h0)]
theorem frD_rest (h5 : T ≤ 5) {p : Nat} (hp2 : p < 3 * T) (hx : frD x (sv p) x') (hm : frE m p m') (h : rest T Rd nh sv hn hb hp hr x m) : rest T Rd nh sv hn hb hp hr x' m' := by
  have hB := h.1.1 p hp2
  have hn := hB.1
  refine rest_of h5 hx.1 hx.2.1 hx.2.2.1 (fun k q hq h11 h12 => hx.2.2.2.1 k q (by omega) (by omega)) (hx.2.2.2.1 2 2 (by decide) (by omega)) (hx.2.2.2.1 2 3 (by decide) (by omega)) (fun q hq h2 => hx.2.2.2.2 q (by omega) (by omega) (h2 p hp2)) (hm.2.2.2.1 29 (by decide) (by decide) (by decide)) (fun a ha => hm.2.2.2.2.1 a (by omega) (by omega) (by omega) (by omega) (by omega)) (fun a i ha => ?_) h
  rcases ha with ⟨rfl, hi⟩ | ⟨rfl | rfl | rfl, hi⟩
  · exact hm.2.2.2.2.2.1 i (by omega)
  · exact (hm.2.2.2.2.2.2 i (by omega)).1
  · exact (hm.2.2.2.2.2.2 i (by omega)).2
  · exact congrFun (hm.2.2.2.2.1 12 (by decide) (by decide) (by decide) (by decide) (by decide)) i
theorem frD_rC (h5 : T ≤ 5) {p : Nat} (hp2 : p < 3 * T) (hx : frD x (sv p) x') (hm : frE m p m') (hV : ∀ p, p < 3 * T → sB x (sv p) p) (hc : ∀ c, c < 8 → ∃ v, v < 10000 ∧ hs_R x' (sv p + 1) c = nI v ∧ hs_R m' 8 (8 * p + c) = nI v) (h11 : hs_F x' 11 (sv p) = hs_R m' 10 p) (h12 : hs_F x' 12 (sv p) = hs_R m' 11 p) (h : rC T Rd sv x m) : rC T Rd sv x' m' := by
  intro q hq
  have hBq := hV q hq
  have hBp := hV p hp2
  have hnq := hBq.1
  have hnp := hBp.1
  have e2 : hs_R x' (sv q + 2) = hs_R x (sv q + 2) := hx.2.2.2.2 _ (by omega) (by omega) (fun e => by have := (sv_row hBq hBp (by omega) (by omega) (by decide) (by decide) e).2.1; omega)
  have m12 : hs_R m' 12 = hs_R m 12 := hm.2.2.2.2.1 12 (by decide) (by decide) (by decide) (by decide) (by decide)
  have m21 : hs_R m' 21 = hs_R m 21 := hm.2.2.2.2.1 21 (by decide) (by decide) (by decide) (by decide) (by decide)
  obtain ⟨a1, a2, a3, a4, a5⟩ := h q hq
  rw [e2, m12, m21]
  by_cases e : q = p
  · subst e
    exact ⟨hc, h11, h12, a4, a5⟩
  · have hne : sv q ≠ sv p := fun z => e (sv_row hBq hBp (by omega) (by omega) (i := 0) (j := 0) (by decide) (by decide) (by omega)).2.2
    refine ⟨fun c hc8 => ?_, ?_, ?_, a4, a5⟩
    · rw [hx.2.2.2.2 (sv q + 1) (by omega) (by omega) (by omega), hm.2.2.2.2.2.1 _ (by omega)]
      exact a1 c hc8
    · rw [hx.2.2.2.1 11 (sv q) (by omega) (fun z => hne z.1), (hm.2.2.2.2.2.2 q e).1]
      exact a2
    · rw [hx.2.2.2.1 12 (sv q) (by omega) (fun z => hne z.1), (hm.2.2.2.2.2.2 q e).2]
      exact a3
theorem rC_low (hV : ∀ p, p < 3 * T → sB x (sv p) p) (hF : ∀ k q, 17 ≤ q → hs_F x' k q = hs_F x k q) (hR : ∀ q, 17 ≤ q → hs_R x' q = hs_R x q) (hm : ∀ a, a = 8 ∨ a = 10 ∨ a = 11 ∨ a = 12 ∨ a = 21 → hs_R m' a = hs_R m a) (h : rC T Rd sv x m) : rC T Rd sv x' m' := by
  intro p hp2
  have hn := (hV p hp2).1
  rw [hR _ (show 17 ≤ sv p + 1 by omega), hR _ (show 17 ≤ sv p + 2 by omega), hF 11 _ hn, hF 12 _ hn, hm 8 (by omega), hm 10 (by omega), hm 11 (by omega), hm 12 (by omega), hm 21 (by omega)]
  exact h p hp2
/-- the answers are alike, and the heaps stay of one game -/
def Op (c : Nat) (rx rm : Option (Int32 × hs_T)) : Prop := ∃ r x' m', rx = some (r, x') ∧ rm = some (r, m') ∧ Rel (c + 1) x' m'
theorem Op_same {rx rm : Option (Int32 × hs_T)} (h : Rl c T Rd nh st sv hn hb hp hr x m) (e : ∃ r, rx = some (r, x) ∧ rm = some (r, m)) : Op c rx rm := by
  obtain ⟨r, e1, e2⟩ := e
  exact ⟨r, x, m, e1, e2, T, Rd, nh, st, sv, hn, hb, hp, hr, Rl_le (Nat.le_succ c) h⟩
theorem op_letter (hfu : 600 < fu) (h : Rl c T Rd nh st sv hn hb hp hr x m) (f a b u v : Int32) : Op c (fX7_letter fu x 0 f a b u v) (fX8_letter fu m 0 f a b u v) := by
  have h0 := h
  have hrest := Rl_rest h
  obtain ⟨hM, hC, hN, hnh, ⟨h5, h100, n1, n2, n3, n4, n5, n6, n7, n8, n9, fa, n10, n11⟩, hS, ⟨tp, t0, t1, t2, t3⟩, ⟨lt, l0, l1, l2, l3⟩, hV, hP, hc, -⟩ := h
  unfold fX7_letter fX8_letter
  rcases pl_cases T h5 a b with ⟨t, s, ht, hs, rfl, rfl⟩ | hno
  · have hlt : 3 * t + s < 3 * T := by omega
    have hB := hV.1 (3 * t + s) hlt
    have hn0 := hB.1
    rw [c_ck0 hC, pb_bind, c_find_y hC n4 h5 hV ht hs, pb_b2, pb_ms, c_ck0 hC, pb_bind, m_ck hM, pb_bind]
    rcases i_lt (a := f) (n := T) (by omega) with hf | ⟨k, hk, rfl⟩
    · exact Op_same h0 ⟨-1, by rw [c_isTeam_n hC n4 h5 hf, pb_b2, if_pos rfl], by rw [m_isTeam_n hM n1 hf, pb_b2, if_pos rfl]⟩
    · rw [c_isTeam_y hC n4 h5 hk, pb_b2, if_neg o_nz, m_isTeam_y hM n1 h5 hk, pb_b2, if_neg o_nz, m_ck hM, pb_bind, m_isPlace_y hM n1 h5 ht hs, pb_b2, if_neg o_nz]
      rcases num_cases u with ⟨av, hav, rfl⟩ | hu
      · rw [c_num_y hav, pb_b2, if_neg o_nz, m_rng_y (n := 10000) (l := 0) (h := 9999) rfl rfl hav (by decide), pb_b2, if_neg o_nz]
        rcases num_cases v with ⟨bv, hbv, rfl⟩ | hv
        · rw [c_num_y hbv, pb_b2, if_neg o_nz, m_rng_y (n := 10000) (l := 0) (h := 9999) rfl rfl hbv (by decide), pb_b2, if_neg o_nz, c_g6_0 hC, pb_bind, c_gI12 hC, pb_bind, l1, m_gI hM, pb_bind, pb_bind, l2]
          by_cases hl : lt = 400
          · subst hl
            exact Op_same h0 ⟨-4, by rw [if_neg (show ¬ nI 400 < 400 by decide)], by rw [if_pos (show nI 400 = 400 from rfl)]⟩
          · rw [if_pos (show nI lt < 400 from nI_lt (b := 400) (by omega) (by decide)), if_neg (show ¬ nI lt = 400 from n_ne (b := 400) (by omega) (by decide) hl)]
            -- the class writes the letter down
            have eK : fX2_keep fu x 12 (sv (3 * t + s)) (nI av) (nI bv) = some ((), hs_wF (hs_wR (hs_wR (hs_wR x 13 lt (nI (3 * t + s))) 14 lt (nI av)) 15 lt (nI bv)) 3 12 (nI (lt + 1))) := by
              unfold fX2_keep
              obtain ⟨-, -, -, -, -, -, q1, q2⟩ := id hB
              rw [c_g0_12 hC, pb_bind, c_gI12 hC, pb_bind, l1, s_gI hB, pb_bind, s_gI hB, pb_bind, q1, q2, il 3, pk_mul, nI_add, show (3 * t + s) / 3 * 3 + (3 * t + s) % 3 = 3 * t + s by omega, c_st13 hC (by omega), pb_bind, c_g1_12 (σ := hs_wR x 13 lt (nI (3 * t + s))) hC, pb_bind, c_gI12 (σ := hs_wR x 13 lt (nI (3 * t + s))) hC, pb_bind, show hs_F (hs_wR x 13 lt (nI (3 * t + s))) 3 12 = nI lt from l1, c_st14 (σ := hs_wR x 13 lt (nI (3 * t + s))) hC (by omega), pb_bind, c_g2_12 (σ := hs_wR (hs_wR x 13 lt (nI (3 * t + s))) 14 lt (nI av)) hC, pb_bind, c_gI12 (σ := hs_wR (hs_wR x 13 lt (nI (3 * t + s))) 14 lt (nI av)) hC, pb_bind, show hs_F (hs_wR (hs_wR x 13 lt (nI (3 * t + s))) 14 lt (nI av)) 3 12 = nI lt from l1, c_st15 (σ := hs_wR (hs_wR x 13 lt (nI (3 * t + s))) 14 lt (nI av)) hC (by omega), pb_bind, c_gI12 (σ := hs_wR (hs_wR (hs_wR x 13 lt (nI (3 * t + s))) 14 lt (nI av)) 15 lt (nI bv)) hC, pb_bind, show hs_F (hs_wR (hs_wR (hs_wR x 13 lt (nI (3 * t + s))) 14 lt (nI av)) 15 lt (nI bv)) 3 12 = nI lt from l1, nI_1, c_pI12 (σ := hs_wR (hs_wR (hs_wR x 13 lt (nI (3 * t + s))) 14 lt (nI av)) 15 lt (nI bv)) hC, pb_bind]
            generalize hxa : hs_wF (hs_wR (hs_wR (hs_wR x 13 lt (nI (3 * t + s))) 14 lt (nI av)) 15 lt (nI bv)) 3 12 (nI (lt + 1)) = xa at eK
            have hCa : cS xa := by subst hxa; exact hC
            have f9 : hs_F xa 9 0 = hs_F x 9 0 := by subst hxa; rw [pb_F_wF, if_neg (by decide)]; rfl
            rw [c_ck12 hC, pb_bind, eK, pb_b2, c_gI0 hCa, pb_bind, c_pI0 hCa, pb_bind]
            generalize hxb : hs_wF xa 9 0 (hs_F xa 9 0 + 1) = xb
            have hCb : cS xb := by subst hxb; exact hCa
            obtain ⟨hSx, hS1, hS2, -⟩ := id hS
            have r1b : hs_R xb 1 0 = nI (st 0) := by subst hxb hxa; exact (hSx 0 (by decide)).1
            rw [c_g5_0 hCb, pb_bind, c_g0_0 hCb, pb_bind, show (0 : Int32) = nI 0 from rfl, c_ld1 hCb (by decide), pb_bind, r1b, c_ck9 hCb, pb_bind]
            -- the reference writes it down
            rw [m_g22 hM, pb_bind, pb_bind, il 3, pk_mul, nI_add, m_st15 hM (by omega), pb_bind, m_g23 (σ := hs_wR m 15 lt (nI (3 * t + s))) hM, pb_bind, m_gI (σ := hs_wR m 15 lt (nI (3 * t + s))) hM, pb_bind, show hs_F (hs_wR m 15 lt (nI (3 * t + s))) 28 0 = nI lt from l2, m_st16 (σ := hs_wR m 15 lt (nI (3 * t + s))) hM (by omega), pb_bind, m_g24 (σ := hs_wR (hs_wR m 15 lt (nI (3 * t + s))) 16 lt (nI av)) hM, pb_bind, m_gI (σ := hs_wR (hs_wR m 15 lt (nI (3 * t + s))) 16 lt (nI av)) hM, pb_bind, show hs_F (hs_wR (hs_wR m 15 lt (nI (3 * t + s))) 16 lt (nI av)) 28 0 = nI lt from l2, m_st17 (σ := hs_wR (hs_wR m 15 lt (nI (3 * t + s))) 16 lt (nI av)) hM (by omega), pb_bind]
            generalize hma : hs_wR (hs_wR (hs_wR m 15 lt (nI (3 * t + s))) 16 lt (nI av)) 17 lt (nI bv) = ma
            have hMa : mS ma := by subst hma; exact hM
            have g28 : hs_F ma 28 0 = nI lt := by subst hma; exact l2
            rw [m_gI hMa, pb_bind, g28, nI_1, m_pI hMa, pb_bind, m_gI (σ := hs_wF ma 28 0 (nI (lt + 1))) hMa, pb_bind, m_pI (σ := hs_wF ma 28 0 (nI (lt + 1))) hMa, pb_bind]
            generalize hmb : hs_wF (hs_wF ma 28 0 (nI (lt + 1))) 30 0 (hs_F (hs_wF ma 28 0 (nI (lt + 1))) 30 0 + 1) = mb
            have hMb : mS mb := by subst hmb; exact hMa
            rw [m_ck hMb, pb_bind]
            have xF : ∀ k q, ¬ (k = 9 ∧ q = 0) → ¬ (k = 3 ∧ q = 12) → hs_F xb k q = hs_F x k q := by
              intro k q h1 h2
              subst hxb hxa
              rw [pb_F_wF, if_neg h1, pb_F_wF, if_neg h2]
              rfl
            have xR : ∀ q, q ≠ 13 → q ≠ 14 → q ≠ 15 → hs_R xb q = hs_R x q := by
              intro q h1 h2 h3
              subst hxb hxa
              exact (hs_up_row_ne h3).trans ((hs_up_row_ne h2).trans (hs_up_row_ne h1))
            have mF : ∀ k, k ≠ 28 → k ≠ 30 → hs_F mb k 0 = hs_F m k 0 := by
              intro k h1 h2
              subst hmb hma
              rw [pb_F_wF, if_neg (fun z => h2 z.1), pb_F_wF, if_neg (fun z => h1 z.1)]
              rfl
            have mRr : ∀ q, q ≠ 15 → q ≠ 16 → q ≠ 17 → hs_R mb q = hs_R m q := by
              intro q h1 h2 h3
              subst hmb hma
              exact (hs_up_row_ne h3).trans ((hs_up_row_ne h2).trans (hs_up_row_ne h1))
            have x1 : xb.1 = x.1 := by subst hxb hxa; rfl
            have x2 : xb.2.2.1 = x.2.2.1 := by subst hxb hxa; rfl
            have x3 : xb.2.2.2.2 = x.2.2.2.2 := by subst hxb hxa; rfl
            have restb : rest T Rd nh sv hn hb hp hr xb mb := rest_of h5 x1 x2 x3 (fun k q hq _ _ => xF k q (by omega) (by omega)) (xF 2 2 (by decide) (by decide)) (xF 2 3 (by decide) (by decide)) (fun q hq _ => xR q (by omega) (by omega) (by omega)) (mF 29 (by decide) (by decide)) (fun q hq => mRr q (by omega) (by omega) (by omega)) (fun a i ha => congrFun (mRr a (by omega) (by omega) (by omega)) i) hrest
            have rcb : rC T Rd sv xb mb := rC_low hV.1 (fun k q hq => xF k q (by omega) (by omega)) (fun q hq => xR q (by omega) (by omega) (by omega)) (fun q hq => mRr q (by omega) (by omega) (by omega)) hc
            obtain ⟨d1, d2, d3, -⟩ := rcb (3 * t + s) hlt
            obtain ⟨ans, x', m', fa', e1, e2, e3, frx, frm, e4, e5, e6, e7, e8, e9⟩ := lk_deliver (fu := fu) (fl := st 0) (fa := fa) hCb hMb (restb.1.1 _ hlt) (by omega) (restb.2.1 _ hlt).1 d1 n10 (by rw [xF 5 9 (by decide) (by decide), n6]; exact n11) (by rw [mF 21 (by decide) (by decide)]; exact n11) (by rw [mRr 13 (by decide) (by decide) (by decide)]; exact (hSx 0 (by decide)).2) hS2 hav hbv hfu
            rw [e1, pb_b2, e2, pb_b2]
            refine ⟨_, x', m', rfl, rfl, T, Rd, nh, st, sv, hn, hb, hp, hr, ?_⟩
            have yF : ∀ k q, q ≠ 9 → q < 17 → hs_F x' k q = hs_F xb k q := fun k q h1 h2 => frx.2.2.2.1 k q h1 (by omega)
            have yR : ∀ q, q ≠ 10 → q ≠ 11 → q < 17 → hs_R x' q = hs_R xb q := fun q h1 h2 h3 => frx.2.2.2.2 q h1 h2 (by omega)
            have wF : ∀ k, k ≠ 19 → k ≠ 20 → k ≠ 21 → hs_F m' k 0 = hs_F mb k 0 := frm.2.2.2.1
            have wR : ∀ q, q ≠ 8 → q ≠ 9 → q ≠ 10 → q ≠ 11 → q ≠ 14 → hs_R m' q = hs_R mb q := frm.2.2.2.2.1
            refine Rl_mk (mS_of frm.1 frm.2.1 hMb) (cS_of frx.1 frx.2.1 hCb) ?_ (by omega) ⟨h5, h100, ?_, ?_, ?_, ?_, ?_, ?_, ?_, ?_, n9, fa', e5, e7⟩ ?_ ⟨tp, t0, ?_, ?_, fun i hi => ?_⟩ ⟨lt + 1, by omega, ?_, ?_, fun i hi => ?_⟩ (frD_rC h5 hlt frx frm restb.1.1 e4 (e8 d2) (e9 d3) rcb) (frD_rest h5 hlt frx frm restb)
            · rw [hs_N_of frx.1, hs_N_of x1]; omega
            · rw [wF 0 (by decide) (by decide) (by decide), mF 0 (by decide) (by decide)]; exact n1
            · rw [wF 1 (by decide) (by decide) (by decide), mF 1 (by decide) (by decide)]; exact n2
            · rw [yF 8 0 (by decide) (by decide), xF 8 0 (by decide) (by decide)]; exact n3
            · rw [yF 2 2 (by decide) (by decide), xF 2 2 (by decide) (by decide)]; exact n4
            · rw [yF 9 0 (by decide) (by decide), wF 30 (by decide) (by decide) (by decide)]
              subst hxb hmb
              rw [pb_F_wF, if_pos ⟨rfl, rfl⟩, pb_F_wF, if_pos ⟨rfl, rfl⟩, pb_F_wF, if_neg (by decide), f9, n5]
              subst hma
              rfl
            · rw [e6, e7]
            · rw [yF 2 3 (by decide) (by decide), xF 2 3 (by decide) (by decide)]; exact n7
            · rw [wF 38 (by decide) (by decide) (by decide), mF 38 (by decide) (by decide)]; exact n8
            · refine ⟨fun w hw => ?_, hS.2⟩
              rw [yR 1 (by decide) (by decide) (by decide), xR 1 (by decide) (by decide) (by decide), wR 13 (by decide) (by decide) (by decide) (by decide) (by decide), mRr 13 (by decide) (by decide) (by decide)]
              exact hS.1 w hw
            · rw [yF 1 4 (by decide) (by decide), xF 1 4 (by decide) (by decide)]; exact t1
            · rw [wF 7 (by decide) (by decide) (by decide), mF 7 (by decide) (by decide)]; exact t2
            · rw [yR 5 (by decide) (by decide) (by decide), xR 5 (by decide) (by decide) (by decide), wR 1 (by decide) (by decide) (by decide) (by decide) (by decide), mRr 1 (by decide) (by decide) (by decide)]
              exact t3 i hi
            · rw [yF 3 12 (by decide) (by decide)]
              subst hxb hxa
              rw [pb_F_wF, if_neg (by decide), pb_F_wF, if_pos ⟨rfl, rfl⟩]
            · rw [wF 28 (by decide) (by decide) (by decide)]
              subst hmb
              rw [pb_F_wF, if_neg (by decide), pb_F_wF, if_pos ⟨rfl, rfl⟩]
            · rw [yR 13 (by decide) (by decide) (by decide), yR 14 (by decide) (by decide) (by decide), yR 15 (by decide) (by decide) (by decide), wR 15 (by decide) (by decide) (by decide) (by decide) (by decide), wR 16 (by decide) (by decide) (by decide) (by decide) (by decide), wR 17 (by decide) (by decide) (by decide) (by decide) (by decide)]
              subst hxb hxa hmb hma
              simp only [pb_R_wF, pb_R_wR]
              by_cases hi2 : i = lt
              · subst hi2
                simp only [true_and, and_true, if_true, show (13 : Nat) = 15 ↔ False by decide, show (13 : Nat) = 14 ↔ False by decide, show (14 : Nat) = 15 ↔ False by decide, show (14 : Nat) = 13 ↔ False by decide, show (15 : Nat) = 17 ↔ False by decide, show (15 : Nat) = 16 ↔ False by decide, show (16 : Nat) = 17 ↔ False by decide, if_false, false_and]
                exact ⟨3 * t + s, hlt, rfl, rfl⟩
              · simp only [hi2, and_false, if_false]
                exact l3 i (by omega)
        · exact Op_same h0 ⟨-2, by rw [c_num_n hv, pb_b2, if_pos rfl], by rw [m_rng_n (n := 10000) (l := 0) (h := 9999) rfl rfl (by decide) (by decide) hv, pb_b2, if_pos rfl]⟩
      · exact Op_same h0 ⟨-2, by rw [c_num_n hu, pb_b2, if_pos rfl], by rw [m_rng_n (n := 10000) (l := 0) (h := 9999) rfl rfl (by decide) (by decide) hu, pb_b2, if_pos rfl]⟩
  · refine Op_same h0 ⟨-1, ?_, ?_⟩
    · rw [c_ck0 hC, pb_bind, c_find_n hC n4 h5 hno, pb_b2, pb_mn, c_ck0 hC, pb_bind]
      rcases i_lt (a := f) (n := T) (by omega) with hf | ⟨k, hk, rfl⟩
      · rw [c_isTeam_n hC n4 h5 hf, pb_b2, if_pos rfl]
      · rw [c_isTeam_y hC n4 h5 hk, pb_b2, if_neg o_nz]
    · rw [m_ck hM, pb_bind]
      rcases i_lt (a := f) (n := T) (by omega) with hf | ⟨k, hk, rfl⟩
      · rw [m_isTeam_n hM n1 hf, pb_b2, if_pos rfl]
      · rw [m_isTeam_y hM n1 h5 hk, pb_b2, if_neg o_nz, m_ck hM, pb_bind, m_isPlace_n hM n1 h5 hno, pb_b2, if_pos rfl]
end Letter
