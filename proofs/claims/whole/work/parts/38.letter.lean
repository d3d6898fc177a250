/-! Pure part 9: set, letter, unpatch -/
section Letter
variable {c T Rd nh fu : Nat} {st sv hn hb hp hr : Nat → Nat} {x x' m m' : hs_T}
theorem Rl_rest (h : Rl c T Rd nh st sv hn hb hp hr x m) : rest T Rd nh sv hn hb hp hr x m := by
  obtain ⟨hM, hC, hN, hnh, rn, rs, rt, rl, rv, rp, rc, rk, ra, rh, rg, ro⟩ := h
  exact ⟨rv, rp, rk, ra, rh, rg, ro⟩
/-- all of it again -/
theorem Rl_mk (hM : mS m) (hC : cS x) (hN : hs_N x ≤ 17 + 30 * c) (hnh : nh ≤ c) (rn : rN T Rd nh x m) (rs : rS st x m) (rt : rT x m) (rl : rL T x m) (rc : rC T Rd sv x m) (r : rest T Rd nh sv hn hb hp hr x m) : Rl c T Rd nh st sv hn hb hp hr x m := ⟨hM, hC, hN, hnh, rn, rs, rt, rl, r.1, r.2.1, rc, r.2.2.1, r.2.2.2.1, r.2.2.2.2.1, r.2.2.2.2.2.1, r.2.2.2.2.2.2⟩
theorem Rl_le {c2 : Nat} (hc : c ≤ c2) (h : Rl c T Rd nh st sv hn hb hp hr x m) : Rl c2 T Rd nh st sv hn hb hp hr x m := by
  obtain ⟨hM, hC, hN, hnh, r⟩ := h
  exact ⟨hM, hC, by omega, by omega, r⟩
/-- numbers 0 .. 9999, as the two sides ask -/
theorem num_cases (a : Int32) : (∃ v, v < 10000 ∧ a = nI v) ∨ (a < 0 ∨ nI 10000 ≤ a) := (i_lt (a := a) (n := 10000) (by decide)).symm
theorem c_num_y {v : Nat} (h : v < 10000) : fX7_isNumber fu x (nI v) = some (1, x) := by
  unfold fX7_isNumber
  rw [if_neg (nI_pos (by omega))]
  first | rw [if_pos (show nI v < 10000 from nI_lt (b := 10000) h (by decide))] | rw [if_neg (show ¬ (10000 : Int32) ≤ nI v from nI_ge (b := 10000) h (by decide))]
theorem c_num_n {a : Int32} (h : a < 0 ∨ nI 10000 ≤ a) : fX7_isNumber fu x a = some (0, x) := by
  unfold fX7_isNumber
  by_cases h0 : a < 0
  · rw [if_pos h0]
  · rw [if_neg h0]
    first | rw [if_neg (show ¬ a < 10000 from n_nlt (h.resolve_left h0))] | rw [if_pos (show (10000 : Int32) ≤ a from h.resolve_left h0)]
theorem frD_rest (h5 : T ≤ 5) {p : Nat} (hp2 : p < 3 * T) (hx : frD x (sv p) x') (hm : frE m p m') (h : rest T Rd nh sv hn hb hp hr x m) : rest T Rd nh sv hn hb hp hr x' m' := by
  have hB := h.1.1 p hp2
  have hn := hB.1
  refine rest_of h5 hx.1 hx.2.1 hx.2.2.1 (fun k q hq h11 h12 => hx.2.2.2.1 k q (by omega) (by omega)) (hx.2.2.2.1 2 2 (by decide) (by omega)) (hx.2.2.2.1 2 3 (by decide) (by omega)) (fun q hq h2 => hx.2.2.2.2 q (by omega) (by omega) (h2 p hp2)) (hm.2.2.2.1 29 (by decide) (by decide) (by decide)) (fun a ha => hm.2.2.2.2.1 a (by omega) (by omega) (by omega) (by omega) (by omega)) h
theorem frD_rC (h5 : T ≤ 5) {p : Nat} (hp2 : p < 3 * T) (hx : frD x (sv p) x') (hm : frE m p m') (hV : ∀ p, p < 3 * T → sB x (sv p) p) (hc : ∀ c, c < 8 → ∃ v, v < 10000 ∧ hs_R x' (sv p + 1) c = nI v ∧ hs_R m' 8 (8 * p + c) = nI v) (h11 : hs_F x' 11 (sv p) = hs_R m' 10 p) (h12 : hs_F x' 12 (sv p) = hs_R m' 11 p) (h : rC T Rd sv x m) : rC T Rd sv x' m' := by
  intro q hq
  have hBq := hV q hq
  have hBp := hV p hp2
  have hnq := hBq.1
  have hnp := hBp.1
  have e2 : hs_R x' (sv q + 2) = hs_R x (sv q + 2) := hx.2.2.2.2 _ (by omega) (by omega) (fun e => by have := (sv_row hBq hBp (by omega) (by omega) (by decide) (by decide) e).2.1; omega)
  have m12 : hs_R m' 12 = hs_R m 12 := hm.2.2.2.2.1 12 (by decide) (by decide) (by decide) (by decide) (by decide)
  have m21 : hs_R m' 21 = hs_R m 21 := hm.2.2.2.2.1 21 (by decide) (by decide) (by decide) (by decide) (by decide)
  obtain ⟨a1, a2, a3, a4, a5⟩ := h q hq
  rw [e2, m12, m21]
  by_cases e : q = p
  · subst e
    exact ⟨hc, h11, h12, a4, a5⟩
  · have hne : sv q ≠ sv p := fun z => e (sv_row hBq hBp (by omega) (by omega) (i := 0) (j := 0) (by decide) (by decide) (by omega)).2.2
    refine ⟨fun c hc8 => ?_, ?_, ?_, a4, a5⟩
    · rw [hx.2.2.2.2 (sv q + 1) (by omega) (by omega) (by omega), hm.2.2.2.2.2.1 _ (by omega)]
      exact a1 c hc8
    · rw [hx.2.2.2.1 11 (sv q) (by omega) (fun z => hne z.1), (hm.2.2.2.2.2.2 q e).1]
      exact a2
    · rw [hx.2.2.2.1 12 (sv q) (by omega) (fun z => hne z.1), (hm.2.2.2.2.2.2 q e).2]
      exact a3
end Letter
