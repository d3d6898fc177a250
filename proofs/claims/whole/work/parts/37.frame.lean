/-! Pure part 8: what a change of cells, counts and scratch leaves as it was -/
def rest (T Rd nh : Nat) (sv hn hb hp hr : Nat → Nat) (x m : hs_T) : Prop := rV T sv x ∧ rP T sv x m ∧ rK T Rd sv x m ∧ rA T Rd sv x m ∧ rH T Rd sv x m ∧ rG T Rd nh sv hn hb hp hr x m ∧ rO T Rd m
section Frame
variable {c T Rd nh fu : Nat} {st sv hn hb hp hr : Nat → Nat} {x x' m m' : hs_T}
theorem sB_K {x : hs_T} {n p j : Nat} (h : sB x n p) (h1 : 1 ≤ j) (h7 : j ≤ 7) : hs_K x (n + j) = 11 := by
  obtain ⟨k1, k2, k3, k4, k5, k6, k7⟩ := h.2.2.2.1
  rcases (show j = 1 ∨ j = 2 ∨ j = 3 ∨ j = 4 ∨ j = 5 ∨ j = 6 ∨ j = 7 by omega) with rfl | rfl | rfl | rfl | rfl | rfl | rfl <;> assumption
/-- rows of two services -/
theorem sv_row {x : hs_T} {n p n2 p2 i j : Nat} (h : sB x n p) (h2 : sB x n2 p2) (hp : p < 15) (hp2 : p2 < 15) (i1 : i ≤ 7) (j1 : j ≤ 7) (e : n + i = n2 + j) : n = n2 ∧ i = j ∧ p = p2 := by
  have hn : n = n2 := by
    rcases Nat.lt_trichotomy i j with q | q | q
    · have e2 : n = n2 + (j - i) := by omega
      have := sB_K h2 (j := j - i) (by omega) (by omega)
      rw [← e2, h.2.2.1] at this
      cases this
    · omega
    · have e2 : n2 = n + (i - j) := by omega
      have := sB_K h (j := i - j) (by omega) (by omega)
      rw [← e2, h2.2.2.1] at this
      cases this
  refine ⟨hn, by omega, ?_⟩
  obtain ⟨-, -, -, -, -, -, a1, a2⟩ := h
  obtain ⟨-, -, -, -, -, -, b1, b2⟩ := h2
  rw [hn, b1] at a1
  rw [hn, b2] at a2
  have c1 := (nI_eq (by omega) (by omega)).mp a1
  have c2 := (nI_eq (by omega) (by omega)).mp a2
  omega
/-- a program's rows are no service's -/
theorem pQ_row {x m : hs_T} {g i n len p j k : Nat} {sg nm : Nat → Nat} (hQ : pQ x m g i len sg nm) (h : sB x n p) (hj : j ≤ 7) (hk : k ≤ 2) : g + k ≠ n + j := by
  obtain ⟨-, -, q3, q4, q5, -⟩ := hQ
  intro e
  rcases Nat.lt_or_ge j k with q | q
  · have e2 : n = g + (k - j) := by omega
    rcases (show k - j = 1 ∨ k - j = 2 by omega) with r | r
    · rw [r] at e2; rw [← e2, h.2.2.1] at q4; cases q4
    · rw [r] at e2; rw [← e2, h.2.2.1] at q5; cases q5
  · have e2 : g = n + (j - k) := by omega
    rcases Nat.eq_zero_or_pos (j - k) with r | r
    · rw [r, Nat.add_zero] at e2; rw [e2, h.2.2.1] at q3; cases q3
    · have := sB_K h (j := j - k) (by omega) (by omega)
      rw [← e2, q3] at this
      cases this
theorem lS_of {l cn : Nat} {el : Nat → Nat} (h1 : x'.1 = x.1) (h2 : x'.2.2.1 = x.2.2.1) (h3 : x'.2.2.2.2 = x.2.2.2.2) (hF : hs_F x' 2 l = hs_F x 2 l) (h : lS x l cn el) : lS x' l cn el := by
  have eK := hs_K_of h1
  have eL := hs_L_of h1
  have eN := hs_N_of h1
  have eG : hs_G x' = hs_G x := h2
  have eO : hs_O x' = hs_O x := h3
  unfold lS at h ⊢
  rw [eK, eL, eN, eG, eO, hF]
  exact h
theorem pQ_of {g i len : Nat} {sg nm : Nat → Nat} (h1 : x'.1 = x.1) (h2 : x'.2.2.1 = x.2.2.1) (hF : hs_F x' 0 g = hs_F x 0 g) (r1 : hs_R x' (g + 1) = hs_R x (g + 1)) (r2 : hs_R x' (g + 2) = hs_R x (g + 2)) (m4 : hs_R m' 4 i = hs_R m 4 i) (m2 : ∀ k, k < 24 → hs_R m' 2 (24 * i + k) = hs_R m 2 (24 * i + k)) (m3 : ∀ k, k < 24 → hs_R m' 3 (24 * i + k) = hs_R m 3 (24 * i + k)) (h : pQ x m g i len sg nm) : pQ x' m' g i len sg nm := by
  obtain ⟨q1, q2, q3, q4, q5, q6, q7, q8, q9, q10, q11, q12, q13, q14⟩ := h
  have eK := hs_K_of h1
  have eL := hs_L_of h1
  have eN := hs_N_of h1
  have eG : hs_G x' = hs_G x := h2
  refine ⟨q1, by rw [eN]; exact q2, by rw [eK]; exact q3, by rw [eK]; exact q4, by rw [eK]; exact q5, by rw [eG]; exact q6, by rw [eG]; exact q7, q8, q9, by rw [hF]; exact q10, by rw [m4]; exact q11, by rw [eL]; exact q12, by rw [eL]; exact q13, fun k hk => ?_⟩
  rw [r1, r2, m2 k (by omega), m3 k (by omega)]
  exact q14 k hk
theorem sB_of2 {n p : Nat} (h1 : x'.1 = x.1) (h2 : x'.2.2.1 = x.2.2.1) (h3 : hs_F x' 0 n = hs_F x 0 n) (h4 : hs_F x' 1 n = hs_F x 1 n) (h : sB x n p) : sB x' n p := by
  obtain ⟨T, F, G, R, O⟩ := x'
  dsimp only at h1 h2
  subst h1 h2
  obtain ⟨a1, a2, a3, a4, a5, a6, a7, a8⟩ := h
  exact ⟨a1, a2, a3, a4, a5, a6, h3.trans a7, h4.trans a8⟩
theorem smH_of (h : hs_R m' 27 = hs_R m 27) (φ : Nat → Nat → Nat → Int32) : smH T Rd m' φ = smH T Rd m φ := by
  unfold smH
  rw [h]
theorem rest_of (h5 : T ≤ 5) (h1 : x'.1 = x.1) (h2 : x'.2.2.1 = x.2.2.1) (h3 : x'.2.2.2.2 = x.2.2.2.2) (hF : ∀ k q, 17 ≤ q → k ≠ 11 → k ≠ 12 → hs_F x' k q = hs_F x k q) (f2 : hs_F x' 2 2 = hs_F x 2 2) (f3 : hs_F x' 2 3 = hs_F x 2 3) (hR : ∀ q, 17 ≤ q → (∀ p, p < 3 * T → q ≠ sv p + 1) → hs_R x' q = hs_R x q)
    (m29 : hs_F m' 29 0 = hs_F m 29 0) (hm : ∀ a, a = 2 ∨ a = 3 ∨ a = 4 ∨ a = 5 ∨ (18 ≤ a ∧ a ≤ 27) → hs_R m' a = hs_R m a) (hz : ∀ a i, (a = 8 ∧ 24 * T ≤ i) ∨ ((a = 10 ∨ a = 11 ∨ a = 12) ∧ 3 * T ≤ i) → hs_R m' a i = hs_R m a i) (h : rest T Rd nh sv hn hb hp hr x m) : rest T Rd nh sv hn hb hp hr x' m' := by
  obtain ⟨hV, hP, hK, hA, hH, hG, hO⟩ := h
  have eK := hs_K_of h1
  have eL := hs_L_of h1
  have eN := hs_N_of h1
  have eG : hs_G x' = hs_G x := h2
  have eO : hs_O x' = hs_O x := h3
  have hrow : ∀ p j, p < 3 * T → 2 ≤ j → j ≤ 7 → hs_R x' (sv p + j) = hs_R x (sv p + j) := by
    intro p j hp2 h2 h7
    refine hR _ (by have := (hV.1 p hp2).1; omega) (fun q hq e => ?_)
    have := (sv_row (hV.1 p hp2) (hV.1 q hq) (by omega) (by omega) h7 (by decide) e).2.1
    omega
  have hpq : ∀ g i len sg nm, pQ x m g i len sg nm → pQ x' m' g i len sg nm := by
    intro g i len sg nm q
    have q1 := q.1
    exact pQ_of h1 h2 (hF 0 g q1 (by decide) (by decide)) (hR _ (by omega) (fun p hp2 => pQ_row q (hV.1 p hp2) (by decide) (by decide))) (hR _ (by omega) (fun p hp2 => pQ_row q (hV.1 p hp2) (by decide) (by decide))) (congrFun (hm 4 (by omega)) i) (fun k _ => congrFun (hm 2 (by omega)) _) (fun k _ => congrFun (hm 3 (by omega)) _) q
  refine ⟨⟨fun p hp2 => sB_of2 h1 h2 (hF 0 _ (hV.1 p hp2).1 (by decide) (by decide)) (hF 1 _ (hV.1 p hp2).1 (by decide) (by decide)) (hV.1 p hp2), lS_of h1 h2 h3 f2 hV.2⟩, fun p hp2 => ?_, fun h0 p hp2 i hi => ?_, fun h0 => ?_, fun p hp2 b hb2 r hr2 => ?_, ⟨lS_of h1 h2 h3 f3 hG.1, by rw [eG]; exact hG.2.1, fun j hj => ?_, fun φ => ?_⟩, fun i hi => ?_, fun hr0 => ?_⟩
  · rw [eG, hm 4 (by omega), hm 5 (by omega)]
    obtain ⟨a1, a2⟩ := hP p hp2
    refine ⟨a1.imp id ?_, a2.imp id ?_⟩
    · rintro ⟨g, e, len, sg, nm, q⟩
      exact ⟨g, e, len, sg, nm, hpq g p len sg nm q⟩
    · rintro ⟨g, e, e2, len, sg, nm, q⟩
      exact ⟨g, e, e2, len, sg, nm, hpq g (p + 15) len sg nm q⟩
  · rw [hrow p 4 hp2 (by decide) (by decide), hrow p 5 hp2 (by decide) (by decide), hrow p 6 hp2 (by decide) (by decide), hrow p 7 hp2 (by decide) (by decide), hm 22 (by omega), hm 23 (by omega), hm 24 (by omega), hm 25 (by omega)]
    exact hK h0 p hp2 i hi
  · obtain ⟨ah, a1, a2, a3⟩ := hA h0
    refine ⟨ah, a1, by rw [m29]; exact a2, fun p hp2 => ?_⟩
    obtain ⟨cn, b1, b2⟩ := a3 p hp2
    refine ⟨cn, fun k hk => ?_, by rw [hF 13 _ (hV.1 p hp2).1 (by decide) (by decide)]; exact b2⟩
    unfold lkM
    rw [hm 18 (by omega), hm 19 (by omega), hm 20 (by omega), hm 22 (by omega), hm 23 (by omega)]
    exact b1 k hk
  · rw [hrow p 3 hp2 (by decide) (by decide), hm 27 (by omega)]
    exact hH p hp2 b hb2 r hr2
  · obtain ⟨a1, a2, a3, a4, a5, a6, a7⟩ := hG.2.2.1 j hj
    rw [eK, eN, eG, hF 0 _ a2 (by decide) (by decide), hF 2 _ a2 (by decide) (by decide)]
    exact ⟨a1, a2, a3, a4, a5, a6, a7⟩
  · rw [smH_of (hm 27 (by omega))]
    exact hG.2.2.2 φ
  · rw [hm 26 (by omega)]
    exact hO.1 i hi
  · obtain ⟨z1, z2, z3⟩ := hO.2 hr0
    refine ⟨fun i h1 h2 => ?_, fun i h1 h2 => ?_, fun p h1 h2 r hr2 b hb2 => ?_⟩
    · rw [hm 4 (by omega), hm 5 (by omega), hz 10 i (by omega), hz 11 i (by omega), hz 12 i (by omega)]
      exact z1 i h1 h2
    · rw [hz 8 i (by omega)]
      exact z2 i h1 h2
    · rw [hm 27 (by omega)]
      exact z3 p h1 h2 r hr2 b hb2
end Frame
