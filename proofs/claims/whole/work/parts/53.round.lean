/-! Pure part 24: round -/
section Round
variable {c T Rd nh fu n p i j : Nat} {st sv hn hb hp hr : Nat → Nat} {x x' m m' : hs_T}
theorem sm_zero {f : Nat → Int32} {n : Nat} (h : ∀ i, i < n → f i = 0) : sm f n = 0 := by
  induction n with
  | zero => rfl
  | succ n ih =>
    show sm f n + f n = 0
    rw [ih (fun i hi => h i (by omega)), h n (by omega)]
    rfl
theorem wS_0 (h : Rl c T Rd nh st sv hn hb hp hr x m) {m1 : hs_T} (e1 : m1.1 = m.1) (e2 : m1.2.2.1 = m.2.2.1) (e3 : ∀ k, k ≠ 28 → k ≠ 29 → hs_F m1 k 0 = hs_F m k 0) (e4 : ∀ a, a ≠ 18 → a ≠ 19 → a ≠ 20 → hs_R m1 a = hs_R m a) : wS 0 T Rd st sv x (ptX m1 (3 * T)) := by
  obtain ⟨hM, hC, hN, hnh, ⟨h5, h100, n1, n2, n3, n4, n5, n6, n7, n8, n9, fa, n10, n11⟩, hS, hT, hL, hV, hP, hc, hK, hA, hH, hG, hO⟩ := h
  obtain ⟨a1, a2, a3, a4, a5, a6⟩ := ptX_is (m := m1) (3 * T) (by omega)
  have hF : ∀ k, k ≠ 28 → k ≠ 29 → hs_F (ptX m1 (3 * T)) k 0 = hs_F m k 0 := fun k z1 z2 => by rw [a3]; exact e3 k z1 z2
  have hR : ∀ a, (8 ≤ a ∧ a < 18) ∨ 21 ≤ a → hs_R (ptX m1 (3 * T)) a = hs_R m a := fun a z => by rw [a4 a (by omega) (by omega) (by omega) (by omega)]; exact e4 a (by omega) (by omega) (by omega)
  have r2 := e4 2 (by decide) (by decide) (by decide)
  have r3 := e4 3 (by decide) (by decide) (by decide)
  have r4 := e4 4 (by decide) (by decide) (by decide)
  have r5 := e4 5 (by decide) (by decide) (by decide)
  refine ⟨hC, mS_of (a1.trans e1) (a2.trans e2) hM, rS_of2 rfl (hR 13 (by decide)) hS, hV, ⟨n3, (hF 1 (by decide) (by decide)).trans n2, (hF 0 (by decide) (by decide)).trans n1, n4⟩, ⟨fa, n10, by rw [n6]; exact n11, (hF 21 (by decide) (by decide)).trans n11⟩, by rw [hR 26 (by decide)]; exact hO.1, fun q hq => ?_⟩
  obtain ⟨b1, b2, b3⟩ := a6 q hq
  rw [r5, r4, r2, r3] at b2 b3
  obtain ⟨p1, p2⟩ := hP q hq
  obtain ⟨c1, c2, c3, c4, c5⟩ := hc q hq
  refine ⟨b1, fun z => absurd z (by omega), fun _ => ?_, by rw [hR 8 (by decide)]; exact c1, by rw [hR 10 (by decide)]; exact c2, by rw [hR 11 (by decide)]; exact c3, fun _ => by rw [hR 12 (by decide)]; exact c4.symm, fun z => absurd z (by omega), by rw [hR 21 (by decide)]; exact c5, fun z => absurd z (by omega), fun z => absurd z (by omega)⟩
  rcases p2 with ⟨g1, g2⟩ | ⟨g, g1, g2, len, sg, nm, z⟩
  · obtain ⟨d1, d2⟩ := b2 g2
    refine Or.inr ⟨g1, ?_⟩
    unfold pr9
    rw [d1]
    refine p1.imp id ?_
    rintro ⟨g, z1, len, sg, nm, z⟩
    exact ⟨g, z1, len, sg, nm, pQ_of (x := x) (m := m) rfl rfl rfl rfl rfl d1 (fun k hk => (d2 k hk).1) (fun k hk => (d2 k hk).2) z⟩
  · obtain ⟨d1, d2⟩ := b3 (by rw [g2]; decide)
    refine Or.inl ⟨g, g1, len, sg, nm, ?_⟩
    obtain ⟨q1, q2, q3, q4, q5, q6, q7, q8, q9, q10, q11, q12, q13, q14⟩ := z
    refine ⟨q1, q2, q3, q4, q5, q6, q7, q8, q9, q10, d1.trans q11, q12, q13, fun k hk => ?_⟩
    rw [(d2 k (by omega)).1, (d2 k (by omega)).2]
    exact q14 k hk
theorem lk_il {pl : Nat → Nat} {k : Nat} (hk15 : pl k < 15) (hp15 : p < 15) (h18 : hs_R m 18 k = nI (pl k)) (h19 : hs_R m 19 k = hs_R x 14 k) (h20 : hs_R m 20 k = hs_R x 15 k) (h4 : ∀ i, i < 3 → hs_R x (sv p + 4) i = hs_R m 22 (3 * p + i) ∧ hs_R x (sv p + 5) i = hs_R m 23 (3 * p + i)) : (lkM m p k → cnV sv pl (hs_R x 14) (hs_R x 15) x p k = 1) ∧ (¬ lkM m p k → cnV sv pl (hs_R x 14) (hs_R x 15) x p k = 0) := by
  unfold lkM cnV ilV
  rw [h18, h19, h20, (h4 0 (by decide)).1, (h4 0 (by decide)).2, (h4 1 (by decide)).1, (h4 1 (by decide)).2, (h4 2 (by decide)).1, (h4 2 (by decide)).2]
  have sw : ∀ {a b d e : Int32}, (a = b ∧ d = e) ↔ (b = a ∧ e = d) := fun {a b d e} => ⟨fun z => ⟨z.1.symm, z.2.symm⟩, fun z => ⟨z.1.symm, z.2.symm⟩⟩
  by_cases q : pl k = p
  · rw [if_pos q]
    by_cases q0 : hs_R m 22 (3 * p + 0) + 1 = hs_R x 14 k ∧ hs_R m 23 (3 * p + 0) = hs_R x 15 k
    · rw [if_pos q0]
      exact ⟨fun _ => rfl, fun z => absurd ⟨congrArg nI q, Or.inl (sw.mp q0)⟩ z⟩
    rw [if_neg q0]
    by_cases q1 : hs_R m 22 (3 * p + 1) + 1 = hs_R x 14 k ∧ hs_R m 23 (3 * p + 1) = hs_R x 15 k
    · rw [if_pos q1]
      exact ⟨fun _ => rfl, fun z => absurd ⟨congrArg nI q, Or.inr (Or.inl (sw.mp q1))⟩ z⟩
    rw [if_neg q1]
    by_cases q2 : hs_R m 22 (3 * p + 2) + 1 = hs_R x 14 k ∧ hs_R m 23 (3 * p + 2) = hs_R x 15 k
    · rw [if_pos q2]
      exact ⟨fun _ => rfl, fun z => absurd ⟨congrArg nI q, Or.inr (Or.inr (sw.mp q2))⟩ z⟩
    rw [if_neg q2]
    refine ⟨?_, fun _ => rfl⟩
    rintro ⟨-, z | z | z⟩
    · exact absurd (sw.mp z) q0
    · exact absurd (sw.mp z) q1
    · exact absurd (sw.mp z) q2
  · rw [if_neg q]
    exact ⟨fun z => absurd ((nI_eq (by omega) (by omega)).mp z.1) q, fun _ => rfl⟩
/-- the two heaps behind a round -/
theorem rd_end (h : Rl c T Rd nh st sv hn hb hp hr x m) (h0 : 0 < T) (hRd : Rd < 100) {lt : Nat} (hlt : lt ≤ 400) {pl : Nat → Nat} (hl3 : ∀ i, i < lt → (pl i < 3 * T ∧ hs_R x 13 i = nI (pl i) ∧ hs_R m 15 i = nI (pl i)) ∧ hs_R x 14 i = hs_R m 16 i ∧ hs_R x 15 i = hs_R m 17 i) {m1 : hs_T} (e1 : m1.1 = m.1) (e2 : m1.2.2.1 = m.2.2.1) (e3 : ∀ k, k ≠ 28 → k ≠ 29 → hs_F m1 k 0 = hs_F m k 0) (e28 : hs_F m1 28 0 = nI 0) (e29 : hs_F m1 29 0 = nI lt) (e4 : ∀ a, a ≠ 18 → a ≠ 19 → a ≠ 20 → hs_R m1 a = hs_R m a) (e5 : ∀ k, k < lt → hs_R m1 18 k = hs_R m 15 k ∧ hs_R m1 19 k = hs_R m 16 k ∧ hs_R m1 20 k = hs_R m 17 k) {x2 m2 : hs_T} (hw : wS (3 * T) T Rd st sv x2 m2) (fa : frA T sv x x2) (fb : frB (ptX m1 (3 * T)) m2) {y : hs_T} (y1 : y.1 = x2.1) (y2 : y.2.2 = x2.2.2) (y3 : ∀ k q, (k ≠ 13 ∨ ∀ p, p < 3 * T → q ≠ sv p) → hs_F y k q = hs_F x2 k q) (y4 : ∀ p, p < 3 * T → hs_F y 13 (sv p) = hs_F x2 13 (sv p) + sm (cnV sv pl (hs_R x2 14) (hs_R x2 15) x2 p) lt) : Rl (c + 1) T (Rd + 1) nh st sv hn hb hp hr (hs_wF (hs_wF y 3 12 0) 8 0 (nI (Rd + 1))) (hs_wF m2 1 0 (nI (Rd + 1))) := by
  obtain ⟨hM, hC, hN, hnh, ⟨h5, h100, n1, n2, n3, n4, n5, n6, n7, n8, n9, -⟩, hS, hT, hL, hV, hP, hc, hK, hA, hH, hG, hO⟩ := h
  obtain ⟨a1, a2, a3, a4, a5, a6⟩ := ptX_is (m := m1) (3 * T) (by omega)
  obtain ⟨hC2, hM2, hS2, hV2, ⟨w3, w2, w1, w4⟩, hf2, hO2, hW⟩ := hw
  obtain ⟨f1, f2, f3, f4, f5⟩ := fa
  obtain ⟨g1, g2, g3, g4⟩ := fb
  have z17 : ∀ p, p < 3 * T → 17 ≤ sv p := fun p hp2 => (hV.1 p hp2).1
  have yG : hs_G y = hs_G x2 := by show y.2.2.1 = x2.2.2.1; rw [y2]
  have yR : hs_R y = hs_R x2 := by show y.2.2.2.1 = x2.2.2.2.1; rw [y2]
  have yO : hs_O y = hs_O x2 := by show y.2.2.2.2 = x2.2.2.2.2; rw [y2]
  generalize hx3 : hs_wF (hs_wF y 3 12 0) 8 0 (nI (Rd + 1)) = x3
  generalize hm3 : hs_wF m2 1 0 (nI (Rd + 1)) = m3
  have X1 : x3.1 = x2.1 := by subst hx3; exact y1
  have XG : hs_G x3 = hs_G x2 := by subst hx3; exact yG
  have XG' : x3.2.2.1 = x2.2.2.1 := XG
  have XR : hs_R x3 = hs_R x2 := by subst hx3; exact yR
  have XO : hs_O x3 = hs_O x2 := by subst hx3; exact yO
  have XF : ∀ k q, ¬ (k = 3 ∧ q = 12) → ¬ (k = 8 ∧ q = 0) → (k ≠ 13 ∨ ∀ p, p < 3 * T → q ≠ sv p) → hs_F x3 k q = hs_F x2 k q := by
    intro k q z1 z2 z3
    subst hx3
    rw [pb_F_wF, if_neg z2, pb_F_wF, if_neg z1]
    exact y3 k q z3
  have X13 : ∀ p, p < 3 * T → hs_F x3 13 (sv p) = sm (cnV sv pl (hs_R x2 14) (hs_R x2 15) x2 p) lt := by
    intro p hp2
    have e0 : hs_F x2 13 (sv p) = 0 := (hW p hp2).2.2.2.2.2.2.2.2.2.2 hp2
    subst hx3
    rw [pb_F_wF, if_neg (by omega), pb_F_wF, if_neg (by omega), y4 p hp2, e0, Int32.zero_add]
  have X8 : hs_F x3 8 0 = nI (Rd + 1) := by subst hx3; rw [pb_F_wF, if_pos ⟨rfl, rfl⟩]
  have X312 : hs_F x3 3 12 = nI 0 := by subst hx3; rw [pb_F_wF, if_neg (by decide), pb_F_wF, if_pos ⟨rfl, rfl⟩]; rfl
  -- against the old heap
  have xF : ∀ k q, ¬ (k = 3 ∧ q = 12) → ¬ (k = 8 ∧ q = 0) → q ≠ 9 → (∀ p, p < 3 * T → q ≠ sv p) → hs_F x3 k q = hs_F x k q := fun k q z1 z2 z3 z4 => (XF k q z1 z2 (Or.inr z4)).trans (f4 k q z3 z4)
  have lo : ∀ q, q < 17 → ∀ p, p < 3 * T → q ≠ sv p := fun q hq p hp2 => by have := z17 p hp2; omega
  have xR : ∀ q, q ≠ 10 → q ≠ 11 → (∀ p i, p < 3 * T → i ≤ 7 → i ≠ 3 → q ≠ sv p + i) → hs_R x3 q = hs_R x q := fun q z1 z2 z3 => by rw [XR]; exact f5 q z1 z2 z3
  have loR : ∀ q, q < 17 → ∀ p i, p < 3 * T → i ≤ 7 → i ≠ 3 → q ≠ sv p + i := fun q hq p i hp2 _ _ => by have := z17 p hp2; omega
  have eN : hs_N x3 = hs_N x := (hs_N_of X1).trans (hs_N_of f1)
  have eK : hs_K x3 = hs_K x := (hs_K_of X1).trans (hs_K_of f1)
  have eL : hs_L x3 = hs_L x := (hs_L_of X1).trans (hs_L_of f1)
  have eO : hs_O x3 = hs_O x := XO.trans f2
  have M1 : m3.1 = m2.1 := by subst hm3; rfl
  have MG : m3.2.2.1 = m2.2.2.1 := by subst hm3; rfl
  have MR : hs_R m3 = hs_R m2 := by subst hm3; rfl
  have MF : ∀ k, k ≠ 1 → hs_F m3 k 0 = hs_F m2 k 0 := fun k hk => by subst hm3; rw [pb_F_wF, if_neg (fun z => hk z.1)]
  have MF1 : hs_F m3 1 0 = nI (Rd + 1) := by subst hm3; rw [pb_F_wF, if_pos ⟨rfl, rfl⟩]
  have mF : ∀ k, k ≠ 1 → k ≠ 19 → k ≠ 20 → k ≠ 21 → k ≠ 28 → k ≠ 29 → hs_F m3 k 0 = hs_F m k 0 := fun k z1 z2 z3 z4 z5 z6 => by rw [MF k z1, g3 k z2 z3 z4, a3]; exact e3 k z5 z6
  have mR1 : ∀ a, a = 1 ∨ a = 6 ∨ a = 7 ∨ a = 13 ∨ (15 ≤ a ∧ a ≤ 20) ∨ 26 ≤ a → hs_R m3 a = hs_R m1 a := fun a z => by rw [MR, g4 a (by omega)]; exact a4 a (by omega) (by omega) (by omega) (by omega)
  have mR : ∀ a, a = 1 ∨ a = 13 ∨ (15 ≤ a ∧ a ≤ 17) ∨ 26 ≤ a → hs_R m3 a = hs_R m a := fun a z => (mR1 a (by omega)).trans (e4 a (by omega) (by omega) (by omega))
  obtain ⟨fa', k1, k2, k3⟩ := hf2
  have row3 : ∀ q, q < 3 * T → hs_R x3 (sv q + 3) = hs_R x (sv q + 3) := fun q hq => xR _ (by have := z17 q hq; omega) (by have := z17 q hq; omega) (fun p i hp2 hi hi3 z => hi3 (sv_row (hV.1 q hq) (hV.1 p hp2) (by omega) (by omega) (by decide) hi z).2.1.symm)
  have pq : ∀ g i len sg nm, pQ x2 m2 g i len sg nm → pQ x3 m3 g i len sg nm := fun g i len sg nm z => pQ_of (x := x2) (m := m2) X1 XG' (XF 0 g (by omega) (by omega) (Or.inl (by decide))) (by rw [XR]) (by rw [XR]) (by rw [MR]) (fun k _ => by rw [MR]) (fun k _ => by rw [MR]) z
  refine ⟨mS_of M1 MG hM2, cS_of X1 XG' hC2, by rw [eN]; omega, by omega, ⟨h5, by omega, (mF 0 (by decide) (by decide) (by decide) (by decide) (by decide) (by decide)).trans n1, MF1, X8, (xF 2 2 (by decide) (by decide) (by decide) (lo 2 (by decide))).trans n4, by rw [xF 9 0 (by decide) (by decide) (by decide) (lo 0 (by decide)), mF 30 (by decide) (by decide) (by decide) (by decide) (by decide) (by decide)]; exact n5, by rw [XF 5 9 (by decide) (by decide) (Or.inl (by decide)), MF 21 (by decide), k2, k3], (xF 2 3 (by decide) (by decide) (by decide) (lo 3 (by decide))).trans n7, (mF 38 (by decide) (by decide) (by decide) (by decide) (by decide) (by decide)).trans n8, fun _ => h0, fa', k1, by rw [MF 21 (by decide)]; exact k3⟩, ⟨fun w hw => by rw [XR, MR]; exact hS2.1 w hw, hS.2⟩, ?_, ⟨0, by decide, X312, ?_, fun i hi => absurd hi (by omega)⟩, ⟨fun q hq => sB_of2 X1 XG' (XF _ _ (by omega) (by omega) (Or.inl (by decide))) (XF _ _ (by omega) (by omega) (Or.inl (by decide))) (hV2.1 q hq), lS_of X1 XG' XO (XF _ _ (by decide) (by decide) (Or.inl (by decide))) hV2.2⟩, fun q hq => ?_, fun q hq => ?_, fun _ q hq i hi => ?_, fun _ => ⟨lt, hlt, ?_, fun q hq => ⟨cnV sv pl (hs_R x2 14) (hs_R x2 15) x2 q, fun k hk => ?_, X13 q hq⟩⟩, fun q hq b hb2 r hr2 => ?_, ⟨?_, fun e q1 q2 => ?_, fun j hj => ?_, fun φ => ?_⟩, fun i hi => ?_, fun z => absurd z (by omega)⟩
  · obtain ⟨tp, t0, t1, t2, t3⟩ := hT
    refine ⟨tp, t0, (xF 1 4 (by decide) (by decide) (by decide) (lo 4 (by decide))).trans t1, (mF 7 (by decide) (by decide) (by decide) (by decide) (by decide) (by decide)).trans t2, fun i hi => ?_⟩
    rw [xR 5 (by decide) (by decide) (loR 5 (by decide)), mR 1 (by decide)]
    exact t3 i hi
  · rw [MF 28 (by decide), g3 28 (by decide) (by decide) (by decide), a3]
    exact e28
  · obtain ⟨v1, v2, -⟩ := hW q hq
    obtain ⟨v3, v4⟩ := v2 hq
    refine ⟨?_, Or.inl ⟨by rw [XG]; exact v3, by rw [MR]; exact v1⟩⟩
    rw [XG, MR]
    refine v4.imp id ?_
    rintro ⟨g, z1, len, sg, nm, z⟩
    exact ⟨g, z1, len, sg, nm, pq _ _ _ _ _ z⟩
  · obtain ⟨-, -, -, v4, v5, v6, -, v8, v9, -, -⟩ := hW q hq
    obtain ⟨u, u1, u2, u3, u4⟩ := v8 hq
    rw [XR, MR, XF 11 (sv q) (by omega) (by omega) (Or.inl (by decide)), XF 12 (sv q) (by omega) (by omega) (Or.inl (by decide))]
    refine ⟨v4, v5, v6, u4.symm, v9.1, fun r hr2 => ?_⟩
    by_cases e : r = Rd
    · subst e
      exact ⟨u, u1, u2, u3⟩
    · exact v9.2 r (by omega)
  · rw [XR, MR]
    exact (hW q hq).2.2.2.2.2.2.2.2.2.1 hq i hi
  · rw [MF 29 (by decide), g3 29 (by decide) (by decide) (by decide), a3]
    exact e29
  · obtain ⟨⟨z1, z2, z3⟩, z4, z5⟩ := hl3 k hk
    obtain ⟨c1, c2, c3⟩ := e5 k hk
    have w10 := (hW q hq).2.2.2.2.2.2.2.2.2.1 hq
    have r14 : hs_R x2 14 = hs_R x 14 := f5 14 (by decide) (by decide) (loR 14 (by decide))
    have r15 : hs_R x2 15 = hs_R x 15 := f5 15 (by decide) (by decide) (loR 15 (by decide))
    refine lk_il (x := x2) (m := m3) (by omega) (by omega) ?_ ?_ ?_ (fun i hi => ?_)
    · rw [mR1 18 (by decide), c1]; exact z3
    · rw [mR1 19 (by decide), c2, r14]; exact z4.symm
    · rw [mR1 20 (by decide), c3, r15]; exact z5.symm
    · rw [MR]
      exact ⟨(w10 i hi).1, (w10 i hi).2.1⟩
  · obtain ⟨v, v1, v2, v3, v4⟩ := hH q hq b hb2 r hr2
    rw [row3 q hq, mR 27 (by decide)]
    exact ⟨v, by omega, v2, v3, fun z => ⟨by have := (v4 z).1; omega, (v4 z).2⟩⟩
  · have q := hG.1
    unfold lS at q ⊢
    rw [xF 2 3 (by decide) (by decide) (by decide) (lo 3 (by decide)), XG, f3 1 3 (lo 3 (by decide)), eK, eN, eL, eO]
    exact q
  · rw [XG, f3 1 2 (lo 2 (by decide))] at q1
    rw [XG, f3 1 3 (lo 3 (by decide))] at q2
    exact hG.2.1 e q1 q2
  · obtain ⟨v1, v2, v3, v4, v5, v6, v7, v8, v9⟩ := hG.2.2.1 j hj
    have hne : ∀ p, p < 3 * T → hn j ≠ sv p := fun p hp2 z => by
      have := (hV.1 p hp2).2.2.1
      rw [← z, v1] at this
      cases this
    rw [eK, eN, xF 0 _ (by omega) (by omega) (by omega) hne, XG, f3 1 _ hne, xF 2 _ (by omega) (by omega) (by omega) hne]
    exact ⟨v1, v2, v3, v4, v5, v6, v7, v8, by omega⟩
  · have e27 := mR 27 (by decide)
    show _ = sm _ (Rd + 1)
    show _ = sm _ Rd + sm (fun p => sm (fun b => if hs_R m3 27 (75 * Rd + 5 * p + b) = 0 then 0 else φ b p Rd) T) (3 * T)
    have z : sm (fun p => sm (fun b => if hs_R m3 27 (75 * Rd + 5 * p + b) = 0 then 0 else φ b p Rd) T) (3 * T) = 0 := by
      refine sm_zero (fun p hp2 => sm_zero (fun b hb2 => ?_))
      obtain ⟨v, v1, v2, v3, v4⟩ := hH p hp2 b (by omega) Rd hRd
      have v0 : v = 0 := by
        by_cases q : v = 0
        · exact q
        · have := (v4 q).1; omega
      show (if hs_R m3 27 (75 * Rd + 5 * p + b) = 0 then 0 else φ b p Rd) = 0
      rw [e27, v3, v0, if_pos (show nI 0 = 0 from rfl)]
    rw [z, Int32.add_zero]
    rw [hG.2.2.2 φ]
    exact (smH_of e27 φ).symm
  · rw [mR 26 (by decide)]
    exact hO.1 i hi
theorem op_round (hfu : 600 < fu) (h : Rl c T Rd nh st sv hn hb hp hr x m) : Op c (fX7_round fu x 0) (fX8_round fu m 0) := by
  have h0 := h
  obtain ⟨hM, hC, hN, hnh, hrn, hS, hT, ⟨lt, l0, l1, l2, l3⟩, hV, -⟩ := h
  obtain ⟨h5, h100, n1, n2, n3, n4, -⟩ := id hrn
  unfold fX7_round fX8_round
  rw [c_g1_0 hC, pb_bind, c_ck2 hC, pb_bind]
  unfold fJx4a65c_isEmpty_aae02
  rw [c_gI2 hC, pb_bind, n4, m_gI hM, pb_bind, n1]
  by_cases q : T = 0
  · subst q
    exact Op_same h0 ⟨-3, by rw [if_pos (show nI (3 * 0) = 0 from rfl), pb_b2, if_neg o_nz], by rw [if_pos (show nI 0 = 0 from rfl)]⟩
  rw [if_neg (n_z (a := 3 * T) (by omega) (by omega)), pb_b2, if_pos rfl, c_gI0 hC, pb_bind, n3, if_neg (n_z (a := T) (by omega) (by omega)), m_gI hM, pb_bind, n2]
  by_cases q2 : Rd = 100
  · subst q2
    exact Op_same h0 ⟨-4, by rw [if_neg (show ¬ nI 100 < 100 by decide)], by rw [if_pos (show nI 100 = 100 from rfl)]⟩
  rw [if_pos (show nI Rd < 100 from nI_lt (b := 100) (by omega) (by decide)), if_neg (show ¬ nI Rd = 100 from n_ne (b := 100) (by omega) (by decide) q2)]
  obtain ⟨m1, b1, b2, b3, b4, b5, b6, b7, b8⟩ := rd_copy (fu := fu) hM l0 l2 hfu
  have w0 := wS_0 h0 b2 b3 b4 b7
  rw [b1, rd_patch (mS_of b2 b3 hM) h5 ((b4 0 (by decide) (by decide)).trans n1) hfu]
  obtain ⟨x2, m2, acc, d1, d2, d3, d4, d5⟩ := rq_loop (fu := fu) h5 (by omega) hfu (3 * T) 0 x (ptX m1 (3 * T)) 0 (by omega) w0
  obtain ⟨f, hf⟩ : ∃ f, fu = f + 1 + 3 * T := ⟨fu - 1 - 3 * T, by omega⟩
  have c1 : fX7_round_29 fu x 0 0 0 = hs_lp (rqB fu) (f + 1 + 3 * T) (x, 0, 0, nI 0) := by rw [← hf]; rfl
  have c2 : fX8_round_207 fu (ptX m1 (3 * T)) 0 0 0 = hs_lp (rqM fu) (f + 1 + 3 * T) (ptX m1 (3 * T), 0, 0, nI 0) := by rw [← hf]; rfl
  rw [c1, c2, d1, d2]
  obtain ⟨pl, hpl⟩ : ∃ pl : Nat → Nat, ∀ i, i < lt → (pl i < 3 * T ∧ hs_R x 13 i = nI (pl i) ∧ hs_R m 15 i = nI (pl i)) ∧ hs_R x 14 i = hs_R m 16 i ∧ hs_R x 15 i = hs_R m 17 i := by
    refine ⟨fun i => if hi : i < lt then Classical.choose (l3 i hi).1 else 0, fun i hi => ?_⟩
    have e : (if hi : i < lt then Classical.choose (l3 i hi).1 else 0) = Classical.choose (l3 i hi).1 := dif_pos hi
    show ((if hi : i < lt then Classical.choose (l3 i hi).1 else 0) < 3 * T ∧ hs_R x 13 i = nI (if hi : i < lt then Classical.choose (l3 i hi).1 else 0) ∧ hs_R m 15 i = nI (if hi : i < lt then Classical.choose (l3 i hi).1 else 0)) ∧ _
    rw [e]
    exact ⟨Classical.choose_spec (l3 i hi).1, (l3 i hi).2⟩
  obtain ⟨hC2, hM2, hS2, hV2, ⟨w3, w2, w1, w4⟩, -⟩ := id d3
  have z17 : ∀ q, q < 17 → ∀ p i, p < 3 * T → i ≤ 7 → i ≠ 3 → q ≠ sv p + i := fun q hq p i hp2 _ _ => by have := (hV.1 p hp2).1; omega
  have r13 : hs_R x2 13 = hs_R x 13 := d4.2.2.2.2 13 (by decide) (by decide) (z17 13 (by decide))
  have f12 : hs_F x2 3 12 = nI lt := by
    rw [d4.2.2.2.1 3 12 (by decide) (fun p hp2 => by have := (hV.1 p hp2).1; omega)]
    exact l1
  have hlk := rd_like (fu := fu) (pl := pl) hC2 hV2 h5 w4 l0 f12 (fun i hi => ⟨(hpl i hi).1.1, by rw [r13]; exact (hpl i hi).1.2.1⟩) hfu
  have hinj : ∀ p q, p < 3 * T → q < 3 * T → sv p = sv q → p = q := fun p q h1 h2 e => (sv_row (hV.1 p h1) (hV.1 q h2) (by omega) (by omega) (i := 0) (j := 0) (by decide) (by decide) (by omega)).2.2
  obtain ⟨y1, y2, y3, y4⟩ := clX_is (a := hs_R x2 14) (b := hs_R x2 15) (x := x2) hinj (fun i hi => (hpl i hi).1.1) lt (Nat.le_refl _)
  have hend := rd_end h0 (by omega) (by omega) l0 hpl b2 b3 b4 b5 b6 b7 b8 d3 d4 d5 y1 y2 y3 y4
  generalize clX sv pl (hs_R x2 14) (hs_R x2 15) x2 lt = y at hlk y1 y2 y3 y4 hend
  have hCy : cS y := cS_of y1 (by rw [y2]) hC2
  refine ⟨acc, _, _, ?_, ?_, T, Rd + 1, nh, st, sv, hn, hb, hp, hr, hend⟩
  · rw [pb_lp0]
    show fX7_round_29b fu _ x2 0 acc (nI (3 * T)) = _
    unfold fX7_round_29b
    rw [c_g1_0 hC2, pb_bind, c_ck2 hC2, pb_bind]
    unfold fJx4a65c_size_8abf5
    rw [c_gI2 hC2, pb_bind, pb_b2, w4, if_pos (nI_le (Nat.le_refl _) (by omega)), c_g6_0 hC2, pb_bind, c_g1_0 hC2, pb_bind, c_ck12 hC2, pb_bind, hlk, pb_b2, c_g6_0 hCy, pb_bind, c_pI12 hCy, pb_bind, c_gI0 (σ := hs_wF y 3 12 0) hCy, pb_bind, c_pI0 (σ := hs_wF y 3 12 0) hCy, pb_bind]
    have e : hs_F (hs_wF y 3 12 0) 8 0 = nI Rd := by
      rw [pb_F_wF, if_neg (by decide), y3 8 0 (Or.inl (by decide))]
      exact w3
    rw [e, nI_1]
  · rw [pb_lp0]
    show fX8_round_207b fu _ m2 0 acc (nI (3 * T)) = _
    unfold fX8_round_207b
    rw [m_gI hM2, pb_bind, w1, il 3, pk_mul, if_pos (nI_le (Nat.le_refl _) (by omega)), m_gI hM2, pb_bind, w2, m_pI hM2, pb_bind, nI_1]
end Round
