/-! Pure part 21: one service of a round, on both sides -/
section RdOne
variable {c T Rd nh fu n p i j : Nat} {st sv hn hb hp hr : Nat → Nat} {x x' m m' : hs_T}
theorem sB_T {k0 nq q : Nat} (fx : frT x k0 x') (hne : 17 ≤ nq) (hB0 : sB x k0 j) (h : sB x nq q) : sB x' nq q := by
  obtain ⟨f1, f2, f3, f4, f5⟩ := fx
  obtain ⟨a1, a2, a3, a4, a5, a6, a7, a8⟩ := h
  have eG : ∀ k, k < 9 → hs_G x' k nq = hs_G x k nq := fun k hk => f3 k nq (by omega)
  refine ⟨a1, by rw [hs_N_of f1]; exact a2, by rw [hs_K_of f1]; exact a3, by rw [hs_K_of f1]; exact a4, by rw [hs_L_of f1]; exact a5, ?_, by rw [f4 0 nq (by omega) (by omega)]; exact a7, by rw [f4 1 nq (by omega) (by omega)]; exact a8⟩
  rw [eG 2 (by decide), eG 3 (by decide), eG 4 (by decide), eG 5 (by decide), eG 6 (by decide), eG 7 (by decide), eG 8 (by decide)]
  exact a6
theorem rV_T {k0 : Nat} (fx : frT x k0 x') (hB0 : sB x k0 j) (h : rV T sv x) : rV T sv x' := by
  have h17 := hB0.1
  refine ⟨fun q hq => sB_T fx (h.1 q hq).1 hB0 (h.1 q hq), ?_⟩
  obtain ⟨f1, f2, f3, f4, f5⟩ := fx
  have eO : hs_O x' = hs_O x := f2
  have h2 := h.2
  unfold lS at h2 ⊢
  rw [f4 2 2 (by decide) (by omega), f3 1 2 (by omega), hs_K_of f1, hs_N_of f1, hs_L_of f1, eO]
  exact h2
theorem b01_and {u : Int32} (h : b01 u) : u &&& 1 = u := by
  rcases h with rfl | rfl <;> decide
theorem rd_one (h : wS j T Rd st sv x m) (hj : j < 3 * T) (h5 : T ≤ 5) (hRd : Rd < 100) (hfu : 600 < fu) : ∃ x' m' u, b01 u ∧ (∀ k acc, fX7_round_29b fu k x 0 acc (nI j) = k x' 0 (acc + u) (nI (j + 1))) ∧ (∀ k acc, fX8_round_207b fu k m 0 acc (nI j) = k m' 0 (acc + u) (nI (j + 1))) ∧ wS (j + 1) T Rd st sv x' m' ∧ frT x (sv j) x' ∧ frU Rd m j m' := by
  obtain ⟨hC, hM, hS, hV, ⟨n3, n2, n1, n4⟩, hf, hO, hW⟩ := h
  have hB := hV.1 j hj
  have h17 := hB.1
  obtain ⟨w1, w2, w3, w4, w5, w6, w7, w8, w9, w10, w11⟩ := hW j hj
  generalize hn0 : sv j = n at *
  obtain ⟨x1, t1, t2⟩ := c_take (fu := fu) hB (fun g e => by
    rcases w3 (Nat.le_refl _) with ⟨g', e1, len, sg, nm, z⟩ | ⟨e1, -⟩
    · rw [e1] at e
      have := Option.some.inj e
      have := z.2.1
      omega
    · rw [e1] at e
      cases e)
  have x1a : x1.1 = x.1 := by rcases t2 with ⟨-, rfl⟩ | ⟨g, -, rfl⟩ <;> rfl
  have x1F : hs_F x1 = hs_F x := by rcases t2 with ⟨-, rfl⟩ | ⟨g, -, rfl⟩ <;> rfl
  have x1R : hs_R x1 = hs_R x := by rcases t2 with ⟨-, rfl⟩ | ⟨g, -, rfl⟩ <;> rfl
  have x1O : x1.2.2.2.2 = x.2.2.2.2 := by rcases t2 with ⟨-, rfl⟩ | ⟨g, -, rfl⟩ <;> rfl
  have x1G : ∀ k q, ¬ (q = n ∧ (k = 9 ∨ k = 10)) → hs_G x1 k q = hs_G x k q := by
    intro k q hk
    rcases t2 with ⟨-, rfl⟩ | ⟨g, -, rfl⟩
    · rfl
    · rw [pb_G_wG, if_neg (by omega), pb_G_wG, if_neg (by omega)]
  have hC1 : cS x1 := by rcases t2 with ⟨-, rfl⟩ | ⟨g, -, rfl⟩ <;> exact hC
  have hB1 : sB x1 n j := by rcases t2 with ⟨-, rfl⟩ | ⟨g, -, rfl⟩ <;> exact hB
  have g10 : hs_G x1 10 n = none := by
    rcases t2 with ⟨e, rfl⟩ | ⟨g, -, rfl⟩
    · exact e
    · rw [pb_G_wG, if_pos ⟨rfl, rfl⟩]
  have hp1 : (hs_G x1 9 n = none ∧ hs_R m 4 j = nI 0) ∨ ∃ g, hs_G x1 9 n = some g ∧ pG x1 m g j := by
    have tr : ∀ g, pG x m g j → pG x1 m g j := by
      rintro g ⟨len, sg, nm, z⟩
      refine ⟨len, sg, nm, ?_⟩
      have hg : g ≠ n := fun e => pQ_row z hB (j := 0) (k := 0) (by decide) (by decide) (by omega)
      obtain ⟨q1, q2, q3, q4, q5, q6, q7, q8, q9, q10, q11, q12, q13, q14⟩ := z
      refine ⟨q1, by rw [hs_N_of x1a]; exact q2, by rw [hs_K_of x1a]; exact q3, by rw [hs_K_of x1a]; exact q4, by rw [hs_K_of x1a]; exact q5, by rw [x1G _ _ (fun z => hg z.1)]; exact q6, by rw [x1G _ _ (fun z => hg z.1)]; exact q7, q8, q9, by rw [x1F]; exact q10, q11, by rw [hs_L_of x1a]; exact q12, by rw [hs_L_of x1a]; exact q13, ?_⟩
      rw [x1R]
      exact q14
    rcases t2 with ⟨e, rfl⟩ | ⟨g, e, hx1⟩
    · rcases w3 (Nat.le_refl _) with ⟨g', e1, -⟩ | ⟨-, z⟩
      · rw [e] at e1; cases e1
      · exact z
    · rcases w3 (Nat.le_refl _) with ⟨g', e1, z⟩ | ⟨e1, -⟩
      · rw [e] at e1
        have e2 := Option.some.inj e1
        subst e2
        refine Or.inr ⟨g, ?_, tr g z⟩
        rw [hx1, pb_G_wG, if_neg (by omega), pb_G_wG, if_pos ⟨rfl, rfl⟩]
      · rw [e] at e1; cases e1
  have I1 : ckI Rd j n st x1 m := ⟨hC1, hM, hB1, rS_of2 (by rw [x1R]) rfl hS, by rw [x1F]; exact n3, hp1, by rw [x1R]; exact w4, by rw [x1F]; exact hf, by rw [x1F]; exact w5, by rw [x1F]; exact w6, hO⟩
  obtain ⟨x2, m2, u, b1, b2, b3, I2, fw, fv, b4⟩ := ck_all (fu := fu) I1 (by omega) hRd hfu
  obtain ⟨hC2, hM2, hB2, hS2, f8, hp2, hc2, hf2, h11, h12, hO2⟩ := id I2
  obtain ⟨a1, a2, a3, a4, a5⟩ := id fw
  obtain ⟨v1, v2, v3, v4, v5, v6, v7, v8⟩ := id fv
  have r2 : hs_R x2 (n + 2) = hs_R x (n + 2) := by rw [a5 (n + 2) (by omega) (by omega) (by omega) (by omega) (by omega) (by omega) (by omega), x1R]
  have r12 : hs_R m2 12 = hs_R m 12 := v5 12 (by decide) (by decide) (by decide) (by decide) (by decide) (by decide) (by decide) (by decide) (by decide)
  have m1r : hs_F m2 1 0 = nI Rd := by rw [v4 1 (by decide) (by decide) (by decide)]; exact n2
  have fx : frT x n (hs_wF (hs_wR x2 (n + 2) (Rd + 1) (hs_R x (n + 2) Rd + u)) 13 n 0) := by
    refine ⟨a1.trans x1a, a3.trans x1O, fun k q hk => ?_, fun k q h9 hk => ?_, fun q c1 c2 c3 c4 c5 c6 c7 c8 => ?_⟩
    · show hs_G x2 k q = _
      rw [show hs_G x2 = hs_G x1 from a2]
      exact x1G k q hk
    · rw [pb_F_wF, if_neg (by omega)]
      show hs_F x2 k q = _
      rw [a4 k q h9 (by omega), x1F]
    · show hs_R (hs_wR x2 (n + 2) (Rd + 1) _) q = _
      rw [wR_ne c4, a5 q c1 c2 c3 c5 c6 c7 c8, x1R]
  have fm : frU Rd m j (hs_wR (hs_wR m2 21 (15 * Rd + j) u) 12 j (hs_R m 12 j + u)) := by
    refine ⟨v1, v2, v4, fun a c1 c2 c3 c4 c5 c6 c7 c8 c9 c10 c11 => ?_, fun i hi => ?_, fun q hq => ⟨?_, ?_, ?_⟩, fun i hi => ?_, fun a h1 h2 i hi => ?_⟩
    · rw [wR_ne c5, wR_ne c7]
      exact v5 a c1 c2 c3 c4 c6 c8 c9 c10 c11
    · rw [wR_ne (by decide), wR_ne (by decide)]; exact v6 i hi
    · rw [wR_ne (by decide), wR_ne (by decide)]; exact (v7 q hq).1
    · rw [wR_ne (by decide), wR_ne (by decide)]; exact (v7 q hq).2
    · rw [pb_R_wR, if_neg (by omega), wR_ne (by decide), r12]
    · rw [wR_ne (by decide), pb_R_wR, if_neg (by omega)]
      exact congrFun (v5 21 (by decide) (by decide) (by decide) (by decide) (by decide) (by decide) (by decide) (by decide) (by decide)) i
    · rw [wR_ne (by omega), wR_ne (by omega)]; exact v8 a h1 h2 i hi
  refine ⟨_, _, u, b1, fun k acc => ?_, fun k acc => ?_, ?_, fx, fm⟩
  · unfold fX7_round_29b
    rw [c_g1_0 hC, pb_bind, c_ck2 hC, pb_bind]
    unfold fJx4a65c_size_8abf5
    rw [c_gI2 hC, pb_bind, pb_b2, n4, if_neg (nI_ge hj (by omega)), c_g1_0 hC, pb_bind, c_ck2 hC, pb_bind, c_svc hC hV hj, pb_b2, pb_ms, hn0, s_ck hB, pb_bind, pb_bind, t1, pb_b2, c_ck0 hC1, pb_bind, b2, pb_b2]
    have fin : fX7_round_69 fu k x2 0 acc (nI j) n u = k (hs_wF (hs_wR x2 (n + 2) (Rd + 1) (hs_R x (n + 2) Rd + u)) 13 n 0) 0 (acc + u) (nI (j + 1)) := by
      unfold fX7_round_69
      rw [s_g3 hB2, pb_bind, c_gI0 hC2, pb_bind, pb_bind, pb_bind, f8, s_ld2 hB2 (by omega), pb_bind, nI_1, s_st2 hB2 (by omega), pb_bind, s_pI (x := hs_wR x2 (n + 2) (Rd + 1) (hs_R x2 (n + 2) Rd + u)) hB2, pb_bind, nI_1, r2]
    rcases b1 with rfl | rfl
    · rw [if_pos rfl]; exact fin
    · rw [if_neg o_nz]; exact fin
  · unfold fX8_round_207b
    rw [m_gI hM, pb_bind, n1, il 3, pk_mul, if_neg (nI_ge hj (by omega)), m_gI hM, pb_bind, n2, m_ck hM, pb_bind, b3, pb_b2, m_g31 hM2, pb_bind, m_gI hM2, pb_bind, m1r, il 15, pk_mul, nI_add, m_st21 hM2 (by omega), pb_bind, b01_and b1, m_g16 (σ := hs_wR m2 21 (15 * Rd + j) u) hM2, pb_bind, m_ld12 (σ := hs_wR m2 21 (15 * Rd + j) u) hM2 (by omega), pb_bind, wR_ne (by decide), r12]
    unfold fX8_round_258
    rcases b1 with rfl | rfl
    · rw [if_pos rfl, m_st12 (σ := hs_wR m2 21 (15 * Rd + j) 0) hM2 (by omega), pb_bind, if_pos rfl, nI_1]
    · rw [if_neg o_nz, m_st12 (σ := hs_wR m2 21 (15 * Rd + j) 1) hM2 (by omega), pb_bind, if_neg o_nz, nI_1]
  · have fx0 := fx
    have fm0 := fm
    obtain ⟨d1, d2, d3, d4, d5⟩ := fx
    obtain ⟨e1, e2, e3, e4, e5, e6, e7, e8⟩ := fm
    refine ⟨hC2, hM2, ?_, rV_T fx0 hB hV, ⟨?_, ?_, ?_, ?_⟩, ?_, ?_, fun q hq => ?_⟩
    · exact rS_of2 (x := x2) (m := m2) (wR_ne (by omega)) ((wR_ne (by decide)).trans (wR_ne (by decide))) hS2
    · rw [d4 8 0 (by decide) (by omega)]; exact n3
    · rw [e3 1 (by decide) (by decide) (by decide)]; exact n2
    · rw [e3 0 (by decide) (by decide) (by decide)]; exact n1
    · rw [d4 2 2 (by decide) (by omega)]; exact n4
    · obtain ⟨fa, z1, z2, z3⟩ := hf2
      exact ⟨fa, z1, by rw [pb_F_wF, if_neg (by omega)]; exact z2, z3⟩
    · rw [e4 26 (by decide) (by decide) (by decide) (by decide) (by decide) (by decide) (by decide) (by decide) (by decide) (by decide) (by decide)]
      exact hO
    · by_cases hqj : q = j
      · subst hqj
        rw [hn0]
        have r5 : hs_R m2 5 = hs_R m 5 := v5 5 (by decide) (by decide) (by decide) (by decide) (by decide) (by decide) (by decide) (by decide) (by decide)
        have u01 : ∃ uu, uu < 2 ∧ u = nI uu := by
          rcases b1 with rfl | rfl
          · exact ⟨0, by decide, rfl⟩
          · exact ⟨1, by decide, rfl⟩
        obtain ⟨uu, hu2, hu⟩ := u01
        have rx2 : ∀ i, hs_R (hs_wF (hs_wR x2 (n + 2) (Rd + 1) (hs_R x (n + 2) Rd + u)) 13 n 0) (n + 2) i = if i = Rd + 1 then hs_R x (n + 2) Rd + u else hs_R x (n + 2) i := by
          intro i
          show hs_R (hs_wR x2 (n + 2) (Rd + 1) _) (n + 2) i = _
          rw [pb_R_wR, r2]
          by_cases e : i = Rd + 1
          · rw [if_pos ⟨rfl, e⟩, if_pos e]
          · rw [if_neg (fun z => e z.2), if_neg e]
        have rxj : ∀ a, a ≠ 2 → hs_R (hs_wF (hs_wR x2 (n + 2) (Rd + 1) (hs_R x (n + 2) Rd + u)) 13 n 0) (n + a) = hs_R x2 (n + a) := fun a ha => wR_ne (by omega)
        have r21 : ∀ i, hs_R (hs_wR (hs_wR m2 21 (15 * Rd + q) u) 12 q (hs_R m 12 q + u)) 21 i = if i = 15 * Rd + q then u else hs_R m 21 i := by
          intro i
          rw [wR_ne (by decide), pb_R_wR, v5 21 (by decide) (by decide) (by decide) (by decide) (by decide) (by decide) (by decide) (by decide) (by decide)]
          by_cases e : i = 15 * Rd + q
          · rw [if_pos ⟨rfl, e⟩, if_pos e]
          · rw [if_neg (fun z => e z.2), if_neg e]
        have ry : ∀ a, a ≠ 21 → a ≠ 12 → hs_R (hs_wR (hs_wR m2 21 (15 * Rd + q) u) 12 q (hs_R m 12 q + u)) a = hs_R m2 a := fun a h1 h2 => (wR_ne h2).trans (wR_ne h1)
        refine ⟨?_, fun _ => ⟨?_, ?_⟩, fun hq' => absurd hq' (by omega), ?_, ?_, ?_, fun hq' => absurd hq' (by omega), fun _ => ⟨uu, hu2, ?_, ?_, ?_⟩, ⟨?_, fun r hr2 => ?_⟩, fun _ i hi => ?_, fun _ => ?_⟩
        · rw [ry 5 (by decide) (by decide), r5]; exact w1
        · show hs_G x2 10 n = none
          rw [show hs_G x2 = hs_G x1 from a2]
          exact g10
        · unfold pr9
          rw [ry 4 (by decide) (by decide)]
          refine hp2.imp id ?_
          rintro ⟨g, z1, len, sg, nm, z⟩
          have hg := z.1
          have hgn : g ≠ n := fun e => pQ_row z hB2 (j := 0) (k := 0) (by decide) (by decide) (by omega)
          refine ⟨g, z1, len, sg, nm, pQ_of (x := x2) (m := m2) rfl rfl ?_ ?_ ?_ (congrFun (ry 4 (by decide) (by decide)) q) (fun k _ => congrFun (ry 2 (by decide) (by decide)) _) (fun k _ => congrFun (ry 3 (by decide) (by decide)) _) z⟩
          · rw [pb_F_wF, if_neg (fun z => hgn z.2)]; rfl
          · exact wR_ne (pQ_row z hB2 (by decide) (by decide))
          · exact wR_ne (pQ_row z hB2 (by decide) (by decide))
        · rw [rxj 1 (by decide), ry 8 (by decide) (by decide)]; exact hc2
        · rw [pb_F_wF, if_neg (by omega), ry 10 (by decide) (by decide)]; exact h11
        · rw [pb_F_wF, if_neg (by omega), ry 11 (by decide) (by decide)]; exact h12
        · rw [r21, if_pos rfl, hu]
        · rw [rx2, if_pos rfl, rx2, if_neg (by omega), hu]
        · rw [rx2, if_pos rfl, pb_R_wR, if_pos ⟨rfl, rfl⟩, w7 (Nat.le_refl _)]
        · rw [rx2, if_neg (by omega)]; exact w9.1
        · rw [r21, if_neg (by omega), rx2, if_neg (by omega), rx2, if_neg (by omega)]
          exact w9.2 r hr2
        · rw [rxj 4 (by decide), rxj 5 (by decide), rxj 6 (by decide), rxj 7 (by decide), ry 22 (by decide) (by decide), ry 23 (by decide) (by decide), ry 24 (by decide) (by decide), ry 25 (by decide) (by decide)]
          exact b4 i hi
        · rw [pb_F_wF, if_pos ⟨rfl, rfl⟩]; rfl
      · exact wQ_other hqj (by omega) (by omega) hRd (hV.1 q hq) hB fx0 fm0 (hW q hq)
end RdOne
