/-! Pure part 6: one step of a run, on both sides -/
section Lock
variable {fu : Nat} {x0 m0 x m : hs_T} {n p h nx fa g len fl j av bv : Nat} {c0 pl cl sg nm : Nat → Nat}
def fa1 (fa : Nat) : Nat := (fa + 1) % 1000000
theorem fa1_lt (fa : Nat) : fa1 fa < 1000000 := Nat.mod_lt _ (by decide)
theorem n_fa (h : fa < 1000000) : nI fa + 1 - (nI fa + 1) / 1000000 * 1000000 = nI (fa1 fa) := by
  rw [nI_1, show (1000000 : Int32) = nI 1000000 from rfl, n_rem (by omega) (by decide) (by decide)]
  rfl
theorem c_fin {k : hs_T → Nat → Nat → Nat → Int32 → Int32 → Int32 → Option (Int32 × hs_T)} {q : Nat} {s v : Int32} (hC : cS x) : fX1_run_120 fu k x 9 g q (nI fl) (nI nx) (nI j) s v = hs_b2 (fX1_act fu x 9 s v q) fun _ y => k y 9 g q (nI fl) (nI (nx + 1)) (nI (j + 1)) := by
  unfold fX1_run_120 fX1_run_121 fX1_run_137
  rw [if_pos rfl, c_ck9 hC, pb_bind, nI_1, nI_1]
theorem c_finJ {k : hs_T → Nat → Nat → Nat → Int32 → Int32 → Int32 → Option (Int32 × hs_T)} {q : Nat} {s v : Int32} (hC : cS x) : fX1_run_116 fu k x 9 g q (nI fl) (nI nx) (nI j) s v = hs_b2 (fX1_act fu x 9 s v q) fun _ y => k y 9 g q (nI fl) v (nI (j + 1)) := by
  unfold fX1_run_116 fX1_run_121 fX1_run_137
  rw [if_neg o_nz, c_ck9 hC, pb_bind, nI_1]
theorem pr_rd (hB : sB x0 n p) (hQ : pQ x0 m0 g p len sg nm) (hx : frX x0 n x) : hs_K x g = 5 ∧ g < hs_N x ∧ hs_F x 0 g = nI len ∧ (hs_gN x 5 g 1 = some (g + 1) ∧ hs_gN x 5 g 2 = some (g + 2)) ∧ ∀ k, k < len → hs_ld x 11 (g + 1) (nI k) = some (nI (sg k)) ∧ hs_ld x 11 (g + 2) (nI k) = some (nI (nm k)) := by
  obtain ⟨q1, q2, q3, q4, q5, q6, q7, q8, q9, q10, q11, q12, q13, q14⟩ := hQ
  have hne : g ≠ n := fun e => by rw [e, hB.2.2.1] at q3; cases q3
  have hN := hs_N_of hx.1
  have eK := hs_K_of hx.1
  have eL := hs_L_of hx.1
  have eG : hs_G x = hs_G x0 := hx.2.1
  have r1 : hs_R x (g + 1) = hs_R x0 (g + 1) := hx.2.2.2.2 _ (by omega) (by omega) (by omega)
  have r2 : hs_R x (g + 2) = hs_R x0 (g + 2) := hx.2.2.2.2 _ (by omega) (by omega) (fun e => by
    have e2 : g + 1 = n := by omega
    rw [e2, hB.2.2.1] at q4
    cases q4)
  refine ⟨by rw [eK]; exact q3, by omega, (hx.2.2.2.1 0 g (by omega)).trans q10, ⟨pb_gN (by rw [eK]; exact q3) (by omega) (by rw [eG]; exact q6), pb_gN (by rw [eK]; exact q3) (by omega) (by rw [eG]; exact q7)⟩, fun k hk => ⟨?_, ?_⟩⟩
  · rw [pb_ld (N := len) (by rw [eK]; exact q4) (by omega) (by rw [eL]; exact q12) hk (by omega), r1, (q14 k hk).2.1]
  · rw [pb_ld (N := len) (by rw [eK]; exact q5) (by omega) (by rw [eL]; exact q13) hk (by omega), r2, (q14 k hk).2.2.2.1]
theorem c_pre (hC : cS x0) (hB : sB x0 n p) (hQ : pQ x0 m0 g p len sg nm) (hx : cR x0 n c0 (nI av) (nI bv) x h pl cl fa) (hfa : fa < 1000000) (hnx : nx < len) (hj : j < fl) (hfl : fl ≤ 500) (k : hs_T → Nat → Nat → Nat → Int32 → Int32 → Int32 → Option (Int32 × hs_T)) : fX1_run_6b fu k x 9 g (n + 1) (nI fl) (nI nx) (nI j) = hs_b2 (fX1_pileSuits fu (hs_wF x 5 9 (nI (fa1 fa))) 9 (nI (sg nx))) (fun v23 y => if v23 = 0 then some (10002, y) else (if (nI (sg nx)) = 111 then ((hs_gN y 3 9 0).bind fun n39 => (hs_gI y 3 9 2).bind fun v41 => (hs_ld y 11 n39 (v41 - 1)).bind fun v42 => some (v42, y)) else (if (nI (sg nx)) = 104 then (some (10000, y)) else (if (nI (sg nx)) = 103 then (fX1_run_116 fu k y 9 g (n + 1) (nI fl) (nI nx) (nI j) (nI (sg nx)) (nI (nm nx))) else (if (nI (sg nx)) = 106 then ((hs_ck y 3 9).bind fun _ => hs_b2 (fX1_pull fu y 9) fun v36 z => if v36 = 0 then (fX1_run_116 fu k z 9 g (n + 1) (nI fl) (nI nx) (nI j) (nI (sg nx)) (nI (nm nx))) else (fX1_run_120 fu k z 9 g (n + 1) (nI fl) (nI nx) (nI j) (nI (sg nx)) (nI (nm nx)))) else (fX1_run_120 fu k y 9 g (n + 1) (nI fl) (nI nx) (nI j) (nI (sg nx)) (nI (nm nx)))))))) := by
  have hC1 := cR_cS hC hx
  have hlen : len ≤ 24 := hQ.2.2.2.2.2.2.2.2.1
  obtain ⟨k1, k2, k3, k4, k5⟩ := pr_rd hB hQ hx.1
  unfold fX1_run_6b
  rw [if_neg (nI_ge hj (by omega)), pb_gI k1 k2, pb_bind, k3, if_neg (nI_ge hnx (by omega)), k4.1, pb_bind, (k5 nx hnx).1, pb_bind, k4.2, pb_bind, (k5 nx hnx).2, pb_bind, c_gI9 hC1, pb_bind, hx.2.2.2.2.1, n_fa hfa, c_pI9 hC1, pb_bind, c_ck9 (σ := hs_wF x 5 9 (nI (fa1 fa))) hC1, pb_bind]
theorem m_r196 (hM : mS m0) (hp : p < 15) (hQ : pQ x0 m0 g p len sg nm) (hm : mR m0 p c0 m h nx pl cl fa) (hnx : nx < len) {s : Int32} (h1 : ¬ s = 111) (h2 : ¬ s = 104) (k : hs_T → Nat → Int32 → Int32 → Int32 → Int32 → Option (Int32 × hs_T)) : fX8_runs_196 fu k m 0 (nI p) (nI av) (nI bv) (nI j + 1) s = hs_b2 (fX8_does fu m 0 (nI p) s (nI (nm nx)) (nI av) (nI bv)) fun _ y => k y 0 (nI p) (nI av) (nI bv) (nI (j + 1)) := by
  have hM1 := mR_mS hM hm
  have hlen : len ≤ 24 := hQ.2.2.2.2.2.2.2.2.1
  have e3 : hs_R m 3 (24 * p + nx) = nI (nm nx) := by
    rw [hm.1.2.2.2.2.1 3 (by decide) (by decide) (by decide)]
    exact (hQ.2.2.2.2.2.2.2.2.2.2.2.2.2 nx hnx).2.2.2.2
  unfold fX8_runs_196
  rw [if_neg h1, if_neg h2, m_g4 hM1, pb_bind, m_gI hM1, pb_bind, hm.2.2.1, show (24 : Int32) = nI 24 from rfl, pk_mul, nI_add, m_ld3 hM1 (by omega), pb_bind, e3, m_ck hM1, pb_bind, nI_1]
theorem m_pre (hM : mS m0) (hp : p < 15) (hQ : pQ x0 m0 g p len sg nm) (hS0 : hs_R m0 13 0 = nI fl) (hm : mR m0 p c0 m h nx pl cl fa) (hfa : fa < 1000000) (hnx : nx < len) (hj : j < fl) (hfl : fl ≤ 500) (k : hs_T → Nat → Int32 → Int32 → Int32 → Int32 → Option (Int32 × hs_T)) : fX8_runs_48b fu k m 0 (nI p) (nI av) (nI bv) (nI j) = hs_b2 (fX8_needs fu (hs_wF m 21 0 (nI (fa1 fa))) (nI (sg nx))) (fun v32 y => if nI h < v32 then (fX8_runs_150 fu y 0 (nI p) 0) else (hs_b2 (fX8_isPush fu y (nI (sg nx))) fun v51 z => if v51 = 0 then (fX8_runs_196 fu k z 0 (nI p) (nI av) (nI bv) (nI j + 1) (nI (sg nx))) else ((hs_gI z 10 0 19).bind fun v71 => if v71 = 8 then (fX8_runs_150 fu z 0 (nI p) 0) else (fX8_runs_196 fu k z 0 (nI p) (nI av) (nI bv) (nI j + 1) (nI (sg nx)))))) := by
  have hM1 := mR_mS hM hm
  have hlen : len ≤ 24 := hQ.2.2.2.2.2.2.2.2.1
  have e2 : hs_R (hs_wF m 21 0 (nI (fa1 fa))) 2 (24 * p + nx) = nI (sg nx) := by
    rw [pb_R_wF, hm.1.2.2.2.2.1 2 (by decide) (by decide) (by decide)]
    exact (hQ.2.2.2.2.2.2.2.2.2.2.2.2.2 nx hnx).2.2.1
  have e4 : hs_R m 4 p = nI len := by
    rw [hm.1.2.2.2.2.1 4 (by decide) (by decide) (by decide)]
    exact hQ.2.2.2.2.2.2.2.2.2.2.1
  have e13 : hs_R m 13 0 = nI fl := by
    rw [hm.1.2.2.2.2.1 13 (by decide) (by decide) (by decide)]
    exact hS0
  have f20 : hs_F (hs_wF m 21 0 (nI (fa1 fa))) 20 0 = nI nx := by rw [pb_F_wF, if_neg (by decide)]; exact hm.2.2.1
  have f19 : hs_F (hs_wF m 21 0 (nI (fa1 fa))) 19 0 = nI h := by rw [pb_F_wF, if_neg (by decide)]; exact hm.2.1
  unfold fX8_runs_48b
  rw [m_gI hM1, pb_bind, hm.2.2.1, m_g5 hM1, pb_bind, m_ld4 hM1 (by omega), pb_bind, e4, if_neg (nI_ge hnx (by omega)), m_g17 hM1, pb_bind, show (0 : Int32) = nI 0 from rfl, m_ld13 hM1 (by decide), pb_bind, e13, if_neg (n_ne (by omega) (by omega) (by omega)), m_gI hM1, pb_bind, hm.2.2.2.1, n_fa hfa, m_pI hM1, pb_bind, m_g3 (σ := hs_wF m 21 0 (nI (fa1 fa))) hM1, pb_bind, m_gI (σ := hs_wF m 21 0 (nI (fa1 fa))) hM1, pb_bind, f20, show (24 : Int32) = nI 24 from rfl, pk_mul, nI_add, m_ld2 (σ := hs_wF m 21 0 (nI (fa1 fa))) hM1 (by omega), pb_bind, e2, m_gI (σ := hs_wF m 21 0 (nI (fa1 fa))) hM1, pb_bind, f19]
/-- how a run ends -/
def rOut (fu : Nat) (x0 m0 : hs_T) (n p : Nat) (c0 : Nat → Nat) (av bv : Nat) (rx rm : Option (Int32 × hs_T)) : Prop := ∃ ans x1 m1 h h2 nx fa pl pl2 cl, rx = some (ans, x1) ∧ cR x0 n c0 (nI av) (nI bv) x1 h pl cl fa ∧ mR m0 p c0 m1 h2 nx pl2 cl fa ∧ (∀ c, c < 8 → cl c < 10000) ∧ fa < 1000000 ∧ ((∃ v, v ≤ 10000 ∧ ans = nI v ∧ rm = some (ans, m1)) ∨ (ans = 10001 ∧ rm = some (10001, hs_wR m1 11 p (hs_R m0 11 p + 1))) ∨ (ans = 10002 ∧ rm = fX8_runs_150 fu m1 0 (nI p) 0))
/-- what stays true from step to step -/
def rIn (h : Nat) (pl cl : Nat → Nat) (fa nx len : Nat) : Prop := h ≤ 8 ∧ (∀ i, i < h → pl i < 10000) ∧ (∀ c, c < 8 → cl c < 10000) ∧ fa < 1000000 ∧ nx ≤ len
def rGo (x0 m0 : hs_T) (n p : Nat) (c0 : Nat → Nat) (av bv g len fl j : Nat) (kX : hs_T → Nat → Nat → Nat → Int32 → Int32 → Int32 → Option (Int32 × hs_T)) (kM : hs_T → Nat → Int32 → Int32 → Int32 → Int32 → Option (Int32 × hs_T)) (rx rm : Option (Int32 × hs_T)) : Prop := ∃ x' m' h' nx' pl' cl' fa', rIn h' pl' cl' fa' nx' len ∧ cR x0 n c0 (nI av) (nI bv) x' h' pl' cl' fa' ∧ mR m0 p c0 m' h' nx' pl' cl' fa' ∧ rx = kX x' 9 g (n + 1) (nI fl) (nI nx') (nI (j + 1)) ∧ rm = kM m' 0 (nI p) (nI av) (nI bv) (nI (j + 1))
theorem lk_97 (hC : cS x0) (hM : mS m0) (hB : sB x0 n p) (hp : p < 15) (hQ : pQ x0 m0 g p len sg nm) (hS0 : hs_R m0 13 0 = nI fl) (hav : av < 10000) (hbv : bv < 10000) (hx : cR x0 n c0 (nI av) (nI bv) x h pl cl fa) (hm : mR m0 p c0 m h nx pl cl fa) (hi : rIn h pl cl fa nx len) (hnx : nx < len) (hj : j < fl) (hfl : fl ≤ 500) (e : sg nx = 97) (kX : hs_T → Nat → Nat → Nat → Int32 → Int32 → Int32 → Option (Int32 × hs_T)) (kM : hs_T → Nat → Int32 → Int32 → Int32 → Int32 → Option (Int32 × hs_T)) : rGo x0 m0 n p c0 av bv g len fl j kX kM (fX1_run_6b fu kX x 9 g (n + 1) (nI fl) (nI nx) (nI j)) (fX8_runs_48b fu kM m 0 (nI p) (nI av) (nI bv) (nI j)) ∨ rOut fu x0 m0 n p c0 av bv (fX1_run_6b fu kX x 9 g (n + 1) (nI fl) (nI nx) (nI j)) (fX8_runs_48b fu kM m 0 (nI p) (nI av) (nI bv) (nI j)) := by
  obtain ⟨i1, i2, i3, i4, i5⟩ := hi
  have hn := hB.1
  have hx1 := cR_fuel hx (fa1 fa)
  have hm1 := mR_fuel hm (fa1 fa)
  have hC1 := cR_cS hC hx1
  have hM1 := mR_mS hM hm1
  have hB1 : sB (hs_wF x 5 9 (nI (fa1 fa))) n p := sB_of hx1.1.1 hx1.1.2.1 (fun k => hx1.1.2.2.2.1 k n (by omega)) hB
  have hl := fa1_lt fa
  have fX : hs_F (hs_wF x 5 9 (nI (fa1 fa))) 2 9 = nI h := hx1.2.1
  have fM : hs_F (hs_wF m 21 0 (nI (fa1 fa))) 19 0 = nI h := hm1.2.1
  have fN : hs_F (hs_wF m 21 0 (nI (fa1 fa))) 20 0 = nI nx := hm1.2.2.1
  rw [c_pre hC hB hQ hx i4 hnx hj hfl, m_pre hM hp hQ hS0 hm i4 hnx hj hfl, e]
  by_cases h8 : h < 8
  · left
    have eX := hx1.2.2.1
    refine ⟨_, _, h + 1, nx + 1, _, cl, _, ⟨by omega, fun i hi => ?_, i3, hl, by omega⟩, cR_push hn hx1 (v := av), mR_push (mR_next hm1 (nx + 1)) (v := av), ?_, ?_⟩
    · by_cases q : i = h
      · simp only [if_pos q]; exact hav
      · simp only [if_neg q]; exact i2 i (by omega)
    · rw [su_y97 hC1 fX h8, pb_b2, if_neg o_nz, if_neg (show ¬ nI 97 = 111 by decide), if_neg (show ¬ nI 97 = 104 by decide), if_neg (show ¬ nI 97 = 103 by decide), if_neg (show ¬ nI 97 = 106 by decide), c_fin hC1, ac_97 hC1 fX h8, pb_b2, eX]
    · rw [ne_97, pb_b2, if_neg (show ¬ nI h < 0 from nI_pos (by omega)), pu_97, pb_b2, if_neg o_nz, m_gI hM1, pb_bind, fM, if_neg (show ¬ nI h = 8 from n_ne (b := 8) (by omega) (by decide) (by omega)), m_r196 (s := nI 97) hM hp hQ hm1 hnx (by decide) (by decide), do_97 hM1 fN fM h8, pb_b2]
  · have h9 : h = 8 := by omega
    subst h9
    refine Or.inr ⟨10002, _, _, _, _, _, _, _, _, cl, by rw [su_n97 hC1 fX, pb_b2, if_pos rfl], hx1, hm1, i3, hl, Or.inr (Or.inr ⟨rfl, by rw [ne_97, pb_b2, if_neg (show ¬ nI 8 < 0 by decide), pu_97, pb_b2, if_neg o_nz, m_gI hM1, pb_bind, fM, if_pos (show nI 8 = 8 from rfl)]⟩)⟩
theorem lk_98 (hC : cS x0) (hM : mS m0) (hB : sB x0 n p) (hp : p < 15) (hQ : pQ x0 m0 g p len sg nm) (hS0 : hs_R m0 13 0 = nI fl) (hav : av < 10000) (hbv : bv < 10000) (hx : cR x0 n c0 (nI av) (nI bv) x h pl cl fa) (hm : mR m0 p c0 m h nx pl cl fa) (hi : rIn h pl cl fa nx len) (hnx : nx < len) (hj : j < fl) (hfl : fl ≤ 500) (e : sg nx = 98) (kX : hs_T → Nat → Nat → Nat → Int32 → Int32 → Int32 → Option (Int32 × hs_T)) (kM : hs_T → Nat → Int32 → Int32 → Int32 → Int32 → Option (Int32 × hs_T)) : rGo x0 m0 n p c0 av bv g len fl j kX kM (fX1_run_6b fu kX x 9 g (n + 1) (nI fl) (nI nx) (nI j)) (fX8_runs_48b fu kM m 0 (nI p) (nI av) (nI bv) (nI j)) ∨ rOut fu x0 m0 n p c0 av bv (fX1_run_6b fu kX x 9 g (n + 1) (nI fl) (nI nx) (nI j)) (fX8_runs_48b fu kM m 0 (nI p) (nI av) (nI bv) (nI j)) := by
  obtain ⟨i1, i2, i3, i4, i5⟩ := hi
  have hn := hB.1
  have hx1 := cR_fuel hx (fa1 fa)
  have hm1 := mR_fuel hm (fa1 fa)
  have hC1 := cR_cS hC hx1
  have hM1 := mR_mS hM hm1
  have hB1 : sB (hs_wF x 5 9 (nI (fa1 fa))) n p := sB_of hx1.1.1 hx1.1.2.1 (fun k => hx1.1.2.2.2.1 k n (by omega)) hB
  have hl := fa1_lt fa
  have fX : hs_F (hs_wF x 5 9 (nI (fa1 fa))) 2 9 = nI h := hx1.2.1
  have fM : hs_F (hs_wF m 21 0 (nI (fa1 fa))) 19 0 = nI h := hm1.2.1
  have fN : hs_F (hs_wF m 21 0 (nI (fa1 fa))) 20 0 = nI nx := hm1.2.2.1
  rw [c_pre hC hB hQ hx i4 hnx hj hfl, m_pre hM hp hQ hS0 hm i4 hnx hj hfl, e]
  by_cases h8 : h < 8
  · left
    have eX := hx1.2.2.2.1
    refine ⟨_, _, h + 1, nx + 1, _, cl, _, ⟨by omega, fun i hi => ?_, i3, hl, by omega⟩, cR_push hn hx1 (v := bv), mR_push (mR_next hm1 (nx + 1)) (v := bv), ?_, ?_⟩
    · by_cases q : i = h
      · simp only [if_pos q]; exact hbv
      · simp only [if_neg q]; exact i2 i (by omega)
    · rw [su_y98 hC1 fX h8, pb_b2, if_neg o_nz, if_neg (show ¬ nI 98 = 111 by decide), if_neg (show ¬ nI 98 = 104 by decide), if_neg (show ¬ nI 98 = 103 by decide), if_neg (show ¬ nI 98 = 106 by decide), c_fin hC1, ac_98 hC1 fX h8, pb_b2, eX]
    · rw [ne_98, pb_b2, if_neg (show ¬ nI h < 0 from nI_pos (by omega)), pu_98, pb_b2, if_neg o_nz, m_gI hM1, pb_bind, fM, if_neg (show ¬ nI h = 8 from n_ne (b := 8) (by omega) (by decide) (by omega)), m_r196 (s := nI 98) hM hp hQ hm1 hnx (by decide) (by decide), do_98 hM1 fN fM h8, pb_b2]
  · have h9 : h = 8 := by omega
    subst h9
    refine Or.inr ⟨10002, _, _, _, _, _, _, _, _, cl, by rw [su_n98 hC1 fX, pb_b2, if_pos rfl], hx1, hm1, i3, hl, Or.inr (Or.inr ⟨rfl, by rw [ne_98, pb_b2, if_neg (show ¬ nI 8 < 0 by decide), pu_98, pb_b2, if_neg o_nz, m_gI hM1, pb_bind, fM, if_pos (show nI 8 = 8 from rfl)]⟩)⟩
theorem lk_108 (hC : cS x0) (hM : mS m0) (hB : sB x0 n p) (hp : p < 15) (hQ : pQ x0 m0 g p len sg nm) (hS0 : hs_R m0 13 0 = nI fl) (hav : av < 10000) (hbv : bv < 10000) (hx : cR x0 n c0 (nI av) (nI bv) x h pl cl fa) (hm : mR m0 p c0 m h nx pl cl fa) (hi : rIn h pl cl fa nx len) (hnx : nx < len) (hj : j < fl) (hfl : fl ≤ 500) (e : sg nx = 108) (hk : nm nx < 8) (kX : hs_T → Nat → Nat → Nat → Int32 → Int32 → Int32 → Option (Int32 × hs_T)) (kM : hs_T → Nat → Int32 → Int32 → Int32 → Int32 → Option (Int32 × hs_T)) : rGo x0 m0 n p c0 av bv g len fl j kX kM (fX1_run_6b fu kX x 9 g (n + 1) (nI fl) (nI nx) (nI j)) (fX8_runs_48b fu kM m 0 (nI p) (nI av) (nI bv) (nI j)) ∨ rOut fu x0 m0 n p c0 av bv (fX1_run_6b fu kX x 9 g (n + 1) (nI fl) (nI nx) (nI j)) (fX8_runs_48b fu kM m 0 (nI p) (nI av) (nI bv) (nI j)) := by
  obtain ⟨i1, i2, i3, i4, i5⟩ := hi
  have hn := hB.1
  have hx1 := cR_fuel hx (fa1 fa)
  have hm1 := mR_fuel hm (fa1 fa)
  have hC1 := cR_cS hC hx1
  have hM1 := mR_mS hM hm1
  have hB1 : sB (hs_wF x 5 9 (nI (fa1 fa))) n p := sB_of hx1.1.1 hx1.1.2.1 (fun k => hx1.1.2.2.2.1 k n (by omega)) hB
  have hl := fa1_lt fa
  have fX : hs_F (hs_wF x 5 9 (nI (fa1 fa))) 2 9 = nI h := hx1.2.1
  have fM : hs_F (hs_wF m 21 0 (nI (fa1 fa))) 19 0 = nI h := hm1.2.1
  have fN : hs_F (hs_wF m 21 0 (nI (fa1 fa))) 20 0 = nI nx := hm1.2.2.1
  rw [c_pre hC hB hQ hx i4 hnx hj hfl, m_pre hM hp hQ hS0 hm i4 hnx hj hfl, e]
  by_cases h8 : h < 8
  · left
    have eX := hx1.2.2.2.2.2.2.1 _ hk
    have eM := hm1.2.2.2.2.2.1 _ hk
    refine ⟨_, _, h + 1, nx + 1, _, cl, _, ⟨by omega, fun i hi => ?_, i3, hl, by omega⟩, cR_push hn hx1 (v := cl (nm nx)), mR_push (mR_next hm1 (nx + 1)) (v := cl (nm nx)), ?_, ?_⟩
    · by_cases q : i = h
      · simp only [if_pos q]; exact i3 _ hk
      · simp only [if_neg q]; exact i2 i (by omega)
    · rw [su_y108 hC1 fX h8, pb_b2, if_neg o_nz, if_neg (show ¬ nI 108 = 111 by decide), if_neg (show ¬ nI 108 = 104 by decide), if_neg (show ¬ nI 108 = 103 by decide), if_neg (show ¬ nI 108 = 106 by decide), c_fin hC1, ac_108 hC1 hB1 hk fX h8, pb_b2, eX]
    · rw [ne_108, pb_b2, if_neg (show ¬ nI h < 0 from nI_pos (by omega)), pu_108, pb_b2, if_neg o_nz, m_gI hM1, pb_bind, fM, if_neg (show ¬ nI h = 8 from n_ne (b := 8) (by omega) (by decide) (by omega)), m_r196 (s := nI 108) hM hp hQ hm1 hnx (by decide) (by decide), do_108 hM1 hk hp fN fM h8, pb_b2, eM]
  · have h9 : h = 8 := by omega
    subst h9
    refine Or.inr ⟨10002, _, _, _, _, _, _, _, _, cl, by rw [su_n108 hC1 fX, pb_b2, if_pos rfl], hx1, hm1, i3, hl, Or.inr (Or.inr ⟨rfl, by rw [ne_108, pb_b2, if_neg (show ¬ nI 8 < 0 by decide), pu_108, pb_b2, if_neg o_nz, m_gI hM1, pb_bind, fM, if_pos (show nI 8 = 8 from rfl)]⟩)⟩
theorem lk_112 (hC : cS x0) (hM : mS m0) (hB : sB x0 n p) (hp : p < 15) (hQ : pQ x0 m0 g p len sg nm) (hS0 : hs_R m0 13 0 = nI fl) (hav : av < 10000) (hbv : bv < 10000) (hx : cR x0 n c0 (nI av) (nI bv) x h pl cl fa) (hm : mR m0 p c0 m h nx pl cl fa) (hi : rIn h pl cl fa nx len) (hnx : nx < len) (hj : j < fl) (hfl : fl ≤ 500) (e : sg nx = 112) (hk : nm nx ≤ 9999) (kX : hs_T → Nat → Nat → Nat → Int32 → Int32 → Int32 → Option (Int32 × hs_T)) (kM : hs_T → Nat → Int32 → Int32 → Int32 → Int32 → Option (Int32 × hs_T)) : rGo x0 m0 n p c0 av bv g len fl j kX kM (fX1_run_6b fu kX x 9 g (n + 1) (nI fl) (nI nx) (nI j)) (fX8_runs_48b fu kM m 0 (nI p) (nI av) (nI bv) (nI j)) ∨ rOut fu x0 m0 n p c0 av bv (fX1_run_6b fu kX x 9 g (n + 1) (nI fl) (nI nx) (nI j)) (fX8_runs_48b fu kM m 0 (nI p) (nI av) (nI bv) (nI j)) := by
  obtain ⟨i1, i2, i3, i4, i5⟩ := hi
  have hn := hB.1
  have hx1 := cR_fuel hx (fa1 fa)
  have hm1 := mR_fuel hm (fa1 fa)
  have hC1 := cR_cS hC hx1
  have hM1 := mR_mS hM hm1
  have hB1 : sB (hs_wF x 5 9 (nI (fa1 fa))) n p := sB_of hx1.1.1 hx1.1.2.1 (fun k => hx1.1.2.2.2.1 k n (by omega)) hB
  have hl := fa1_lt fa
  have fX : hs_F (hs_wF x 5 9 (nI (fa1 fa))) 2 9 = nI h := hx1.2.1
  have fM : hs_F (hs_wF m 21 0 (nI (fa1 fa))) 19 0 = nI h := hm1.2.1
  have fN : hs_F (hs_wF m 21 0 (nI (fa1 fa))) 20 0 = nI nx := hm1.2.2.1
  rw [c_pre hC hB hQ hx i4 hnx hj hfl, m_pre hM hp hQ hS0 hm i4 hnx hj hfl, e]
  by_cases h8 : h < 8
  · left
    refine ⟨_, _, h + 1, nx + 1, _, cl, _, ⟨by omega, fun i hi => ?_, i3, hl, by omega⟩, cR_push hn hx1 (v := nm nx), mR_push (mR_next hm1 (nx + 1)) (v := nm nx), ?_, ?_⟩
    · by_cases q : i = h
      · simp only [if_pos q]; exact (by omega)
      · simp only [if_neg q]; exact i2 i (by omega)
    · rw [su_y112 hC1 fX h8, pb_b2, if_neg o_nz, if_neg (show ¬ nI 112 = 111 by decide), if_neg (show ¬ nI 112 = 104 by decide), if_neg (show ¬ nI 112 = 103 by decide), if_neg (show ¬ nI 112 = 106 by decide), c_fin hC1, ac_112 hC1 fX h8, pb_b2]
    · rw [ne_112, pb_b2, if_neg (show ¬ nI h < 0 from nI_pos (by omega)), pu_112, pb_b2, if_neg o_nz, m_gI hM1, pb_bind, fM, if_neg (show ¬ nI h = 8 from n_ne (b := 8) (by omega) (by decide) (by omega)), m_r196 (s := nI 112) hM hp hQ hm1 hnx (by decide) (by decide), do_112 hM1 fN fM h8, pb_b2]
  · have h9 : h = 8 := by omega
    subst h9
    refine Or.inr ⟨10002, _, _, _, _, _, _, _, _, cl, by rw [su_n112 hC1 fX, pb_b2, if_pos rfl], hx1, hm1, i3, hl, Or.inr (Or.inr ⟨rfl, by rw [ne_112, pb_b2, if_neg (show ¬ nI 8 < 0 by decide), pu_112, pb_b2, if_neg o_nz, m_gI hM1, pb_bind, fM, if_pos (show nI 8 = 8 from rfl)]⟩)⟩
theorem lk_42 (hC : cS x0) (hM : mS m0) (hB : sB x0 n p) (hp : p < 15) (hQ : pQ x0 m0 g p len sg nm) (hS0 : hs_R m0 13 0 = nI fl) (hav : av < 10000) (hbv : bv < 10000) (hx : cR x0 n c0 (nI av) (nI bv) x h pl cl fa) (hm : mR m0 p c0 m h nx pl cl fa) (hi : rIn h pl cl fa nx len) (hnx : nx < len) (hj : j < fl) (hfl : fl ≤ 500) (e : sg nx = 42) (kX : hs_T → Nat → Nat → Nat → Int32 → Int32 → Int32 → Option (Int32 × hs_T)) (kM : hs_T → Nat → Int32 → Int32 → Int32 → Int32 → Option (Int32 × hs_T)) : rGo x0 m0 n p c0 av bv g len fl j kX kM (fX1_run_6b fu kX x 9 g (n + 1) (nI fl) (nI nx) (nI j)) (fX8_runs_48b fu kM m 0 (nI p) (nI av) (nI bv) (nI j)) ∨ rOut fu x0 m0 n p c0 av bv (fX1_run_6b fu kX x 9 g (n + 1) (nI fl) (nI nx) (nI j)) (fX8_runs_48b fu kM m 0 (nI p) (nI av) (nI bv) (nI j)) := by
  obtain ⟨i1, i2, i3, i4, i5⟩ := hi
  have hn := hB.1
  have hx1 := cR_fuel hx (fa1 fa)
  have hm1 := mR_fuel hm (fa1 fa)
  have hC1 := cR_cS hC hx1
  have hM1 := mR_mS hM hm1
  have hB1 : sB (hs_wF x 5 9 (nI (fa1 fa))) n p := sB_of hx1.1.1 hx1.1.2.1 (fun k => hx1.1.2.2.2.1 k n (by omega)) hB
  have hl := fa1_lt fa
  have fX : hs_F (hs_wF x 5 9 (nI (fa1 fa))) 2 9 = nI h := hx1.2.1
  have fM : hs_F (hs_wF m 21 0 (nI (fa1 fa))) 19 0 = nI h := hm1.2.1
  have fN : hs_F (hs_wF m 21 0 (nI (fa1 fa))) 20 0 = nI nx := hm1.2.2.1
  rw [c_pre hC hB hQ hx i4 hnx hj hfl, m_pre hM hp hQ hS0 hm i4 hnx hj hfl, e]
  by_cases h8 : 2 ≤ h
  · left
    obtain ⟨t, rfl⟩ : ∃ t, h = t + 2 := ⟨h - 2, by omega⟩
    refine ⟨_, _, t + 1, nx + 1, _, cl, _, ⟨by omega, fun i hi => ?_, i3, hl, by omega⟩, cR_push hn (cR_pop (cR_pop hx1)) (v := opN 42 (pl t) (pl (t + 1))), mR_top (mR_pop (mR_next hm1 (nx + 1))) (d := t) (v := opN 42 (pl t) (pl (t + 1))), ?_, ?_⟩
    · by_cases q : i = t
      · simp only [if_pos q]; exact opN_lt
      · simp only [if_neg q]; exact i2 i (by omega)
    · rw [su_y42 hC1 fX h8 i1, pb_b2, if_neg o_nz, if_neg (show ¬ nI 42 = 111 by decide), if_neg (show ¬ nI 42 = 104 by decide), if_neg (show ¬ nI 42 = 103 by decide), if_neg (show ¬ nI 42 = 106 by decide), c_fin hC1, ac_42 hC1 (h := t) fX i1 (hx1.2.2.2.2.2.1 t (by omega)) (hx1.2.2.2.2.2.1 (t + 1) (by omega)) (i2 t (by omega)) (i2 (t + 1) (by omega)), pb_b2]
    · rw [ne_42, pb_b2, if_neg (show ¬ nI (t + 2) < 2 from nI_nlt (b := 2) (by omega) (by omega)), pu_42, pb_b2, if_pos rfl, m_r196 (s := nI 42) hM hp hQ hm1 hnx (by decide) (by decide), do_42 hM1 (h := t) fN fM i1 (hm1.2.2.2.2.1 t (by omega)) (hm1.2.2.2.2.1 (t + 1) (by omega)) (i2 t (by omega)) (i2 (t + 1) (by omega)), pb_b2]
  · have h9 : h < 2 := by omega
    refine Or.inr ⟨10002, _, _, _, _, _, _, _, _, cl, by rw [su_n42 hC1 fX h9, pb_b2, if_pos rfl], hx1, hm1, i3, hl, Or.inr (Or.inr ⟨rfl, by rw [ne_42, pb_b2, if_pos (show nI h < 2 from nI_lt (b := 2) h9 (by decide))]⟩)⟩
theorem lk_43 (hC : cS x0) (hM : mS m0) (hB : sB x0 n p) (hp : p < 15) (hQ : pQ x0 m0 g p len sg nm) (hS0 : hs_R m0 13 0 = nI fl) (hav : av < 10000) (hbv : bv < 10000) (hx : cR x0 n c0 (nI av) (nI bv) x h pl cl fa) (hm : mR m0 p c0 m h nx pl cl fa) (hi : rIn h pl cl fa nx len) (hnx : nx < len) (hj : j < fl) (hfl : fl ≤ 500) (e : sg nx = 43) (kX : hs_T → Nat → Nat → Nat → Int32 → Int32 → Int32 → Option (Int32 × hs_T)) (kM : hs_T → Nat → Int32 → Int32 → Int32 → Int32 → Option (Int32 × hs_T)) : rGo x0 m0 n p c0 av bv g len fl j kX kM (fX1_run_6b fu kX x 9 g (n + 1) (nI fl) (nI nx) (nI j)) (fX8_runs_48b fu kM m 0 (nI p) (nI av) (nI bv) (nI j)) ∨ rOut fu x0 m0 n p c0 av bv (fX1_run_6b fu kX x 9 g (n + 1) (nI fl) (nI nx) (nI j)) (fX8_runs_48b fu kM m 0 (nI p) (nI av) (nI bv) (nI j)) := by
  obtain ⟨i1, i2, i3, i4, i5⟩ := hi
  have hn := hB.1
  have hx1 := cR_fuel hx (fa1 fa)
  have hm1 := mR_fuel hm (fa1 fa)
  have hC1 := cR_cS hC hx1
  have hM1 := mR_mS hM hm1
  have hB1 : sB (hs_wF x 5 9 (nI (fa1 fa))) n p := sB_of hx1.1.1 hx1.1.2.1 (fun k => hx1.1.2.2.2.1 k n (by omega)) hB
  have hl := fa1_lt fa
  have fX : hs_F (hs_wF x 5 9 (nI (fa1 fa))) 2 9 = nI h := hx1.2.1
  have fM : hs_F (hs_wF m 21 0 (nI (fa1 fa))) 19 0 = nI h := hm1.2.1
  have fN : hs_F (hs_wF m 21 0 (nI (fa1 fa))) 20 0 = nI nx := hm1.2.2.1
  rw [c_pre hC hB hQ hx i4 hnx hj hfl, m_pre hM hp hQ hS0 hm i4 hnx hj hfl, e]
  by_cases h8 : 2 ≤ h
  · left
    obtain ⟨t, rfl⟩ : ∃ t, h = t + 2 := ⟨h - 2, by omega⟩
    refine ⟨_, _, t + 1, nx + 1, _, cl, _, ⟨by omega, fun i hi => ?_, i3, hl, by omega⟩, cR_push hn (cR_pop (cR_pop hx1)) (v := opN 43 (pl t) (pl (t + 1))), mR_top (mR_pop (mR_next hm1 (nx + 1))) (d := t) (v := opN 43 (pl t) (pl (t + 1))), ?_, ?_⟩
    · by_cases q : i = t
      · simp only [if_pos q]; exact opN_lt
      · simp only [if_neg q]; exact i2 i (by omega)
    · rw [su_y43 hC1 fX h8 i1, pb_b2, if_neg o_nz, if_neg (show ¬ nI 43 = 111 by decide), if_neg (show ¬ nI 43 = 104 by decide), if_neg (show ¬ nI 43 = 103 by decide), if_neg (show ¬ nI 43 = 106 by decide), c_fin hC1, ac_43 hC1 (h := t) fX i1 (hx1.2.2.2.2.2.1 t (by omega)) (hx1.2.2.2.2.2.1 (t + 1) (by omega)) (i2 t (by omega)) (i2 (t + 1) (by omega)), pb_b2]
    · rw [ne_43, pb_b2, if_neg (show ¬ nI (t + 2) < 2 from nI_nlt (b := 2) (by omega) (by omega)), pu_43, pb_b2, if_pos rfl, m_r196 (s := nI 43) hM hp hQ hm1 hnx (by decide) (by decide), do_43 hM1 (h := t) fN fM i1 (hm1.2.2.2.2.1 t (by omega)) (hm1.2.2.2.2.1 (t + 1) (by omega)) (i2 t (by omega)) (i2 (t + 1) (by omega)), pb_b2]
  · have h9 : h < 2 := by omega
    refine Or.inr ⟨10002, _, _, _, _, _, _, _, _, cl, by rw [su_n43 hC1 fX h9, pb_b2, if_pos rfl], hx1, hm1, i3, hl, Or.inr (Or.inr ⟨rfl, by rw [ne_43, pb_b2, if_pos (show nI h < 2 from nI_lt (b := 2) h9 (by decide))]⟩)⟩
theorem lk_45 (hC : cS x0) (hM : mS m0) (hB : sB x0 n p) (hp : p < 15) (hQ : pQ x0 m0 g p len sg nm) (hS0 : hs_R m0 13 0 = nI fl) (hav : av < 10000) (hbv : bv < 10000) (hx : cR x0 n c0 (nI av) (nI bv) x h pl cl fa) (hm : mR m0 p c0 m h nx pl cl fa) (hi : rIn h pl cl fa nx len) (hnx : nx < len) (hj : j < fl) (hfl : fl ≤ 500) (e : sg nx = 45) (kX : hs_T → Nat → Nat → Nat → Int32 → Int32 → Int32 → Option (Int32 × hs_T)) (kM : hs_T → Nat → Int32 → Int32 → Int32 → Int32 → Option (Int32 × hs_T)) : rGo x0 m0 n p c0 av bv g len fl j kX kM (fX1_run_6b fu kX x 9 g (n + 1) (nI fl) (nI nx) (nI j)) (fX8_runs_48b fu kM m 0 (nI p) (nI av) (nI bv) (nI j)) ∨ rOut fu x0 m0 n p c0 av bv (fX1_run_6b fu kX x 9 g (n + 1) (nI fl) (nI nx) (nI j)) (fX8_runs_48b fu kM m 0 (nI p) (nI av) (nI bv) (nI j)) := by
  obtain ⟨i1, i2, i3, i4, i5⟩ := hi
  have hn := hB.1
  have hx1 := cR_fuel hx (fa1 fa)
  have hm1 := mR_fuel hm (fa1 fa)
  have hC1 := cR_cS hC hx1
  have hM1 := mR_mS hM hm1
  have hB1 : sB (hs_wF x 5 9 (nI (fa1 fa))) n p := sB_of hx1.1.1 hx1.1.2.1 (fun k => hx1.1.2.2.2.1 k n (by omega)) hB
  have hl := fa1_lt fa
  have fX : hs_F (hs_wF x 5 9 (nI (fa1 fa))) 2 9 = nI h := hx1.2.1
  have fM : hs_F (hs_wF m 21 0 (nI (fa1 fa))) 19 0 = nI h := hm1.2.1
  have fN : hs_F (hs_wF m 21 0 (nI (fa1 fa))) 20 0 = nI nx := hm1.2.2.1
  rw [c_pre hC hB hQ hx i4 hnx hj hfl, m_pre hM hp hQ hS0 hm i4 hnx hj hfl, e]
  by_cases h8 : 2 ≤ h
  · left
    obtain ⟨t, rfl⟩ : ∃ t, h = t + 2 := ⟨h - 2, by omega⟩
    refine ⟨_, _, t + 1, nx + 1, _, cl, _, ⟨by omega, fun i hi => ?_, i3, hl, by omega⟩, cR_push hn (cR_pop (cR_pop hx1)) (v := opN 45 (pl t) (pl (t + 1))), mR_top (mR_pop (mR_next hm1 (nx + 1))) (d := t) (v := opN 45 (pl t) (pl (t + 1))), ?_, ?_⟩
    · by_cases q : i = t
      · simp only [if_pos q]; exact opN_lt
      · simp only [if_neg q]; exact i2 i (by omega)
    · rw [su_y45 hC1 fX h8 i1, pb_b2, if_neg o_nz, if_neg (show ¬ nI 45 = 111 by decide), if_neg (show ¬ nI 45 = 104 by decide), if_neg (show ¬ nI 45 = 103 by decide), if_neg (show ¬ nI 45 = 106 by decide), c_fin hC1, ac_45 hC1 (h := t) fX i1 (hx1.2.2.2.2.2.1 t (by omega)) (hx1.2.2.2.2.2.1 (t + 1) (by omega)) (i2 t (by omega)) (i2 (t + 1) (by omega)), pb_b2]
    · rw [ne_45, pb_b2, if_neg (show ¬ nI (t + 2) < 2 from nI_nlt (b := 2) (by omega) (by omega)), pu_45, pb_b2, if_pos rfl, m_r196 (s := nI 45) hM hp hQ hm1 hnx (by decide) (by decide), do_45 hM1 (h := t) fN fM i1 (hm1.2.2.2.2.1 t (by omega)) (hm1.2.2.2.2.1 (t + 1) (by omega)) (i2 t (by omega)) (i2 (t + 1) (by omega)), pb_b2]
  · have h9 : h < 2 := by omega
    refine Or.inr ⟨10002, _, _, _, _, _, _, _, _, cl, by rw [su_n45 hC1 fX h9, pb_b2, if_pos rfl], hx1, hm1, i3, hl, Or.inr (Or.inr ⟨rfl, by rw [ne_45, pb_b2, if_pos (show nI h < 2 from nI_lt (b := 2) h9 (by decide))]⟩)⟩
theorem lk_60 (hC : cS x0) (hM : mS m0) (hB : sB x0 n p) (hp : p < 15) (hQ : pQ x0 m0 g p len sg nm) (hS0 : hs_R m0 13 0 = nI fl) (hav : av < 10000) (hbv : bv < 10000) (hx : cR x0 n c0 (nI av) (nI bv) x h pl cl fa) (hm : mR m0 p c0 m h nx pl cl fa) (hi : rIn h pl cl fa nx len) (hnx : nx < len) (hj : j < fl) (hfl : fl ≤ 500) (e : sg nx = 60) (kX : hs_T → Nat → Nat → Nat → Int32 → Int32 → Int32 → Option (Int32 × hs_T)) (kM : hs_T → Nat → Int32 → Int32 → Int32 → Int32 → Option (Int32 × hs_T)) : rGo x0 m0 n p c0 av bv g len fl j kX kM (fX1_run_6b fu kX x 9 g (n + 1) (nI fl) (nI nx) (nI j)) (fX8_runs_48b fu kM m 0 (nI p) (nI av) (nI bv) (nI j)) ∨ rOut fu x0 m0 n p c0 av bv (fX1_run_6b fu kX x 9 g (n + 1) (nI fl) (nI nx) (nI j)) (fX8_runs_48b fu kM m 0 (nI p) (nI av) (nI bv) (nI j)) := by
  obtain ⟨i1, i2, i3, i4, i5⟩ := hi
  have hn := hB.1
  have hx1 := cR_fuel hx (fa1 fa)
  have hm1 := mR_fuel hm (fa1 fa)
  have hC1 := cR_cS hC hx1
  have hM1 := mR_mS hM hm1
  have hB1 : sB (hs_wF x 5 9 (nI (fa1 fa))) n p := sB_of hx1.1.1 hx1.1.2.1 (fun k => hx1.1.2.2.2.1 k n (by omega)) hB
  have hl := fa1_lt fa
  have fX : hs_F (hs_wF x 5 9 (nI (fa1 fa))) 2 9 = nI h := hx1.2.1
  have fM : hs_F (hs_wF m 21 0 (nI (fa1 fa))) 19 0 = nI h := hm1.2.1
  have fN : hs_F (hs_wF m 21 0 (nI (fa1 fa))) 20 0 = nI nx := hm1.2.2.1
  rw [c_pre hC hB hQ hx i4 hnx hj hfl, m_pre hM hp hQ hS0 hm i4 hnx hj hfl, e]
  by_cases h8 : 2 ≤ h
  · left
    obtain ⟨t, rfl⟩ : ∃ t, h = t + 2 := ⟨h - 2, by omega⟩
    refine ⟨_, _, t + 1, nx + 1, _, cl, _, ⟨by omega, fun i hi => ?_, i3, hl, by omega⟩, cR_push hn (cR_pop (cR_pop hx1)) (v := opN 60 (pl t) (pl (t + 1))), mR_top (mR_pop (mR_next hm1 (nx + 1))) (d := t) (v := opN 60 (pl t) (pl (t + 1))), ?_, ?_⟩
    · by_cases q : i = t
      · simp only [if_pos q]; exact opN_lt
      · simp only [if_neg q]; exact i2 i (by omega)
    · rw [su_y60 hC1 fX h8 i1, pb_b2, if_neg o_nz, if_neg (show ¬ nI 60 = 111 by decide), if_neg (show ¬ nI 60 = 104 by decide), if_neg (show ¬ nI 60 = 103 by decide), if_neg (show ¬ nI 60 = 106 by decide), c_fin hC1, ac_60 hC1 (h := t) fX i1 (hx1.2.2.2.2.2.1 t (by omega)) (hx1.2.2.2.2.2.1 (t + 1) (by omega)) (i2 t (by omega)) (i2 (t + 1) (by omega)), pb_b2]
    · rw [ne_60, pb_b2, if_neg (show ¬ nI (t + 2) < 2 from nI_nlt (b := 2) (by omega) (by omega)), pu_60, pb_b2, if_pos rfl, m_r196 (s := nI 60) hM hp hQ hm1 hnx (by decide) (by decide), do_60 hM1 (h := t) fN fM i1 (hm1.2.2.2.2.1 t (by omega)) (hm1.2.2.2.2.1 (t + 1) (by omega)) (i2 t (by omega)) (i2 (t + 1) (by omega)), pb_b2]
  · have h9 : h < 2 := by omega
    refine Or.inr ⟨10002, _, _, _, _, _, _, _, _, cl, by rw [su_n60 hC1 fX h9, pb_b2, if_pos rfl], hx1, hm1, i3, hl, Or.inr (Or.inr ⟨rfl, by rw [ne_60, pb_b2, if_pos (show nI h < 2 from nI_lt (b := 2) h9 (by decide))]⟩)⟩
theorem lk_61 (hC : cS x0) (hM : mS m0) (hB : sB x0 n p) (hp : p < 15) (hQ : pQ x0 m0 g p len sg nm) (hS0 : hs_R m0 13 0 = nI fl) (hav : av < 10000) (hbv : bv < 10000) (hx : cR x0 n c0 (nI av) (nI bv) x h pl cl fa) (hm : mR m0 p c0 m h nx pl cl fa) (hi : rIn h pl cl fa nx len) (hnx : nx < len) (hj : j < fl) (hfl : fl ≤ 500) (e : sg nx = 61) (kX : hs_T → Nat → Nat → Nat → Int32 → Int32 → Int32 → Option (Int32 × hs_T)) (kM : hs_T → Nat → Int32 → Int32 → Int32 → Int32 → Option (Int32 × hs_T)) : rGo x0 m0 n p c0 av bv g len fl j kX kM (fX1_run_6b fu kX x 9 g (n + 1) (nI fl) (nI nx) (nI j)) (fX8_runs_48b fu kM m 0 (nI p) (nI av) (nI bv) (nI j)) ∨ rOut fu x0 m0 n p c0 av bv (fX1_run_6b fu kX x 9 g (n + 1) (nI fl) (nI nx) (nI j)) (fX8_runs_48b fu kM m 0 (nI p) (nI av) (nI bv) (nI j)) := by
  obtain ⟨i1, i2, i3, i4, i5⟩ := hi
  have hn := hB.1
  have hx1 := cR_fuel hx (fa1 fa)
  have hm1 := mR_fuel hm (fa1 fa)
  have hC1 := cR_cS hC hx1
  have hM1 := mR_mS hM hm1
  have hB1 : sB (hs_wF x 5 9 (nI (fa1 fa))) n p := sB_of hx1.1.1 hx1.1.2.1 (fun k => hx1.1.2.2.2.1 k n (by omega)) hB
  have hl := fa1_lt fa
  have fX : hs_F (hs_wF x 5 9 (nI (fa1 fa))) 2 9 = nI h := hx1.2.1
  have fM : hs_F (hs_wF m 21 0 (nI (fa1 fa))) 19 0 = nI h := hm1.2.1
  have fN : hs_F (hs_wF m 21 0 (nI (fa1 fa))) 20 0 = nI nx := hm1.2.2.1
  rw [c_pre hC hB hQ hx i4 hnx hj hfl, m_pre hM hp hQ hS0 hm i4 hnx hj hfl, e]
  by_cases h8 : 2 ≤ h
  · left
    obtain ⟨t, rfl⟩ : ∃ t, h = t + 2 := ⟨h - 2, by omega⟩
    refine ⟨_, _, t + 1, nx + 1, _, cl, _, ⟨by omega, fun i hi => ?_, i3, hl, by omega⟩, cR_push hn (cR_pop (cR_pop hx1)) (v := opN 61 (pl t) (pl (t + 1))), mR_top (mR_pop (mR_next hm1 (nx + 1))) (d := t) (v := opN 61 (pl t) (pl (t + 1))), ?_, ?_⟩
    · by_cases q : i = t
      · simp only [if_pos q]; exact opN_lt
      · simp only [if_neg q]; exact i2 i (by omega)
    · rw [su_y61 hC1 fX h8 i1, pb_b2, if_neg o_nz, if_neg (show ¬ nI 61 = 111 by decide), if_neg (show ¬ nI 61 = 104 by decide), if_neg (show ¬ nI 61 = 103 by decide), if_neg (show ¬ nI 61 = 106 by decide), c_fin hC1, ac_61 hC1 (h := t) fX i1 (hx1.2.2.2.2.2.1 t (by omega)) (hx1.2.2.2.2.2.1 (t + 1) (by omega)) (i2 t (by omega)) (i2 (t + 1) (by omega)), pb_b2]
    · rw [ne_61, pb_b2, if_neg (show ¬ nI (t + 2) < 2 from nI_nlt (b := 2) (by omega) (by omega)), pu_61, pb_b2, if_pos rfl, m_r196 (s := nI 61) hM hp hQ hm1 hnx (by decide) (by decide), do_61 hM1 (h := t) fN fM i1 (hm1.2.2.2.2.1 t (by omega)) (hm1.2.2.2.2.1 (t + 1) (by omega)) (i2 t (by omega)) (i2 (t + 1) (by omega)), pb_b2]
  · have h9 : h < 2 := by omega
    refine Or.inr ⟨10002, _, _, _, _, _, _, _, _, cl, by rw [su_n61 hC1 fX h9, pb_b2, if_pos rfl], hx1, hm1, i3, hl, Or.inr (Or.inr ⟨rfl, by rw [ne_61, pb_b2, if_pos (show nI h < 2 from nI_lt (b := 2) h9 (by decide))]⟩)⟩
theorem lk_115 (hC : cS x0) (hM : mS m0) (hB : sB x0 n p) (hp : p < 15) (hQ : pQ x0 m0 g p len sg nm) (hS0 : hs_R m0 13 0 = nI fl) (hav : av < 10000) (hbv : bv < 10000) (hx : cR x0 n c0 (nI av) (nI bv) x h pl cl fa) (hm : mR m0 p c0 m h nx pl cl fa) (hi : rIn h pl cl fa nx len) (hnx : nx < len) (hj : j < fl) (hfl : fl ≤ 500) (e : sg nx = 115) (hk : nm nx < 8) (kX : hs_T → Nat → Nat → Nat → Int32 → Int32 → Int32 → Option (Int32 × hs_T)) (kM : hs_T → Nat → Int32 → Int32 → Int32 → Int32 → Option (Int32 × hs_T)) : rGo x0 m0 n p c0 av bv g len fl j kX kM (fX1_run_6b fu kX x 9 g (n + 1) (nI fl) (nI nx) (nI j)) (fX8_runs_48b fu kM m 0 (nI p) (nI av) (nI bv) (nI j)) ∨ rOut fu x0 m0 n p c0 av bv (fX1_run_6b fu kX x 9 g (n + 1) (nI fl) (nI nx) (nI j)) (fX8_runs_48b fu kM m 0 (nI p) (nI av) (nI bv) (nI j)) := by
  obtain ⟨i1, i2, i3, i4, i5⟩ := hi
  have hn := hB.1
  have hx1 := cR_fuel hx (fa1 fa)
  have hm1 := mR_fuel hm (fa1 fa)
  have hC1 := cR_cS hC hx1
  have hM1 := mR_mS hM hm1
  have hB1 : sB (hs_wF x 5 9 (nI (fa1 fa))) n p := sB_of hx1.1.1 hx1.1.2.1 (fun k => hx1.1.2.2.2.1 k n (by omega)) hB
  have hl := fa1_lt fa
  have fX : hs_F (hs_wF x 5 9 (nI (fa1 fa))) 2 9 = nI h := hx1.2.1
  have fM : hs_F (hs_wF m 21 0 (nI (fa1 fa))) 19 0 = nI h := hm1.2.1
  have fN : hs_F (hs_wF m 21 0 (nI (fa1 fa))) 20 0 = nI nx := hm1.2.2.1
  rw [c_pre hC hB hQ hx i4 hnx hj hfl, m_pre hM hp hQ hS0 hm i4 hnx hj hfl, e]
  by_cases h8 : 1 ≤ h
  · left
    obtain ⟨t, rfl⟩ : ∃ t, h = t + 1 := ⟨h - 1, by omega⟩
    have eX := hx1.2.2.2.2.2.1 t (by omega)
    have eM := hm1.2.2.2.2.1 t (by omega)
    refine ⟨_, _, t, nx + 1, pl, _, _, ⟨by omega, fun i hi => i2 i (by omega), fun c hc => ?_, hl, by omega⟩, cR_cell hn (cR_pop hx1) (d := nm nx) (v := pl t) hk, mR_cell (mR_pop (mR_next hm1 (nx + 1))) (d := nm nx) (v := pl t) hk, ?_, ?_⟩
    · by_cases q : c = nm nx
      · simp only [if_pos q]; exact i2 t (by omega)
      · simp only [if_neg q]; exact i3 c hc
    · rw [su_y115 hC1 fX h8 i1, pb_b2, if_neg o_nz, if_neg (show ¬ nI 115 = 111 by decide), if_neg (show ¬ nI 115 = 104 by decide), if_neg (show ¬ nI 115 = 103 by decide), if_neg (show ¬ nI 115 = 106 by decide), c_fin hC1, ac_115 hC1 hB1 hk fX (by omega), pb_b2, eX]
    · rw [ne_115, pb_b2, if_neg (show ¬ nI (t + 1) < 1 from nI_nlt (b := 1) (by omega) (by omega)), pu_115, pb_b2, if_pos rfl, m_r196 (s := nI 115) hM hp hQ hm1 hnx (by decide) (by decide), do_115 hM1 hk hp fN fM (by omega), pb_b2, eM]
  · have h9 : h = 0 := by omega
    subst h9
    refine Or.inr ⟨10002, _, _, _, _, _, _, _, _, cl, by rw [su_n115 hC1 fX, pb_b2, if_pos rfl], hx1, hm1, i3, hl, Or.inr (Or.inr ⟨rfl, by rw [ne_115, pb_b2, if_pos (show nI 0 < 1 by decide)]⟩)⟩
theorem lk_106 (hC : cS x0) (hM : mS m0) (hB : sB x0 n p) (hp : p < 15) (hQ : pQ x0 m0 g p len sg nm) (hS0 : hs_R m0 13 0 = nI fl) (hav : av < 10000) (hbv : bv < 10000) (hx : cR x0 n c0 (nI av) (nI bv) x h pl cl fa) (hm : mR m0 p c0 m h nx pl cl fa) (hi : rIn h pl cl fa nx len) (hnx : nx < len) (hj : j < fl) (hfl : fl ≤ 500) (e : sg nx = 106) (hk : nm nx < len) (kX : hs_T → Nat → Nat → Nat → Int32 → Int32 → Int32 → Option (Int32 × hs_T)) (kM : hs_T → Nat → Int32 → Int32 → Int32 → Int32 → Option (Int32 × hs_T)) : rGo x0 m0 n p c0 av bv g len fl j kX kM (fX1_run_6b fu kX x 9 g (n + 1) (nI fl) (nI nx) (nI j)) (fX8_runs_48b fu kM m 0 (nI p) (nI av) (nI bv) (nI j)) ∨ rOut fu x0 m0 n p c0 av bv (fX1_run_6b fu kX x 9 g (n + 1) (nI fl) (nI nx) (nI j)) (fX8_runs_48b fu kM m 0 (nI p) (nI av) (nI bv) (nI j)) := by
  obtain ⟨i1, i2, i3, i4, i5⟩ := hi
  have hn := hB.1
  have hx1 := cR_fuel hx (fa1 fa)
  have hm1 := mR_fuel hm (fa1 fa)
  have hC1 := cR_cS hC hx1
  have hM1 := mR_mS hM hm1
  have hB1 : sB (hs_wF x 5 9 (nI (fa1 fa))) n p := sB_of hx1.1.1 hx1.1.2.1 (fun k => hx1.1.2.2.2.1 k n (by omega)) hB
  have hl := fa1_lt fa
  have fX : hs_F (hs_wF x 5 9 (nI (fa1 fa))) 2 9 = nI h := hx1.2.1
  have fM : hs_F (hs_wF m 21 0 (nI (fa1 fa))) 19 0 = nI h := hm1.2.1
  have fN : hs_F (hs_wF m 21 0 (nI (fa1 fa))) 20 0 = nI nx := hm1.2.2.1
  rw [c_pre hC hB hQ hx i4 hnx hj hfl, m_pre hM hp hQ hS0 hm i4 hnx hj hfl, e]
  by_cases h8 : 1 ≤ h
  · left
    obtain ⟨t, rfl⟩ : ∃ t, h = t + 1 := ⟨h - 1, by omega⟩
    have eX := hx1.2.2.2.2.2.1 t (by omega)
    have eM := hm1.2.2.2.2.1 t (by omega)
    have hC2 := cR_cS hC (cR_pop hx1)
    by_cases hz : pl t = 0
    · refine ⟨_, _, t, nm nx, pl, cl, _, ⟨by omega, fun i hi => i2 i (by omega), i3, hl, by omega⟩, cR_pop hx1, mR_next (mR_pop (mR_next hm1 (nx + 1))) (nm nx), ?_, ?_⟩
      · rw [su_y106 hC1 fX h8 i1, pb_b2, if_neg o_nz, if_neg (show ¬ nI 106 = 111 by decide), if_neg (show ¬ nI 106 = 104 by decide), if_neg (show ¬ nI 106 = 103 by decide), if_pos (show nI 106 = 106 from rfl), c_ck9 hC1, pb_bind, c_pull hC1 (by omega) fX, pb_b2, eX, if_pos (show nI (pl t) = 0 by rw [hz]; rfl), c_finJ hC2, ac_106, pb_b2]
      · rw [ne_106, pb_b2, if_neg (show ¬ nI (t + 1) < 1 from nI_nlt (b := 1) (by omega) (by omega)), pu_106, pb_b2, if_pos rfl, m_r196 (s := nI 106) hM hp hQ hm1 hnx (by decide) (by decide), do_106z hM1 fN fM (by omega) (by rw [eM, hz]; rfl), pb_b2]
    · have hz2 : ¬ nI (pl t) = 0 := n_z (by omega) (by have := i2 t (by omega); omega)
      refine ⟨_, _, t, nx + 1, pl, cl, _, ⟨by omega, fun i hi => i2 i (by omega), i3, hl, by omega⟩, cR_pop hx1, mR_pop (mR_next hm1 (nx + 1)), ?_, ?_⟩
      · rw [su_y106 hC1 fX h8 i1, pb_b2, if_neg o_nz, if_neg (show ¬ nI 106 = 111 by decide), if_neg (show ¬ nI 106 = 104 by decide), if_neg (show ¬ nI 106 = 103 by decide), if_pos (show nI 106 = 106 from rfl), c_ck9 hC1, pb_bind, c_pull hC1 (by omega) fX, pb_b2, eX, if_neg hz2, c_fin hC2, ac_106, pb_b2]
      · rw [ne_106, pb_b2, if_neg (show ¬ nI (t + 1) < 1 from nI_nlt (b := 1) (by omega) (by omega)), pu_106, pb_b2, if_pos rfl, m_r196 (s := nI 106) hM hp hQ hm1 hnx (by decide) (by decide), do_106n hM1 fN fM (by omega) (by rw [eM]; exact hz2), pb_b2]
  · have h9 : h = 0 := by omega
    subst h9
    refine Or.inr ⟨10002, _, _, _, _, _, _, _, _, cl, by rw [su_n106 hC1 fX, pb_b2, if_pos rfl], hx1, hm1, i3, hl, Or.inr (Or.inr ⟨rfl, by rw [ne_106, pb_b2, if_pos (show nI 0 < 1 by decide)]⟩)⟩
theorem lk_103 (hC : cS x0) (hM : mS m0) (hB : sB x0 n p) (hp : p < 15) (hQ : pQ x0 m0 g p len sg nm) (hS0 : hs_R m0 13 0 = nI fl) (hav : av < 10000) (hbv : bv < 10000) (hx : cR x0 n c0 (nI av) (nI bv) x h pl cl fa) (hm : mR m0 p c0 m h nx pl cl fa) (hi : rIn h pl cl fa nx len) (hnx : nx < len) (hj : j < fl) (hfl : fl ≤ 500) (e : sg nx = 103) (hk : nm nx < len) (kX : hs_T → Nat → Nat → Nat → Int32 → Int32 → Int32 → Option (Int32 × hs_T)) (kM : hs_T → Nat → Int32 → Int32 → Int32 → Int32 → Option (Int32 × hs_T)) : rGo x0 m0 n p c0 av bv g len fl j kX kM (fX1_run_6b fu kX x 9 g (n + 1) (nI fl) (nI nx) (nI j)) (fX8_runs_48b fu kM m 0 (nI p) (nI av) (nI bv) (nI j)) ∨ rOut fu x0 m0 n p c0 av bv (fX1_run_6b fu kX x 9 g (n + 1) (nI fl) (nI nx) (nI j)) (fX8_runs_48b fu kM m 0 (nI p) (nI av) (nI bv) (nI j)) := by
  obtain ⟨i1, i2, i3, i4, i5⟩ := hi
  have hn := hB.1
  have hx1 := cR_fuel hx (fa1 fa)
  have hm1 := mR_fuel hm (fa1 fa)
  have hC1 := cR_cS hC hx1
  have hM1 := mR_mS hM hm1
  have hB1 : sB (hs_wF x 5 9 (nI (fa1 fa))) n p := sB_of hx1.1.1 hx1.1.2.1 (fun k => hx1.1.2.2.2.1 k n (by omega)) hB
  have hl := fa1_lt fa
  have fX : hs_F (hs_wF x 5 9 (nI (fa1 fa))) 2 9 = nI h := hx1.2.1
  have fM : hs_F (hs_wF m 21 0 (nI (fa1 fa))) 19 0 = nI h := hm1.2.1
  have fN : hs_F (hs_wF m 21 0 (nI (fa1 fa))) 20 0 = nI nx := hm1.2.2.1
  rw [c_pre hC hB hQ hx i4 hnx hj hfl, m_pre hM hp hQ hS0 hm i4 hnx hj hfl, e]
  left
  refine ⟨_, _, h, nm nx, pl, cl, _, ⟨i1, i2, i3, hl, by omega⟩, hx1, mR_next (mR_next hm1 (nx + 1)) (nm nx), ?_, ?_⟩
  · rw [su_y103, pb_b2, if_neg o_nz, if_neg (show ¬ nI 103 = 111 by decide), if_neg (show ¬ nI 103 = 104 by decide), if_pos (show nI 103 = 103 from rfl), c_finJ hC1, ac_103, pb_b2]
  · rw [ne_103, pb_b2, if_neg (show ¬ nI h < 0 from nI_pos (by omega)), pu_103, pb_b2, if_pos rfl, m_r196 (s := nI 103) hM hp hQ hm1 hnx (by decide) (by decide), do_103 hM1 fN, pb_b2]
theorem lk_104 (hC : cS x0) (hM : mS m0) (hB : sB x0 n p) (hp : p < 15) (hQ : pQ x0 m0 g p len sg nm) (hS0 : hs_R m0 13 0 = nI fl) (hav : av < 10000) (hbv : bv < 10000) (hx : cR x0 n c0 (nI av) (nI bv) x h pl cl fa) (hm : mR m0 p c0 m h nx pl cl fa) (hi : rIn h pl cl fa nx len) (hnx : nx < len) (hj : j < fl) (hfl : fl ≤ 500) (e : sg nx = 104) (kX : hs_T → Nat → Nat → Nat → Int32 → Int32 → Int32 → Option (Int32 × hs_T)) (kM : hs_T → Nat → Int32 → Int32 → Int32 → Int32 → Option (Int32 × hs_T)) : rGo x0 m0 n p c0 av bv g len fl j kX kM (fX1_run_6b fu kX x 9 g (n + 1) (nI fl) (nI nx) (nI j)) (fX8_runs_48b fu kM m 0 (nI p) (nI av) (nI bv) (nI j)) ∨ rOut fu x0 m0 n p c0 av bv (fX1_run_6b fu kX x 9 g (n + 1) (nI fl) (nI nx) (nI j)) (fX8_runs_48b fu kM m 0 (nI p) (nI av) (nI bv) (nI j)) := by
  obtain ⟨i1, i2, i3, i4, i5⟩ := hi
  have hn := hB.1
  have hx1 := cR_fuel hx (fa1 fa)
  have hm1 := mR_fuel hm (fa1 fa)
  have hC1 := cR_cS hC hx1
  have hM1 := mR_mS hM hm1
  have hB1 : sB (hs_wF x 5 9 (nI (fa1 fa))) n p := sB_of hx1.1.1 hx1.1.2.1 (fun k => hx1.1.2.2.2.1 k n (by omega)) hB
  have hl := fa1_lt fa
  have fX : hs_F (hs_wF x 5 9 (nI (fa1 fa))) 2 9 = nI h := hx1.2.1
  have fM : hs_F (hs_wF m 21 0 (nI (fa1 fa))) 19 0 = nI h := hm1.2.1
  have fN : hs_F (hs_wF m 21 0 (nI (fa1 fa))) 20 0 = nI nx := hm1.2.2.1
  rw [c_pre hC hB hQ hx i4 hnx hj hfl, m_pre hM hp hQ hS0 hm i4 hnx hj hfl, e]
  refine Or.inr ⟨nI 10000, _, _, _, _, _, _, _, _, cl, by rw [su_y104, pb_b2, if_neg o_nz, if_neg (show ¬ nI 104 = 111 by decide), if_pos (show nI 104 = 104 from rfl)]; rfl, hx1, hm1, i3, hl, Or.inl ⟨10000, by decide, rfl, ?_⟩⟩
  rw [ne_104, pb_b2, if_neg (show ¬ nI h < 0 from nI_pos (by omega)), pu_104, pb_b2, if_pos rfl]
  unfold fX8_runs_196
  rw [if_neg (show ¬ nI 104 = 111 by decide), if_pos (show nI 104 = 104 from rfl)]
  rfl
theorem lk_111 (hC : cS x0) (hM : mS m0) (hB : sB x0 n p) (hp : p < 15) (hQ : pQ x0 m0 g p len sg nm) (hS0 : hs_R m0 13 0 = nI fl) (hav : av < 10000) (hbv : bv < 10000) (hx : cR x0 n c0 (nI av) (nI bv) x h pl cl fa) (hm : mR m0 p c0 m h nx pl cl fa) (hi : rIn h pl cl fa nx len) (hnx : nx < len) (hj : j < fl) (hfl : fl ≤ 500) (e : sg nx = 111) (kX : hs_T → Nat → Nat → Nat → Int32 → Int32 → Int32 → Option (Int32 × hs_T)) (kM : hs_T → Nat → Int32 → Int32 → Int32 → Int32 → Option (Int32 × hs_T)) : rGo x0 m0 n p c0 av bv g len fl j kX kM (fX1_run_6b fu kX x 9 g (n + 1) (nI fl) (nI nx) (nI j)) (fX8_runs_48b fu kM m 0 (nI p) (nI av) (nI bv) (nI j)) ∨ rOut fu x0 m0 n p c0 av bv (fX1_run_6b fu kX x 9 g (n + 1) (nI fl) (nI nx) (nI j)) (fX8_runs_48b fu kM m 0 (nI p) (nI av) (nI bv) (nI j)) := by
  obtain ⟨i1, i2, i3, i4, i5⟩ := hi
  have hn := hB.1
  have hx1 := cR_fuel hx (fa1 fa)
  have hm1 := mR_fuel hm (fa1 fa)
  have hC1 := cR_cS hC hx1
  have hM1 := mR_mS hM hm1
  have hB1 : sB (hs_wF x 5 9 (nI (fa1 fa))) n p := sB_of hx1.1.1 hx1.1.2.1 (fun k => hx1.1.2.2.2.1 k n (by omega)) hB
  have hl := fa1_lt fa
  have fX : hs_F (hs_wF x 5 9 (nI (fa1 fa))) 2 9 = nI h := hx1.2.1
  have fM : hs_F (hs_wF m 21 0 (nI (fa1 fa))) 19 0 = nI h := hm1.2.1
  have fN : hs_F (hs_wF m 21 0 (nI (fa1 fa))) 20 0 = nI nx := hm1.2.2.1
  rw [c_pre hC hB hQ hx i4 hnx hj hfl, m_pre hM hp hQ hS0 hm i4 hnx hj hfl, e]
  by_cases h8 : 1 ≤ h
  · obtain ⟨t, rfl⟩ : ∃ t, h = t + 1 := ⟨h - 1, by omega⟩
    have eX := hx1.2.2.2.2.2.1 t (by omega)
    have eM := hm1.2.2.2.2.1 t (by omega)
    refine Or.inr ⟨nI (pl t), _, _, _, _, _, _, _, _, cl, ?_, hx1, hm1, i3, hl, Or.inl ⟨pl t, by have := i2 t (by omega); omega, rfl, ?_⟩⟩
    · rw [su_y111 hC1 fX h8 i1, pb_b2, if_neg o_nz, if_pos (show nI 111 = 111 from rfl), c_g0_9 hC1, pb_bind, c_gI9 hC1, pb_bind, fX, nI_pred, c_ld10 hC1 (by omega), pb_bind, eX]
    · rw [ne_111, pb_b2, if_neg (show ¬ nI (t + 1) < 1 from nI_nlt (b := 1) (by omega) (by omega)), pu_111, pb_b2, if_pos rfl]
      unfold fX8_runs_196
      rw [if_pos (show nI 111 = 111 from rfl), m_g18 hM1, pb_bind, m_gI hM1, pb_bind, fM, nI_pred, m_ld14 hM1 (by omega), pb_bind, eM]
  · have h9 : h = 0 := by omega
    subst h9
    refine Or.inr ⟨10002, _, _, _, _, _, _, _, _, cl, by rw [su_n111 hC1 fX, pb_b2, if_pos rfl], hx1, hm1, i3, hl, Or.inr (Or.inr ⟨rfl, by rw [ne_111, pb_b2, if_pos (show nI 0 < 1 by decide)]⟩)⟩
theorem lk_step (hC : cS x0) (hM : mS m0) (hB : sB x0 n p) (hp : p < 15) (hQ : pQ x0 m0 g p len sg nm) (hS0 : hs_R m0 13 0 = nI fl) (hav : av < 10000) (hbv : bv < 10000) (hx : cR x0 n c0 (nI av) (nI bv) x h pl cl fa) (hm : mR m0 p c0 m h nx pl cl fa) (hi : rIn h pl cl fa nx len) (hnx : nx < len) (hj : j < fl) (hfl : fl ≤ 500) (kX : hs_T → Nat → Nat → Nat → Int32 → Int32 → Int32 → Option (Int32 × hs_T)) (kM : hs_T → Nat → Int32 → Int32 → Int32 → Int32 → Option (Int32 × hs_T)) : rGo x0 m0 n p c0 av bv g len fl j kX kM (fX1_run_6b fu kX x 9 g (n + 1) (nI fl) (nI nx) (nI j)) (fX8_runs_48b fu kM m 0 (nI p) (nI av) (nI bv) (nI j)) ∨ rOut fu x0 m0 n p c0 av bv (fX1_run_6b fu kX x 9 g (n + 1) (nI fl) (nI nx) (nI j)) (fX8_runs_48b fu kM m 0 (nI p) (nI av) (nI bv) (nI j)) := by
  rcases (hQ.2.2.2.2.2.2.2.2.2.2.2.2.2 nx hnx).1 with h1 | ⟨e, hk⟩ | ⟨h1, hk⟩ | ⟨h1, hk⟩
  · rcases h1 with e | e | e | e | e | e | e | e | e
    · exact lk_97 hC hM hB hp hQ hS0 hav hbv hx hm hi hnx hj hfl e kX kM
    · exact lk_98 hC hM hB hp hQ hS0 hav hbv hx hm hi hnx hj hfl e kX kM
    · exact lk_111 hC hM hB hp hQ hS0 hav hbv hx hm hi hnx hj hfl e kX kM
    · exact lk_104 hC hM hB hp hQ hS0 hav hbv hx hm hi hnx hj hfl e kX kM
    · exact lk_43 hC hM hB hp hQ hS0 hav hbv hx hm hi hnx hj hfl e kX kM
    · exact lk_45 hC hM hB hp hQ hS0 hav hbv hx hm hi hnx hj hfl e kX kM
    · exact lk_42 hC hM hB hp hQ hS0 hav hbv hx hm hi hnx hj hfl e kX kM
    · exact lk_61 hC hM hB hp hQ hS0 hav hbv hx hm hi hnx hj hfl e kX kM
    · exact lk_60 hC hM hB hp hQ hS0 hav hbv hx hm hi hnx hj hfl e kX kM
  · exact lk_112 hC hM hB hp hQ hS0 hav hbv hx hm hi hnx hj hfl e hk kX kM
  · rcases h1 with e | e
    · exact lk_106 hC hM hB hp hQ hS0 hav hbv hx hm hi hnx hj hfl e hk kX kM
    · exact lk_103 hC hM hB hp hQ hS0 hav hbv hx hm hi hnx hj hfl e hk kX kM
  · rcases h1 with e | e
    · exact lk_108 hC hM hB hp hQ hS0 hav hbv hx hm hi hnx hj hfl e hk kX kM
    · exact lk_115 hC hM hB hp hQ hS0 hav hbv hx hm hi hnx hj hfl e hk kX kM
end Lock
