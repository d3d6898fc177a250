/-! Pure part 30: gain -/
section Gain
variable {c T Rd nh fu s L : Nat} {st sv hn hb hp hr : Nat → Nat} {x x' m m' σ : hs_T} {A B C D : Nat → Int32}
theorem sm_if {P : Prop} [Decidable P] {f : Nat → Int32} {n : Nat} : (if P then sm f n else 0) = sm (fun i => if P then f i else 0) n := by
  by_cases q : P
  · rw [if_pos q]
    exact sm_ext (fun i _ => (if_pos q).symm)
  · rw [if_neg q]
    exact (sm_zero (fun i _ => if_neg q)).symm
/-- what a flag brings to a set, and takes from it -/
def CTv (s T : Nat) (m : hs_T) (r p : Nat) : Int32 := sm (fun t => if bN s t = 1 then (if tkN (hVn m r p t) 1000 = 0 then 0 else shN (kNm m T 1000 r p)) else 0) T - (if bN s (p / 3) = 1 then 4 * nI (kNm m T 1000 r p) else 0)
theorem SV_eq : SVv m T Rd s = sm (fun t => if bN s t = 1 then UPv m T Rd 1000 t else 0) T + sm (fun r => sm (fun p => CTv s T m r p) (3 * T)) Rd := by
  have e1 : SVv m T Rd s = sm (fun t => (if bN s t = 1 then UPv m T Rd 1000 t else 0) + ((if bN s t = 1 then STv m T Rd 1000 t else 0) - (if bN s t = 1 then OFv m T Rd 1000 t else 0))) T := by
    unfold SVv
    refine sm_ext (fun t _ => ?_)
    by_cases q : bN s t = 1
    · rw [if_pos q, if_pos q, if_pos q, if_pos q, Int32.sub_eq_add_neg, Int32.sub_eq_add_neg, Int32.add_assoc]
    · rw [if_neg q, if_neg q, if_neg q, if_neg q]; rfl
  rw [e1, sm_add]
  congr 1
  have e2 : sm (fun t => if bN s t = 1 then STv m T Rd 1000 t else 0) T = sm (fun r => sm (fun p => sm (fun t => if bN s t = 1 then (if tkN (hVn m r p t) 1000 = 0 then 0 else shN (kNm m T 1000 r p)) else 0) T) (3 * T)) Rd := by
    refine (sm_ext (g := fun t => sm (fun r => sm (fun p => if bN s t = 1 then (if tkN (hVn m r p t) 1000 = 0 then 0 else shN (kNm m T 1000 r p)) else 0) (3 * T)) Rd) (fun t _ => ?_)).trans ?_
    · unfold STv
      rw [sm_if]
      exact sm_ext (fun r _ => sm_if)
    · rw [sm_swap (a := T)]
      exact sm_ext (fun r _ => sm_swap)
  have e3 : sm (fun t => if bN s t = 1 then OFv m T Rd 1000 t else 0) T = sm (fun r => sm (fun p => if bN s (p / 3) = 1 then 4 * nI (kNm m T 1000 r p) else 0) (3 * T)) Rd := by
    refine (sm_ext (g := fun t => sm (fun r => sm (fun p => if bN s t = 1 then (if p / 3 = t then 4 * nI (kNm m T 1000 r p) else 0) else 0) (3 * T)) Rd) (fun t _ => ?_)).trans ?_
    · unfold OFv
      rw [sm_if]
      exact sm_ext (fun r _ => sm_if)
    · rw [sm_swap (a := T)]
      refine sm_ext (fun r _ => ?_)
      rw [sm_swap (a := T)]
      refine sm_ext (fun p hp2 => ?_)
      refine (sm_ext (g := fun t => if t = p / 3 then (if bN s t = 1 then 4 * nI (kNm m T 1000 r p) else 0) else 0) (fun t _ => ?_)).trans (sm_pick (g := fun t => if bN s t = 1 then 4 * nI (kNm m T 1000 r p) else 0) (by omega))
      by_cases q : t = p / 3
      · rw [if_pos q, if_pos q.symm]
      · rw [if_neg q, if_neg (show ¬ p / 3 = t from fun z => q z.symm)]
        by_cases q2 : bN s t = 1
        · rw [if_pos q2]
        · rw [if_neg q2]
  rw [sm_sub, e2, e3, ← sm_sub]
  refine sm_ext (fun r _ => ?_)
  rw [← sm_sub]
  rfl
/-- what the class adds for a flag -/
def gfV (s T L : Nat) (m : hs_T) (p : Nat) : Int32 := (nI (pcN s - 1) * shN (kNm m T 100 L p + (pcN s - 1) - smN (fun t => bN s t * tkN (hVn m L p t) 100) 5) - 4 * nI (kNm m T 100 L p + (pcN s - 1) - smN (fun t => bN s t * tkN (hVn m L p t) 100) 5)) - (nI (smN (fun t => bN s t * tkN (hVn m L p t) 100) 5) * shN (kNm m T 100 L p) - 4 * nI (kNm m T 100 L p))
theorem bt_le {v lim t : Nat} : bN s t * tkN v lim ≤ 1 := by
  have h1 := bN_lt (s := s) (t := t)
  have h2 := tkN_le (v := v) (lim := lim)
  rcases (show bN s t = 0 ∨ bN s t = 1 by omega) with e | e
  · rw [e, Nat.zero_mul]; omega
  · rw [e, Nat.one_mul]; exact h2
theorem bt_sub {v : Nat → Nat} {lim n : Nat} : smN (fun t => bN s t * tkN (v t) lim) n ≤ smN (fun t => tkN (v t) lim) n := by
  induction n with
  | zero => exact Nat.le_refl _
  | succ n ih =>
    show smN (fun t => bN s t * tkN (v t) lim) n + bN s n * tkN (v n) lim ≤ smN (fun t => tkN (v t) lim) n + tkN (v n) lim
    have h1 := bN_lt (s := s) (t := n)
    have : bN s n * tkN (v n) lim ≤ tkN (v n) lim := by
      rcases (show bN s n = 0 ∨ bN s n = 1 by omega) with e | e
      · rw [e, Nat.zero_mul]; omega
      · rw [e, Nat.one_mul]; exact Nat.le_refl _
    omega
theorem c_gff (hfu : 600 < fu) (hs : s < 2 ^ T) (h : Rl c T Rd nh st sv hn hb hp hr x m) (hR : 0 < Rd) (hpc : 2 ≤ pcN s) {p : Nat} (hp2 : p < 3 * T) : fX7_gainFromFlag fu x 0 (sv p) (nI s) = some (gfV s T (Rd - 1) m p, x) := by
  obtain ⟨hM, hC, hN, hnh, ⟨h5, h100, n1, n2, n3, n4, -⟩, hS, hT, hL, hV, hP, hc, hK, hA, hH, -⟩ := h
  have hs32 : s < 32 := Nat.lt_of_lt_of_le hs (p2_le h5)
  obtain ⟨L, rfl⟩ : ∃ L, Rd = L + 1 := ⟨Rd - 1, by omega⟩
  show _ = some (gfV s T L m p, x)
  have hB := hV.1 p hp2
  have hp5 := b_pc s hs32
  have hKT := kNm_le (m := m) (n := T) (lim := 100) (r := L) (p := p)
  have hsub : smN (fun t => bN s t * tkN (hVn m L p t) 100) 5 ≤ kNm m T 100 L p := by
    have e1 : smN (fun t => bN s t * tkN (hVn m L p t) 100) 5 = smN (fun t => bN s t * tkN (hVn m L p t) 100) T := smN_more h5 (fun t ht1 ht2 => by rw [b_hi T h5 s hs t ht2 ht1, Nat.zero_mul])
    rw [e1]
    exact bt_sub
  unfold fX7_gainFromFlag
  rw [c_gI0 hC, pb_bind, n3, nI_pred, s_ck hB, pb_bind, show fX5_takers fu x (sv p) (nI L) 100 = _ from c_takers (lim := 100) hfu hV hH h5 h100 hp2 (by omega) (by decide), pb_b2, bc_is, pb_b2, bc_all s hs32, show nI (pcN s) - 1 = nI (pcN s - 1) by
    obtain ⟨w, hw⟩ : ∃ w, pcN s = w + 1 := ⟨pcN s - 1, by omega⟩
    rw [hw, nI_pred]
    rfl]
  unfold fX7_gainFromFlag_30
  refine pb_lpz (fun j => (x, sv p, nI s, nI L, nI (kNm m T 100 L p), nI (pcN s - 1), nI (smN (fun t => bN s t * tkN (hVn m L p t) 100) j), nI j)) 5 rfl ?_ ?_ (by omega)
  · intro k j hj
    dsimp only
    unfold fX7_gainFromFlag_30b
    rw [if_neg (show ¬ 5 ≤ nI j from nI_ge (b := 5) hj (by decide)), b_bit s hs32 j hj, nI_1]
    show _ = k (x, sv p, nI s, nI L, nI (kNm m T 100 L p), nI (pcN s - 1), nI (smN (fun t => bN s t * tkN (hVn m L p t) 100) j + bN s j * tkN (hVn m L p j) 100), nI (j + 1))
    have hb1 := bN_lt (s := s) (t := j)
    by_cases q : bN s j = 1
    · rw [if_pos (show nI (bN s j) = 1 by rw [q]; rfl), s_ck hB, pb_bind, show fX5_isTaken fu x (sv p) (nI j) (nI L) 100 = _ from c_taken (lim := 100) hV hH h100 hp2 hj (by omega) (by decide), pb_b2, q, Nat.one_mul]
      by_cases q2 : tkN (hVn m L p j) 100 = 0
      · rw [q2, if_pos (show nI 0 = 0 from rfl), Nat.add_zero (smN (fun t => bN s t * tkN (hVn m L p t) 100) j)]
      · have e1 : tkN (hVn m L p j) 100 = 1 := by have := tkN_le (v := hVn m L p j) (lim := 100); omega
        rw [e1, if_neg (show ¬ nI 1 = 0 by decide), nI_1]
    · rw [if_neg (show ¬ nI (bN s j) = 1 from n_ne (b := 1) (by omega) (by decide) q), show bN s j = 0 by omega, Nat.zero_mul, Nat.add_zero (smN (fun t => bN s t * tkN (hVn m L p t) 100) j)]
  · intro k
    dsimp only
    unfold fX7_gainFromFlag_30b
    rw [if_pos (show (5 : Int32) ≤ nI 5 by decide), nI_add, pk_sub (by omega), c_share (by omega), pb_b2, c_share (by omega), pb_b2]
    rfl
/-- one flag: the reference's two sums -/
theorem gf_eq (hs : s < 2 ^ T) (h5 : T ≤ 5) (hpc : 2 ≤ pcN s) {p : Nat} (hp2 : p < 3 * T) (hv : ∀ b, b < 5 → hVn m L p b ≤ 100 ∧ (hVn m L p b ≠ 0 → b ≠ p / 3)) (h1 : ∀ b, b < T → bN s b = 1 ∧ bN s (p / 3) = 1 ∧ b ≠ p / 3 ∧ hVn m L p b = 0 → hVn σ L p b = 900) (h2 : ∀ b, b < T → ¬ (bN s b = 1 ∧ bN s (p / 3) = 1 ∧ b ≠ p / 3 ∧ hVn m L p b = 0) → hVn σ L p b = hVn m L p b) : CTv s T σ L p - CTv s T m L p = if bN s (p / 3) = 1 then gfV s T L m p else 0 := by
  have hs32 : s < 32 := Nat.lt_of_lt_of_le hs (p2_le h5)
  by_cases q : bN s (p / 3) = 1
  · rw [if_pos q]
    have ho : p / 3 < T := by omega
    have hVo : hVn m L p (p / 3) = 0 := by
      by_cases z : hVn m L p (p / 3) = 0
      · exact z
      · exact absurd rfl ((hv (p / 3) (by omega)).2 z)
    -- what is taken behind it
    have hf : ∀ t, t < T → tkN (hVn σ L p t) 1000 = if bN s t = 1 ∧ t ≠ p / 3 then 1 else tkN (hVn m L p t) 1000 := by
      intro t ht
      by_cases z : bN s t = 1 ∧ t ≠ p / 3
      · rw [if_pos z]
        by_cases z2 : hVn m L p t = 0
        · rw [h1 t ht ⟨z.1, q, z.2, z2⟩]; rfl
        · rw [h2 t ht (fun w => z2 w.2.2.2)]
          have := (hv t (by omega)).1
          unfold tkN
          rw [if_neg (by omega)]
      · rw [if_neg z, h2 t ht (fun w => z ⟨w.1, w.2.2.1⟩)]
    have e100 : ∀ t, t < T → tkN (hVn m L p t) 100 = tkN (hVn m L p t) 1000 := fun t ht => by have := (hv t (by omega)).1; exact tk_lim this (by omega)
    have ek : kNm m T 100 L p = kNm m T 1000 L p := smN_ext (fun t ht => e100 t ht)
    have eg : smN (fun t => bN s t * tkN (hVn m L p t) 100) 5 = smN (fun t => bN s t * tkN (hVn m L p t) 1000) T := by
      rw [smN_more h5 (fun t ht1 ht2 => by rw [b_hi T h5 s hs t ht2 ht1, Nat.zero_mul])]
      exact smN_ext (fun t ht => by rw [e100 t ht])
    have epc : pcN s = smN (fun t => if bN s t = 1 ∧ t ≠ p / 3 then 1 else 0) T + 1 := by
      have a1 : pcN s = smN (bN s) T := smN_more h5 (fun t ht1 ht2 => b_hi T h5 s hs t ht2 ht1)
      have a2 : smN (bN s) T = smN (fun t => (if bN s t = 1 ∧ t ≠ p / 3 then 1 else 0) + (if t = p / 3 then 1 else 0)) T := smN_ext (fun t ht => by
        have hb1 := bN_lt (s := s) (t := t)
        by_cases z : t = p / 3
        · rw [if_neg (fun w => w.2 z), if_pos z, z, q]
        · rw [if_neg z]
          by_cases z2 : bN s t = 1
          · rw [if_pos ⟨z2, z⟩, z2]
          · rw [if_neg (fun w => z2 w.1)]; omega)
      have a3 : ∀ n, p / 3 < n → smN (fun t => if t = p / 3 then 1 else 0) n = 1 := by
        intro n
        induction n with
        | zero => intro z; omega
        | succ n ih =>
          intro z
          show smN (fun t => if t = p / 3 then 1 else 0) n + (if n = p / 3 then 1 else 0) = 1
          by_cases w : n = p / 3
          · rw [if_pos w, smN_more (a := 0) (Nat.zero_le _) (fun i _ hi => if_neg (by omega))]
            rfl
          · rw [if_neg w, ih (by omega)]
      rw [a1, a2, smN_add, a3 T ho]
    have ekk : kNm σ T 1000 L p + smN (fun t => bN s t * tkN (hVn m L p t) 1000) T = kNm m T 1000 L p + smN (fun t => if bN s t = 1 ∧ t ≠ p / 3 then 1 else 0) T := by
      unfold kNm
      rw [← smN_add, ← smN_add]
      refine smN_ext (fun t ht => ?_)
      have hb1 := bN_lt (s := s) (t := t)
      show tkN (hVn σ L p t) 1000 + bN s t * tkN (hVn m L p t) 1000 = tkN (hVn m L p t) 1000 + (if bN s t = 1 ∧ t ≠ p / 3 then 1 else 0)
      rw [hf t ht]
      by_cases z : bN s t = 1 ∧ t ≠ p / 3
      · rw [if_pos z, if_pos z, z.1, Nat.one_mul]; omega
      · rw [if_neg z, if_neg z]
        by_cases z2 : bN s t = 1
        · have z3 : t = p / 3 := by
            by_cases w : t = p / 3
            · exact w
            · exact absurd ⟨z2, w⟩ z
          rw [z3, hVo, tkN_0, Nat.mul_zero]
        · rw [show bN s t = 0 by omega, Nat.zero_mul]
    have s1 : sm (fun t => if bN s t = 1 then (if tkN (hVn σ L p t) 1000 = 0 then 0 else shN (kNm σ T 1000 L p)) else 0) T = nI (smN (fun t => if bN s t = 1 ∧ t ≠ p / 3 then 1 else 0) T) * shN (kNm σ T 1000 L p) := by
      rw [← sm_ind (f := fun t => if bN s t = 1 ∧ t ≠ p / 3 then 1 else 0) (fun t _ => by
        by_cases z : bN s t = 1 ∧ t ≠ p / 3
        · rw [if_pos z]; omega
        · rw [if_neg z]; omega)]
      refine sm_ext (fun t ht => ?_)
      show (if bN s t = 1 then (if tkN (hVn σ L p t) 1000 = 0 then 0 else shN (kNm σ T 1000 L p)) else 0) = (if (if bN s t = 1 ∧ t ≠ p / 3 then 1 else 0) = 0 then 0 else shN (kNm σ T 1000 L p))
      rw [hf t ht]
      by_cases z : bN s t = 1
      · rw [if_pos z]
        by_cases z2 : t = p / 3
        · have nn : ¬ (bN s t = 1 ∧ t ≠ p / 3) := fun w => w.2 z2
          rw [if_neg nn, if_neg nn, z2, hVo, tkN_0]
        · have nn : bN s t = 1 ∧ t ≠ p / 3 := ⟨z, z2⟩
          rw [if_pos nn, if_pos nn]
      · have nn : ¬ (bN s t = 1 ∧ t ≠ p / 3) := fun w => z w.1
        rw [if_neg z, if_neg nn, if_pos rfl]
    have s2 : sm (fun t => if bN s t = 1 then (if tkN (hVn m L p t) 1000 = 0 then 0 else shN (kNm m T 1000 L p)) else 0) T = nI (smN (fun t => bN s t * tkN (hVn m L p t) 1000) T) * shN (kNm m T 1000 L p) := by
      rw [← sm_ind (f := fun t => bN s t * tkN (hVn m L p t) 1000) (fun t _ => bt_le)]
      refine sm_ext (fun t ht => ?_)
      have hb1 := bN_lt (s := s) (t := t)
      show (if bN s t = 1 then (if tkN (hVn m L p t) 1000 = 0 then 0 else shN (kNm m T 1000 L p)) else 0) = (if bN s t * tkN (hVn m L p t) 1000 = 0 then 0 else shN (kNm m T 1000 L p))
      by_cases z : bN s t = 1
      · rw [if_pos z, z, Nat.one_mul]
      · rw [if_neg z, show bN s t = 0 by omega, Nat.zero_mul, if_pos rfl]
    unfold CTv gfV
    rw [if_pos q, if_pos q, s1, s2, ek, eg]
    have e1 : pcN s - 1 = smN (fun t => if bN s t = 1 ∧ t ≠ p / 3 then 1 else 0) T := by omega
    have e2 : kNm m T 1000 L p + (pcN s - 1) - smN (fun t => bN s t * tkN (hVn m L p t) 1000) T = kNm σ T 1000 L p := by omega
    rw [e2, e1]
  · rw [if_neg q]
    have e : ∀ b, b < T → hVn σ L p b = hVn m L p b := fun b hb2 => h2 b hb2 (fun z => q z.2.1)
    have ek : kNm σ T 1000 L p = kNm m T 1000 L p := smN_ext (fun t ht => by rw [e t ht])
    have eC : CTv s T σ L p = CTv s T m L p := by
      unfold CTv
      rw [ek]
      congr 1
      exact sm_ext (fun t ht => by rw [e t ht])
    rw [eC, Int32.sub_self]
theorem op_gain (hfu : 600 < fu) (h : Rl c T Rd nh st sv hn hb hp hr x m) (a : Int32) : Op c (fX7_gain fu x 0 a) (fX8_gain fu m 0 a) := by
  have h0 := h
  obtain ⟨hM, hC, hN, hnh, ⟨h5, h100, n1, n2, n3, n4, -⟩, hS, hT, hL, hV, hP, hc, hK, hA, hH, -⟩ := h
  have p32 := p2_le h5
  have em : fX8_gain fu m 0 a = if a < 0 then some (-1000000, m) else if nI (2 ^ T) ≤ a then some (-1000000, m) else if 2 ≤ sm (fun t => (a >>> (nI t &&& 31)) &&& 1) 31 then (if nI Rd = 0 then some (-1000001, m) else hs_b2 (fX8_sumOf fu m 0 a) fun v13 σ11 => (hs_gI σ11 10 0 1).bind fun v15 => fX8_gain_73 fu σ11 0 a v13 (v15 - 1) 0) else some (-1000000, m) := by
    unfold fX8_gain fX8_gain_4
    refine pb_lpz (fun j => (m, 0, a, sm (fun t => (a >>> (nI t &&& 31)) &&& 1) j, nI j)) 31 rfl ?_ ?_ (by omega)
    · intro k j hj
      dsimp only
      unfold fX8_gain_4b
      rw [if_neg (show ¬ 31 ≤ nI j from nI_ge (b := 31) hj (by decide)), nI_1]
      rfl
    · intro k
      dsimp only
      unfold fX8_gain_4b fX8_gain_43
      rw [if_pos (show (31 : Int32) ≤ nI 31 by decide), m_gI hM, pb_bind, n1, b_pow T h5, m_gI hM, pb_bind, n2, m_ck hM, pb_bind]
  rw [em]
  unfold fX7_gain fX7_gain_22
  by_cases q0 : a < 0
  · exact Op_same h0 ⟨-1000000, by rw [if_pos q0], by rw [if_pos q0]⟩
  rw [if_neg q0, if_neg q0, c_ck0 hC, pb_bind, c_teams hC n4 h5, pb_b2, b_pow T h5]
  by_cases q1 : nI (2 ^ T) ≤ a
  · exact Op_same h0 ⟨-1000000, by rw [if_pos q1], by rw [if_pos q1]⟩
  rw [if_neg q1, if_neg q1]
  obtain ⟨s, hs, rfl⟩ : ∃ s, s < 2 ^ T ∧ a = nI s := by
    rcases i_lt (a := a) (n := 2 ^ T) (by omega) with (z | z) | z
    · exact absurd z q0
    · exact absurd z q1
    · exact z
  have hs32 : s < 32 := by omega
  have hp5 := b_pc s hs32
  rw [bc_is, pb_b2, bc_all s hs32, b_sum s hs32]
  by_cases q2' : pcN s < 2
  · have q2 : ¬ 2 ≤ pcN s := by omega
    exact Op_same h0 ⟨-1000000, by rw [if_neg (show ¬ 2 ≤ nI (pcN s) from nI_ge (b := 2) (by omega) (by decide))], by rw [if_neg (show ¬ 2 ≤ nI (pcN s) from nI_ge (b := 2) (by omega) (by decide))]⟩
  have q2 : 2 ≤ pcN s := by omega
  rw [if_pos (show (2 : Int32) ≤ nI (pcN s) from nI_le (a := 2) q2 (by omega)), if_pos (show (2 : Int32) ≤ nI (pcN s) from nI_le (a := 2) q2 (by omega)), c_gI0 hC, pb_bind, n3]
  by_cases q3 : Rd = 0
  · subst q3
    exact Op_same h0 ⟨-1000001, by rw [if_pos (show nI 0 = 0 from rfl)], by rw [if_pos (show nI 0 = 0 from rfl)]⟩
  rw [if_neg (nI_ne0 (by omega) (by omega)), if_neg (nI_ne0 (by omega) (by omega))]
  -- the class
  have ex : fX7_gain_39 fu x 0 (nI s) 0 0 = some (sm (fun p => if bN s (p / 3) = 1 then gfV s T (Rd - 1) m p else 0) (3 * T), x) := by
    unfold fX7_gain_39
    refine pb_lpz (fun j => (x, 0, nI s, sm (fun p => if bN s (p / 3) = 1 then gfV s T (Rd - 1) m p else 0) j, nI j)) (3 * T) rfl ?_ ?_ (by omega)
    · intro k j hj
      have hB := hV.1 j hj
      have f0 : hs_F x 0 (sv j) = nI (j / 3) := hB.2.2.2.2.2.2.1
      dsimp only
      unfold fX7_gain_39b
      rw [c_g1_0 hC, pb_bind, c_ck2 hC, pb_bind]
      unfold fJx4a65c_size_8abf5
      rw [c_gI2 hC, pb_bind, pb_b2, n4, if_neg (nI_ge hj (by omega)), c_g1_0 hC, pb_bind, c_ck2 hC, pb_bind, c_svc hC hV hj, pb_b2, pb_ms, s_ck hB, pb_bind, s_gI hB, pb_bind, f0, b_bit s hs32 (j / 3) (by omega), nI_1]
      show _ = k (x, 0, nI s, sm _ j + (if bN s (j / 3) = 1 then gfV s T (Rd - 1) m j else 0), nI (j + 1))
      by_cases q : bN s (j / 3) = 1
      · rw [if_pos (show nI (bN s (j / 3)) = 1 by rw [q]; rfl), if_pos q, c_ck0 hC, pb_bind, c_gff hfu hs h0 (by omega) q2 hj, pb_b2]
      · rw [if_neg (show ¬ nI (bN s (j / 3)) = 1 from n_ne (b := 1) (by have := bN_lt (s := s) (t := j / 3); omega) (by decide) q), if_neg q, Int32.add_zero]
    · intro k
      dsimp only
      unfold fX7_gain_39b
      rw [c_g1_0 hC, pb_bind, c_ck2 hC, pb_bind]
      unfold fJx4a65c_size_8abf5
      rw [c_gI2 hC, pb_bind, pb_b2, n4, if_pos (nI_le (Nat.le_refl _) (by omega))]
  rw [ex]
  obtain ⟨L, rfl⟩ : ∃ L, Rd = L + 1 := ⟨Rd - 1, by omega⟩
  -- the reference: before
  obtain ⟨m1, a1, a2, a3, a4, a5⟩ := m_sumOf (fu := fu) hfu hs32 hM n1 n2 h5 h100 (Rl_mV h0)
  have hM1 := mS_of a2 a3 hM
  have n11 : hs_F m1 0 0 = nI T := by rw [a4]; exact n1
  rw [a1, pb_b2, m_gI hM1, pb_bind, a4, n2, nI_pred]
  unfold fX8_gain_73
  obtain ⟨b', ⟨σ1, hb1, hF1⟩, f1, hE1⟩ := lp_one (B := (fun (k : hs_T × Nat × Int32 × Int32 × Int32 × Int32 → Option (Int32 × hs_T)) (a : hs_T × Nat × Int32 × Int32 × Int32 × Int32) => fX8_gain_73b fu  (fun σ x0 x1 x3 x4 x5 => k (σ, x0, x1, x3, x4, x5)) a.1 a.2.1 a.2.2.1 a.2.2.2.1 a.2.2.2.2.1 a.2.2.2.2.2)) (fun p b => ∃ σ', b = (σ', 0, nI s, SVv m T (L + 1) s, nI L, nI p) ∧ fH s L 0 (5 * p) m1 σ') (n := 3 * T) (fuel := fu) (a := (m1, 0, nI s, SVv m T (L + 1) s, nI L, 0)) ⟨m1, rfl, rfl, rfl, rfl, fun _ _ => rfl, fun i => ⟨fun z => absurd z.1 (by omega), fun _ => rfl⟩⟩ (by
    rintro p b hp2 ⟨σ', rfl, hF⟩
    obtain ⟨σ2, z1, z2⟩ := m_helps (fu := fu) hfu hs hM1 n11 h5 (by omega) hp2 hF
    refine ⟨_, ⟨σ2, rfl, z2⟩, fun k => ?_⟩
    have hM2 := fH_mS hM1 hF
    dsimp only
    unfold fX8_gain_73b
    rw [m_gI hM2, pb_bind, hF.2.2.1, n11, il 3, pk_mul, if_neg (nI_ge hp2 (by omega)), m_ck hM2, pb_bind, z1, pb_b2, nI_1]) (by omega)
  subst hb1
  rw [hE1]
  have hMs := fH_mS hM1 hF1
  dsimp only
  unfold fX8_gain_73b
  rw [m_gI hMs, pb_bind, hF1.2.2.1, n11, il 3, pk_mul, if_pos (nI_le (Nat.le_refl _) (by omega)), m_ck hMs, pb_bind]
  -- what its cells hold then
  have hm1 : ∀ r p b, r < 100 → p < 3 * T → b < 5 → hs_R m1 27 (75 * r + 5 * p + b) = nI (hVn m r p b) ∧ hVn m r p b ≤ L + 1 ∧ (hVn m r p b ≠ 0 → r < L + 1 ∧ b < T ∧ b ≠ p / 3) := by
    intro r p b hr2 hp2 hb2
    obtain ⟨v1, v2, v3, v4⟩ := rH_x hH h100 hp2 hb2 hr2
    rw [a5 27 (by decide)]
    exact ⟨v2, v3, v4⟩
  have cell : ∀ r p b, r < L + 1 → p < 3 * T → b < T → hs_R σ1 27 (75 * r + 5 * p + b) = nI (hVn σ1 r p b) ∧ ((r = L ∧ bN s b = 1 ∧ bN s (p / 3) = 1 ∧ b ≠ p / 3 ∧ hVn m r p b = 0 → hVn σ1 r p b = 900) ∧ (¬ (r = L ∧ bN s b = 1 ∧ bN s (p / 3) = 1 ∧ b ≠ p / 3 ∧ hVn m r p b = 0) → hVn σ1 r p b = hVn m r p b)) := by
    intro r p b hr2 hp2 hb2
    obtain ⟨v1, v2, v3⟩ := hm1 r p b (by omega) hp2 (by omega)
    by_cases z : r = L ∧ bN s b = 1 ∧ bN s (p / 3) = 1 ∧ b ≠ p / 3 ∧ hVn m r p b = 0
    · obtain ⟨rfl, z2, z3, z4, z5⟩ := z
      have e : hs_R σ1 27 (75 * r + 5 * p + b) = nI 900 := (hF1.2.2.2.2 _).1 ((hl2_at (by omega)).mpr ⟨by omega, ⟨z2, z3, z4⟩, by rw [v1, z5]; rfl⟩)
      have e2 := hVn_of e (by decide)
      exact ⟨by rw [e2]; exact e, fun _ => e2, fun w => absurd ⟨rfl, z2, z3, z4, z5⟩ w⟩
    · have e : hs_R σ1 27 (75 * r + 5 * p + b) = nI (hVn m r p b) := by
        rw [(hF1.2.2.2.2 _).2, v1]
        intro w
        by_cases q : r = L
        · subst q
          obtain ⟨-, ⟨y1, y2, y3⟩, y4⟩ := (hl2_at (by omega)).mp w
          refine z ⟨rfl, y1, y2, y3, ?_⟩
          rw [v1] at y4
          exact (nI_eq (b := 0) (by omega) (by decide)).mp y4
        · obtain ⟨⟨y1, y2⟩, -⟩ := w
          omega
      have e2 := hVn_of e (by omega)
      exact ⟨by rw [e2]; exact e, fun w => absurd w z, fun _ => e2⟩
  have hvs : mV T (L + 1) σ1 := by
    refine ⟨fun r p b hr2 hp2 hb2 => ?_, fun r p hr2 hp2 => ?_⟩
    · obtain ⟨z1, z2, z3⟩ := cell r p b hr2 hp2 hb2
      refine ⟨z1, ?_⟩
      by_cases z : r = L ∧ bN s b = 1 ∧ bN s (p / 3) = 1 ∧ b ≠ p / 3 ∧ hVn m r p b = 0
      · rw [z2 z]; decide
      · rw [z3 z]
        have := (hm1 r p b (by omega) hp2 (by omega)).2.1
        omega
    · rw [hF1.2.2.2.1 21 (by decide), a5 21 (by decide)]
      exact (Rl_mV h0).2 r p hr2 hp2
  have ns1 : hs_F σ1 0 0 = nI T := by rw [hF1.2.2.1]; exact n11
  have ns2 : hs_F σ1 1 0 = nI (L + 1) := by rw [hF1.2.2.1, a4]; exact n2
  obtain ⟨m2, d1, d2, d3, d4, d5⟩ := m_sumOf (fu := fu) hfu hs32 hMs ns1 ns2 h5 h100 hvs
  rw [d1, pb_b2]
  unfold fX8_gain_110
  have hF2 : fH s L 0 (15 * T) m1 m2 := by
    have z : fH s L 0 (15 * T) m1 σ1 := by rw [show 15 * T = 5 * (3 * T) by omega]; exact hF1
    obtain ⟨y1, y2, y3, y4, y5⟩ := z
    refine ⟨d2.trans y1, d3.trans y2, d4.trans y3, fun a ha => (d5 a (by omega)).trans (y4 a ha), fun i => ?_⟩
    rw [d5 27 (by decide)]
    exact y5 i
  obtain ⟨b', ⟨σ3, hb1, hF3⟩, f3, hE3⟩ := lp_one (B := (fun (k : hs_T × Nat × Int32 × Int32 × Int32 × Int32 × Int32 → Option (Int32 × hs_T)) (a : hs_T × Nat × Int32 × Int32 × Int32 × Int32 × Int32) => fX8_gain_110b fu  (fun σ x0 x1 x3 x4 x5 x6 => k (σ, x0, x1, x3, x4, x5, x6)) a.1 a.2.1 a.2.2.1 a.2.2.2.1 a.2.2.2.2.1 a.2.2.2.2.2.1 a.2.2.2.2.2.2)) (fun p b => ∃ σ', b = (σ', 0, nI s, SVv m T (L + 1) s, nI L, SVv σ1 T (L + 1) s, nI p) ∧ fH s L (5 * p) (15 * T) m1 σ') (n := 3 * T) (fuel := fu) (a := (m2, 0, nI s, SVv m T (L + 1) s, nI L, SVv σ1 T (L + 1) s, 0)) ⟨m2, rfl, hF2⟩ (by
    rintro p b hp2 ⟨σ', rfl, hF⟩
    obtain ⟨σ2, z1, z2⟩ := m_helps0 (fu := fu) hfu hs hM1 n11 h5 (by omega) (fun p b hp3 hb3 => by
      obtain ⟨v1, v2, v3⟩ := hm1 L p b (by omega) hp3 (by omega)
      rw [v1]
      exact n_ne (b := 900) (by omega) (by decide) (by omega)) hp2 hF
    refine ⟨_, ⟨σ2, rfl, z2⟩, fun k => ?_⟩
    have hM2 := fH_mS hM1 hF
    dsimp only
    unfold fX8_gain_110b
    rw [m_gI hM2, pb_bind, hF.2.2.1, n11, il 3, pk_mul, if_neg (nI_ge hp2 (by omega)), m_ck hM2, pb_bind, z1, pb_b2, nI_1]) (by omega)
  subst hb1
  rw [hE3]
  have hM3 := fH_mS hM1 hF3
  dsimp only
  unfold fX8_gain_110b
  rw [m_gI hM3, pb_bind, hF3.2.2.1, n11, il 3, pk_mul, if_pos (nI_le (Nat.le_refl _) (by omega))]
  have hend : Rl c T (L + 1) nh st sv hn hb hp hr x σ3 := by
    refine Rl_scr h0 rfl rfl rfl rfl (fun _ _ => rfl) (hF3.1.trans a2) (hF3.2.1.trans a3) (hF3.2.2.1.trans a4) (fun a ha => ?_)
    by_cases q : a = 27
    · subst q
      funext i
      rw [(hF3.2.2.2.2 i).2 (fun z => absurd z.1 (by omega)), a5 27 (by decide)]
    · exact (hF3.2.2.2.1 a (by omega)).trans (a5 a ha)
  refine ⟨_, x, σ3, rfl, ?_, T, L + 1, nh, st, sv, hn, hb, hp, hr, Rl_le (by omega) hend⟩
  congr 2
  -- the two sums
  rw [SV_eq (m := σ1), SV_eq (m := m)]
  have eU : ∀ t, UPv σ1 T (L + 1) 1000 t = UPv m T (L + 1) 1000 t := by
    intro t
    unfold UPv
    rw [hF1.2.2.2.1 21 (by decide), a5 21 (by decide)]
  have eU2 : sm (fun t => if bN s t = 1 then UPv σ1 T (L + 1) 1000 t else 0) T = sm (fun t => if bN s t = 1 then UPv m T (L + 1) 1000 t else 0) T := sm_ext (fun t _ => by rw [eU])
  rw [eU2]
  have eC : sm (fun r => sm (fun p => CTv s T σ1 r p) (3 * T)) L = sm (fun r => sm (fun p => CTv s T m r p) (3 * T)) L := by
    refine sm_ext (fun r hr2 => sm_ext (fun p hp2 => ?_))
    have e : ∀ b, b < T → hVn σ1 r p b = hVn m r p b := fun b hb2 => (cell r p b (by omega) hp2 hb2).2.2 (fun z => absurd z.1 (by omega))
    have ek : kNm σ1 T 1000 r p = kNm m T 1000 r p := smN_ext (fun t ht => by rw [e t ht])
    unfold CTv
    rw [ek]
    congr 1
    exact sm_ext (fun t ht => by rw [e t ht])
  have step : ∀ (U S a b : Int32), (U + (S + a)) - (U + (S + b)) = a - b := by
    intro U S a b
    rw [Int32.sub_eq_add_neg, Int32.neg_add, Int32.sub_eq_add_neg, Int32.neg_add, Int32.sub_eq_add_neg, Int32.sub_eq_add_neg]
    have e : U + (S + a) + (-U + (-S + -b)) = (U + -U) + ((S + -S) + (a + -b)) := by ac_rfl
    rw [e, Int32.add_neg_eq_sub, Int32.add_neg_eq_sub, Int32.sub_self, Int32.sub_self, Int32.zero_add, Int32.zero_add]
  show (_ + (sm (fun r => sm (fun p => CTv s T σ1 r p) (3 * T)) L + sm (fun p => CTv s T σ1 L p) (3 * T))) - (_ + (sm (fun r => sm (fun p => CTv s T m r p) (3 * T)) L + sm (fun p => CTv s T m L p) (3 * T))) = _
  rw [eC, step, ← sm_sub]
  refine sm_ext (fun p hp2 => ?_)
  refine gf_eq (L := L) hs h5 q2 hp2 (fun b hb2 => ?_) (fun b hb2 z => ?_) (fun b hb2 z => ?_)
  · obtain ⟨v1, v2, v3⟩ := hm1 L p b (by omega) hp2 hb2
    exact ⟨by omega, fun z => (v3 z).2.2⟩
  · exact (cell L p b (by omega) hp2 hb2).2.1 ⟨rfl, z⟩
  · exact (cell L p b (by omega) hp2 hb2).2.2 (fun w => z w.2)
end Gain
