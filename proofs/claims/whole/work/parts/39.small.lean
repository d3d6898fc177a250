/-! Pure part 10: set, unpatch, alike -/
section Small
variable {c T Rd nh fu : Nat} {st sv hn hb hp hr : Nat → Nat} {x x' m m' : hs_T}
theorem m_isIn32 {n : Int32} {lo hi : Nat} {l h : Int64} (hl : l = (nI lo).toInt64) (hh : h = (nI hi).toInt64) : fX8_isIn fu m n.toInt64 l h = some (if n < nI lo ∨ nI hi < n then 0 else 1, m) := by
  rw [m_isIn, hl, hh]
  congr 2
  by_cases q : n < nI lo ∨ nI hi < n
  · rw [if_pos q, if_pos (q.imp (fa_wide_lt _ _).mpr (fa_wide_lt _ _).mpr)]
  · rw [if_neg q, if_neg (fun z => q (z.imp (fa_wide_lt _ _).mp (fa_wide_lt _ _).mp))]
theorem bz_if {p : Prop} [Decidable p] : hs_bz (if p then 0 else 1) = some () := by
  by_cases h : p
  · rw [if_pos h]; exact pb_bz0
  · rw [if_neg h]; exact pb_bz1
def setR (w lo hi : Nat) : Prop := (w = 0 ∧ lo = 1 ∧ hi = 500) ∨ (w = 1 ∧ lo = 0 ∧ hi = 999) ∨ (w = 2 ∧ lo = 1 ∧ hi = 9) ∨ (w = 3 ∧ lo = 0 ∧ hi = 100) ∨ (w = 4 ∧ lo = 0 ∧ hi = 9999) ∨ (w = 5 ∧ lo = 0 ∧ hi = 9999) ∨ (w = 6 ∧ lo = 0 ∧ hi = 9999)
theorem m_isSet {w lo hi : Nat} {n : Int32} (h : setR w lo hi) : fX8_isSet fu m (nI w) n = some (if n < nI lo ∨ nI hi < n then 0 else 1, m) := by
  unfold fX8_isSet
  rcases h with ⟨rfl, rfl, rfl⟩ | ⟨rfl, rfl, rfl⟩ | ⟨rfl, rfl, rfl⟩ | ⟨rfl, rfl, rfl⟩ | ⟨rfl, rfl, rfl⟩ | ⟨rfl, rfl, rfl⟩ | ⟨rfl, rfl, rfl⟩
  · rw [if_pos (show nI 0 = 0 from rfl), m_isIn32 (lo := 1) (hi := 500) (l := 1) (h := 500) rfl rfl, pb_b2, bz_if, pb_bind]
  · rw [if_neg (show ¬ nI 1 = 0 by decide), if_pos (show nI 1 = 1 from rfl), m_isIn32 (lo := 0) (hi := 999) (l := 0) (h := 999) rfl rfl, pb_b2, bz_if, pb_bind]
  · rw [if_neg (show ¬ nI 2 = 0 by decide), if_neg (show ¬ nI 2 = 1 by decide), if_pos (show nI 2 = 2 from rfl), m_isIn32 (lo := 1) (hi := 9) (l := 1) (h := 9) rfl rfl, pb_b2, bz_if, pb_bind]
  · rw [if_neg (show ¬ nI 3 = 0 by decide), if_neg (show ¬ nI 3 = 1 by decide), if_neg (show ¬ nI 3 = 2 by decide), if_pos (show nI 3 = 3 from rfl), m_isIn32 (lo := 0) (hi := 100) (l := 0) (h := 100) rfl rfl, pb_b2, bz_if, pb_bind]
  · rw [if_neg (show ¬ nI 4 = 0 by decide), if_neg (show ¬ nI 4 = 1 by decide), if_neg (show ¬ nI 4 = 2 by decide), if_neg (show ¬ nI 4 = 3 by decide), m_isIn32 (lo := 0) (hi := 9999) (l := 0) (h := 9999) rfl rfl, pb_b2, bz_if, pb_bind]
  · rw [if_neg (show ¬ nI 5 = 0 by decide), if_neg (show ¬ nI 5 = 1 by decide), if_neg (show ¬ nI 5 = 2 by decide), if_neg (show ¬ nI 5 = 3 by decide), m_isIn32 (lo := 0) (hi := 9999) (l := 0) (h := 9999) rfl rfl, pb_b2, bz_if, pb_bind]
  · rw [if_neg (show ¬ nI 6 = 0 by decide), if_neg (show ¬ nI 6 = 1 by decide), if_neg (show ¬ nI 6 = 2 by decide), if_neg (show ¬ nI 6 = 3 by decide), m_isIn32 (lo := 0) (hi := 9999) (l := 0) (h := 9999) rfl rfl, pb_b2, bz_if, pb_bind]
theorem setR_of {w : Nat} (hw : w < 7) : ∃ lo hi, setR w lo hi ∧ hs_t1 w = nI lo ∧ hs_t2 w = nI hi ∧ lo ≤ hi ∧ hi < 100000 := by
  unfold setR
  rcases (show w = 0 ∨ w = 1 ∨ w = 2 ∨ w = 3 ∨ w = 4 ∨ w = 5 ∨ w = 6 by omega) with rfl | rfl | rfl | rfl | rfl | rfl | rfl
  · exact ⟨1, 500, by simp, rfl, rfl, by decide, by decide⟩
  · exact ⟨0, 999, by simp, rfl, rfl, by decide, by decide⟩
  · exact ⟨1, 9, by simp, rfl, rfl, by decide, by decide⟩
  · exact ⟨0, 100, by simp, rfl, rfl, by decide, by decide⟩
  · exact ⟨0, 9999, by simp, rfl, rfl, by decide, by decide⟩
  · exact ⟨0, 9999, by simp, rfl, rfl, by decide, by decide⟩
  · exact ⟨0, 9999, by simp, rfl, rfl, by decide, by decide⟩
theorem in_of {n : Int32} {lo hi : Nat} (hh : hi < 100000) (h1 : ¬ n < nI lo) (h2 : ¬ nI hi < n) (hl : lo ≤ hi) : ∃ v, lo ≤ v ∧ v ≤ hi ∧ n = nI v := by
  rw [fa_lt, nI_toInt (by omega)] at h1 h2
  have h3 : ¬ n < 0 := by rw [fa_lt]; show ¬ n.toInt < 0; omega
  obtain ⟨j, hj, rfl⟩ := nI_of h3
  rw [nI_toInt hj] at h1 h2
  exact ⟨j, by omega, by omega, rfl⟩
theorem op_set (h : Rl c T Rd nh st sv hn hb hp hr x m) (a n : Int32) : Op c (fX7_set fu x 0 a n) (fX8_set fu m 0 a n) := by
  have h0 := h
  have hrest := Rl_rest h
  obtain ⟨hM, hC, hN, hnh, hrn, hS, hT, hL, hV, hP, hc, -⟩ := h
  obtain ⟨h5, h100, n1, n2, n3, -⟩ := id hrn
  unfold fX7_set fX8_set
  rcases i_lt (a := a) (n := 7) (by decide) with ha | ⟨w, hw, rfl⟩
  · refine Op_same h0 ⟨-1, ?_, by rw [m_rng_n (n := 7) (l := 0) (h := 6) rfl rfl (by decide) (by decide) ha, pb_b2, if_pos rfl]⟩
    by_cases q : a < 0
    · rw [if_pos q]
    · rw [if_neg q, if_neg (show ¬ a < 7 from n_nlt (ha.resolve_left q))]
  · obtain ⟨lo, hi, hsr, e1, e2, hlh, hh⟩ := setR_of hw
    rw [if_neg (nI_pos (by omega)), if_pos (show nI w < 7 from nI_lt (b := 7) hw (by decide)), pb_tb hw (by decide), pb_bind, e1, m_rng_y (n := 7) (l := 0) (h := 6) rfl rfl hw (by decide), pb_b2, if_neg o_nz, m_isSet hsr, pb_b2]
    by_cases b1 : n < nI lo
    · exact Op_same h0 ⟨-2, by rw [if_pos b1], by rw [if_pos (Or.inl b1), if_pos rfl]⟩
    rw [if_neg b1, pb_tb hw (by decide), pb_bind, e2]
    by_cases b2 : nI hi < n
    · refine Op_same h0 ⟨-2, ?_, by rw [if_pos (Or.inr b2), if_pos rfl]⟩
      rw [if_neg]
      rw [fa_le]
      rw [fa_lt] at b2
      omega
    have b3 : n ≤ nI hi := by
      rw [fa_le]
      rw [fa_lt] at b2
      omega
    rw [if_pos b3, if_neg (show ¬ (n < nI lo ∨ nI hi < n) from fun z => z.elim b1 b2), if_neg o_nz, c_gI0 hC, pb_bind, n3]
    obtain ⟨v, v1, v2, rfl⟩ := in_of hh b1 b2 hlh
    -- the write
    have hgo : Op c (fX7_set_53 fu x 0 (nI w) (nI v)) (fX8_set_45 fu m 0 (nI w) (nI v)) := by
      unfold fX7_set_53 fX8_set_45
      rw [c_g0_0 hC, pb_bind, c_ld1 hC hw, pb_bind, pb_bind, c_st1 hC hw, pb_bind, m_g17 hM, pb_bind, m_ld13 hM hw, pb_bind, pb_bind, m_st13 hM hw, pb_bind, (hS.1 w hw).1, (hS.1 w hw).2]
      refine ⟨_, _, _, rfl, rfl, T, Rd, nh, (fun k => if k = w then v else st k), sv, hn, hb, hp, hr, ?_⟩
      refine Rl_mk hM hC (Nat.le_trans hN (by omega)) (by omega) hrn ⟨fun k hk => ?_, ?_⟩ ?_ ?_ (rC_low (x := x) (m := m) hV.1 (fun _ _ _ => rfl) (fun q hq => hs_up_row_ne (by omega)) (fun q hq => hs_up_row_ne (by omega)) hc) (rest_of (x := x) (m := m) h5 rfl rfl rfl (fun _ _ _ _ _ => rfl) rfl rfl (fun q hq _ => hs_up_row_ne (by omega)) rfl (fun q hq => hs_up_row_ne (by omega)) (fun a i ha => congrFun (hs_up_row_ne (by omega)) i) hrest)
      · rw [pb_R_wR, pb_R_wR]
        by_cases hk2 : k = w
        · rw [if_pos ⟨rfl, hk2⟩, if_pos ⟨rfl, hk2⟩]
          simp only [if_pos hk2]
          exact ⟨trivial, trivial⟩
        · rw [if_neg (fun z => hk2 z.2), if_neg (fun z => hk2 z.2)]
          simp only [if_neg hk2]
          exact hS.1 k hk
      · obtain ⟨-, s0, s1, s2, s3, s4, s5, s6, s7, s8⟩ := hS
        unfold setR at hsr
        rcases hsr with ⟨rfl, rfl, rfl⟩ | ⟨rfl, rfl, rfl⟩ | ⟨rfl, rfl, rfl⟩ | ⟨rfl, rfl, rfl⟩ | ⟨rfl, rfl, rfl⟩ | ⟨rfl, rfl, rfl⟩ | ⟨rfl, rfl, rfl⟩ <;> simp <;> omega
      · obtain ⟨tp, t0, t1, t2, t3⟩ := hT
        exact ⟨tp, t0, t1, t2, t3⟩
      · obtain ⟨lt, l0, l1, l2, l3⟩ := hL
        exact ⟨lt, l0, l1, l2, l3⟩
    by_cases q1 : w = 1
    · subst q1
      rw [if_pos (show nI 1 = 1 from rfl)]
      unfold fX8_set_35
      rw [m_gI hM, pb_bind, n2]
      by_cases q : Rd = 0
      · subst q
        rw [if_pos (show nI 0 ≤ 0 by decide), if_pos (show nI 0 ≤ 0 by decide)]
        exact hgo
      · rw [if_neg (show ¬ nI Rd ≤ 0 from nI_nle (by omega) (by omega)), if_neg (show ¬ nI Rd ≤ 0 from nI_nle (by omega) (by omega)), if_pos (show nI 1 = 1 from rfl)]
        exact Op_same h0 ⟨-3, rfl, rfl⟩
    by_cases q2 : w = 2
    · subst q2
      rw [if_neg (show ¬ nI 2 = 1 by decide), if_neg (show ¬ nI 2 = 1 by decide), if_pos (show nI 2 = 2 from rfl), if_pos (show nI 2 = 2 from rfl)]
      unfold fX8_set_35
      rw [m_gI hM, pb_bind, n2]
      by_cases q : Rd = 0
      · subst q
        rw [if_pos (show nI 0 ≤ 0 by decide), if_pos (show nI 0 ≤ 0 by decide)]
        exact hgo
      · rw [if_neg (show ¬ nI Rd ≤ 0 from nI_nle (by omega) (by omega)), if_neg (show ¬ nI Rd ≤ 0 from nI_nle (by omega) (by omega))]
        exact Op_same h0 ⟨-3, rfl, rfl⟩
    have w1 : ¬ nI w = 1 := n_ne (b := 1) (by omega) (by decide) q1
    have w2 : ¬ nI w = 2 := n_ne (b := 2) (by omega) (by decide) q2
    rw [if_neg w1, if_neg w1, if_neg w2, if_neg w2]
    by_cases q : nI Rd ≤ 0
    · rw [if_pos q]; exact hgo
    · rw [if_neg q]; exact hgo
theorem op_unpatch (h : Rl c T Rd nh st sv hn hb hp hr x m) (a b : Int32) : Op c (fX7_unpatch fu x 0 a b) (fX8_unpatch fu m 0 a b) := by
  have h0 := h
  obtain ⟨hM, hC, hN, hnh, hrn, hS, hT, hL, hV, hP, hc, hK, hA, hH, hG, hO⟩ := h
  obtain ⟨h5, h100, n1, n2, n3, n4, -⟩ := id hrn
  unfold fX7_unpatch fX8_unpatch
  rcases pl_cases T h5 a b with ⟨t, s, ht, hs, rfl, rfl⟩ | hno
  · have hlt : 3 * t + s < 3 * T := by omega
    have hB := hV.1 (3 * t + s) hlt
    have hn0 := hB.1
    rw [c_ck0 hC, pb_bind, c_find_y hC n4 h5 hV ht hs, pb_b2, pb_ms, m_ck hM, pb_bind, m_isPlace_y hM n1 h5 ht hs, pb_b2, if_neg o_nz, s_gR hB, pb_bind, m_g6 hM, pb_bind, il 3, pk_mul, nI_add, m_ld5 hM (by omega), pb_bind]
    rcases (hP _ hlt).2 with ⟨g1, g2⟩ | ⟨g, g1, g2, len, sg, nm, hQ⟩
    · exact Op_same h0 ⟨-3, by rw [g1, pb_mn]; rfl, by rw [g2, if_pos (show nI 0 = 0 from rfl)]; rfl⟩
    · have hQ0 := hQ
      obtain ⟨p1, p2, p3, p4, p5, p6, p7, p8, p9, p10, p11, -⟩ := hQ
      rw [g1, pb_ms, s_pN hB, pb_bind, pb_gI (σ := hs_wG x 10 (sv (3 * t + s)) none) p3 (show g < hs_N x by omega), pb_bind, g2, if_neg (show ¬ nI 1 = 0 by decide), pb_bind, m_st5 hM (by omega), pb_bind, m_g5 (σ := hs_wR m 5 (3 * t + s) (0 &&& 1)) hM, pb_bind, il 15, nI_add, m_ld4 (σ := hs_wR m 5 (3 * t + s) (0 &&& 1)) hM (by omega), pb_bind]
      refine ⟨nI len, _, _, by rw [show hs_F (hs_wG x 10 (sv (3 * t + s)) none) 0 g = nI len from p10], by rw [pb_R_wR, if_neg (by omega), p11], T, Rd, nh, st, sv, hn, hb, hp, hr, ?_⟩
      have mm : ∀ q, q ≠ 5 → hs_R (hs_wR m 5 (3 * t + s) (0 &&& 1)) q = hs_R m q := fun q hq => hs_up_row_ne hq
      refine ⟨hM, hC, Nat.le_trans hN (by omega), by omega, hrn, hS, hT, hL, hV, fun q hq => ?_, rC_low (x := x) (m := m) hV.1 (fun _ _ _ => rfl) (fun _ _ => rfl) (fun q hq => mm q (by omega)) hc, hK, hA, hH, hG, hO.1, fun hr0 => ⟨fun i h1 h2 => ⟨((hO.2 hr0).1 i h1 h2).1, by rw [pb_R_wR, if_neg (by omega)]; exact ((hO.2 hr0).1 i h1 h2).2.1, ((hO.2 hr0).1 i h1 h2).2.2⟩, (hO.2 hr0).2.1, (hO.2 hr0).2.2⟩⟩
      have hpq : ∀ g i len sg nm, pQ x m g i len sg nm → pQ (hs_wG x 10 (sv (3 * t + s)) none) (hs_wR m 5 (3 * t + s) (0 &&& 1)) g i len sg nm := fun g i len sg nm z => z
      obtain ⟨a1, a2⟩ := hP q hq
      refine ⟨?_, ?_⟩
      · rcases a1 with z | ⟨g', z, len', sg', nm', z3⟩
        · exact Or.inl z
        · exact Or.inr ⟨g', z, len', sg', nm', hpq _ _ _ _ _ z3⟩
      · by_cases e : q = 3 * t + s
        · subst e
          exact Or.inl ⟨by rw [pb_G_wG, if_pos ⟨rfl, rfl⟩], by rw [pb_R_wR, if_pos ⟨rfl, rfl⟩]; rfl⟩
        · have hne : sv q ≠ sv (3 * t + s) := fun z => e (sv_row (hV.1 q hq) hB (by omega) (by omega) (i := 0) (j := 0) (by decide) (by decide) (by omega)).2.2
          rw [pb_G_wG, if_neg (fun z => hne z.2), pb_R_wR, if_neg (fun z => e z.2)]
          rcases a2 with z | ⟨g', z, z2, len', sg', nm', z3⟩
          · exact Or.inl z
          · exact Or.inr ⟨g', z, z2, len', sg', nm', hpq _ _ _ _ _ z3⟩
  · exact Op_same h0 ⟨-1, by rw [c_ck0 hC, pb_bind, c_find_n hC n4 h5 hno, pb_b2, pb_mn], by rw [m_ck hM, pb_bind, m_isPlace_n hM n1 h5 hno, pb_b2, if_pos rfl]⟩
/-! alike -/
def lkE (m : hs_T) (p k i : Nat) : Prop := hs_R m 19 k = hs_R m 22 (3 * p + i) + 1 ∧ hs_R m 20 k = hs_R m 23 (3 * p + i)
def lkB (m : hs_T) (p k : Nat) : Nat → Int32
  | 0 => 0
  | i + 1 => if lkB m p k i = 0 then (if hs_R m 19 k = hs_R m 22 (3 * p + i) + 1 ∧ hs_R m 20 k = hs_R m 23 (3 * p + i) then 1 else 0) else 1
theorem al_in (hM : mS m) (hfu : 600 < fu) {k33 : hs_T → Nat → Int32 → Int32 → Int32 → Option (Int32 × hs_T)} {p j : Nat} {n : Int32} (hp2 : p < 15) (hj : j < 400) : (lkM m p j → fX8_alike_48 fu k33 m 0 (nI p) n (nI j) 0 0 = k33 m 0 (nI p) (n + 1) (nI (j + 1))) ∧ (¬ lkM m p j → fX8_alike_48 fu k33 m 0 (nI p) n (nI j) 0 0 = k33 m 0 (nI p) (n + 0) (nI (j + 1))) := by
  have key : (lkM m p j ↔ hs_R m 18 j = nI p ∧ (lkE m p j 0 ∨ lkE m p j 1 ∨ lkE m p j 2)) := Iff.rfl
  have hB : ((lkE m p j 0 ∨ lkE m p j 1 ∨ lkE m p j 2) → lkB m p j 3 = 1) ∧ (¬ (lkE m p j 0 ∨ lkE m p j 1 ∨ lkE m p j 2) → lkB m p j 3 = 0) := by
    have z1 : lkB m p j 1 = if hs_R m 19 j = hs_R m 22 (3 * p + 0) + 1 ∧ hs_R m 20 j = hs_R m 23 (3 * p + 0) then 1 else 0 := rfl
    have z2 : lkB m p j 2 = if lkB m p j 1 = 0 then (if hs_R m 19 j = hs_R m 22 (3 * p + 1) + 1 ∧ hs_R m 20 j = hs_R m 23 (3 * p + 1) then 1 else 0) else 1 := rfl
    have z3 : lkB m p j 3 = if lkB m p j 2 = 0 then (if hs_R m 19 j = hs_R m 22 (3 * p + 2) + 1 ∧ hs_R m 20 j = hs_R m 23 (3 * p + 2) then 1 else 0) else 1 := rfl
    rw [z3, z2, z1]
    by_cases e0 : lkE m p j 0 <;> by_cases e1 : lkE m p j 1 <;> by_cases e2 : lkE m p j 2 <;> unfold lkE at e0 e1 e2 <;> simp [lkE, e0, e1, e2]
  have run : fX8_alike_48 fu k33 m 0 (nI p) n (nI j) 0 0 = if hs_R m 18 j = nI p then (if lkB m p j 3 = 0 then k33 m 0 (nI p) (n + 0) (nI (j + 1)) else k33 m 0 (nI p) (n + 1) (nI (j + 1))) else k33 m 0 (nI p) (n + 0) (nI (j + 1)) := by
    unfold fX8_alike_48
    refine pb_lpz (fun i => (m, 0, nI p, n, nI j, lkB m p j i, nI i)) 3 rfl ?_ ?_ (by omega)
    · intro k i hi
      dsimp only
      unfold fX8_alike_48b
      rw [if_neg (show ¬ 3 ≤ nI i from nI_ge (b := 3) hi (by decide)), nI_1]
      have hs1 : lkB m p j (i + 1) = if lkB m p j i = 0 then (if hs_R m 19 j = hs_R m 22 (3 * p + i) + 1 ∧ hs_R m 20 j = hs_R m 23 (3 * p + i) then 1 else 0) else 1 := rfl
      rw [hs1]
      by_cases q0 : lkB m p j i = 0
      · rw [if_pos q0, if_pos q0, m_g26 hM, pb_bind, m_ld19 hM hj, pb_bind, m_g32 hM, pb_bind, il 3, pk_mul, nI_add, m_ld22 hM (by omega), pb_bind, m_g27 hM, pb_bind, m_ld20 hM hj, pb_bind, m_g33 hM, pb_bind, m_ld23 hM (by omega), pb_bind]
        by_cases q : hs_R m 19 j = hs_R m 22 (3 * p + i) + 1
        · rw [if_pos q]
          by_cases q2 : hs_R m 20 j = hs_R m 23 (3 * p + i)
          · rw [if_pos q2, if_pos (show hs_R m 19 j = hs_R m 22 (3 * p + i) + 1 ∧ hs_R m 20 j = hs_R m 23 (3 * p + i) from ⟨q, q2⟩)]
          · rw [if_neg q2, if_neg (show ¬ (hs_R m 19 j = hs_R m 22 (3 * p + i) + 1 ∧ hs_R m 20 j = hs_R m 23 (3 * p + i)) from fun z => q2 z.2)]
        · rw [if_neg q, if_neg (show ¬ (hs_R m 19 j = hs_R m 22 (3 * p + i) + 1 ∧ hs_R m 20 j = hs_R m 23 (3 * p + i)) from fun z => q z.1)]
      · rw [if_neg q0, if_neg q0]
    · intro k
      dsimp only
      unfold fX8_alike_48b
      rw [if_pos (show (3 : Int32) ≤ nI 3 by decide), m_g25 hM, pb_bind, m_ld18 hM hj, pb_bind, nI_1]
  rw [run, key]
  by_cases q : hs_R m 18 j = nI p
  · rw [if_pos q]
    by_cases hE : lkE m p j 0 ∨ lkE m p j 1 ∨ lkE m p j 2
    · rw [hB.1 hE, if_neg o_nz]
      exact ⟨fun _ => rfl, fun z => absurd ⟨q, hE⟩ z⟩
    · rw [hB.2 hE, if_pos rfl]
      exact ⟨fun z => absurd z.2 hE, fun _ => rfl⟩
  · rw [if_neg q]
    exact ⟨fun z => absurd z.1 q, fun _ => rfl⟩
theorem op_alike (hfu : 600 < fu) (h : Rl c T Rd nh st sv hn hb hp hr x m) (a b : Int32) : ∃ r, fX7_alike fu x 0 a b = some (r, x) ∧ fX8_alike fu m 0 a b = some (r, m) := by
  obtain ⟨hM, hC, hN, hnh, ⟨h5, h100, n1, n2, n3, n4, -⟩, hS, hT, hL, hV, hP, hc, hK, hA, -⟩ := h
  unfold fX7_alike fX8_alike
  rcases pl_cases T h5 a b with ⟨t, s, ht, hs, rfl, rfl⟩ | hno
  · have hlt : 3 * t + s < 3 * T := by omega
    have hB := hV.1 (3 * t + s) hlt
    rw [c_ck0 hC, pb_bind, c_find_y hC n4 h5 hV ht hs, pb_b2, pb_ms, c_gI0 hC, pb_bind, n3, m_ck hM, pb_bind, m_isPlace_y hM n1 h5 ht hs, pb_b2, if_neg o_nz, m_gI hM, pb_bind, n2]
    by_cases q : Rd = 0
    · subst q
      exact ⟨-3, by rw [if_pos (show nI 0 = 0 from rfl)], by rw [if_pos (show nI 0 = 0 from rfl)]⟩
    · obtain ⟨ah, a1, a2, a3⟩ := hA (by omega)
      obtain ⟨cn, b1, b2⟩ := a3 _ hlt
      rw [if_neg (n_z (by omega) (by omega)), if_neg (n_z (by omega) (by omega)), s_gI hB, pb_bind, il 3, pk_mul, nI_add, b2]
      refine ⟨_, rfl, ?_⟩
      unfold fX8_alike_33
      refine pb_lpz (fun i => (m, 0, nI (3 * t + s), sm cn i, nI i)) ah rfl ?_ ?_ (by omega)
      · intro k i hi
        dsimp only
        unfold fX8_alike_33b
        rw [m_gI hM, pb_bind, a2, if_neg (nI_ge hi (by omega))]
        obtain ⟨z1, z2⟩ := al_in (fu := fu) (k33 := fun σ x0 x3 x4 x5 => k (σ, x0, x3, x4, x5)) (p := 3 * t + s) (j := i) (n := sm cn i) hM hfu (by omega) (by omega)
        by_cases e : lkM m (3 * t + s) i
        · rw [z1 e]
          show k _ = k (m, 0, nI (3 * t + s), sm cn i + cn i, nI (i + 1))
          rw [(b1 i hi).1 e]
        · rw [z2 e]
          show k _ = k (m, 0, nI (3 * t + s), sm cn i + cn i, nI (i + 1))
          rw [(b1 i hi).2 e]
      · intro k
        dsimp only
        unfold fX8_alike_33b
        rw [m_gI hM, pb_bind, a2, if_pos (nI_le (Nat.le_refl _) (by omega))]
  · exact ⟨-1, by rw [c_ck0 hC, pb_bind, c_find_n hC n4 h5 hno, pb_b2, pb_mn], by rw [m_ck hM, pb_bind, m_isPlace_n hM n1 h5 hno, pb_b2, if_pos rfl]⟩
end Small
