/-! Pure part 16: the whole text -/
section Read
variable {fu tp a n : Nat} {b : Nat → Nat} {x m x' m' : hs_T}
def rdB (fu : Nat) : (hs_T × Nat × Nat × Int32 → Option (Int32 × hs_T)) → hs_T × Nat × Nat × Int32 → Option (Int32 × hs_T) := fun k a => fX4_read_12b fu (fun σ x0 x1 x2 => k (σ, x0, x1, x2)) a.1 a.2.1 a.2.2.1 a.2.2.2
def flB (fu : Nat) : (hs_T × Nat → Option (Int32 × hs_T)) → hs_T × Nat → Option (Int32 × hs_T) := fun k a => fX8_fault_10b fu (fun σ x0 => k (σ, x0)) a.1 a.2
def lsB (fu : Nat) : (hs_T × Nat × Int32 → Option (Int32 × hs_T)) → hs_T × Nat × Int32 → Option (Int32 × hs_T) := fun k a => fX4_lostStep_2b fu (fun σ x0 x1 => k (σ, x0, x1)) a.1 a.2.1 a.2.2
def mlB (fu : Nat) : (hs_T × Nat × Int32 → Option (Int32 × hs_T)) → hs_T × Nat × Int32 → Option (Int32 × hs_T) := fun k a => fX8_fault_71b fu (fun σ x0 x1 => k (σ, x0, x1)) a.1 a.2.1 a.2.2
/-- what was read so far -/
def rdR (x m : hs_T) (n : Nat) (sg nm : Nat → Nat) : Prop := ∀ k, k < n → okR (sg k) (nm k) ∧ hs_R x 7 k = nI (sg k) ∧ hs_R m 6 k = nI (sg k) ∧ hs_R x 8 k = nI (nm k) ∧ hs_R m 7 k = nI (nm k)
theorem okR_lt {s v : Nat} (h : okR s v) : s < 200 ∧ (s = 106 ∨ s = 103 → v < 100) := by
  unfold okR at h
  omega
theorem lost (hC : cS x) (hM : mS m) (x2 : hs_F x 2 6 = nI n) (m11 : hs_F m 11 0 = nI n) (hn : n ≤ 24) {sg nm : Nat → Nat} (hr : rdR x m n sg nm) : ∀ d i, i + d = n → ∃ v, (∀ fc, d < fc → hs_lp (lsB fu) fc (x, 6, nI i) = some (v, x)) ∧ (∀ fm, d < fm → hs_lp (mlB fu) fm (m, 0, nI i) = some (v, m)) ∧ ((∃ w, w < 224 ∧ v = nI w) ∨ (v = -1 ∧ ∀ k, i ≤ k → k < n → sg k = 106 ∨ sg k = 103 → nm k < n)) := by
  intro d
  induction d with
  | zero =>
    intro i hi
    obtain rfl : i = n := by omega
    refine ⟨-1, fun fc hfc => ?_, fun fm hfm => ?_, Or.inr ⟨rfl, fun k h1 h2 => by omega⟩⟩
    · obtain ⟨f, rfl⟩ : ∃ f, fc = f + 1 := ⟨fc - 1, by omega⟩
      rw [pb_lp0]
      show fX4_lostStep_2b fu _ x 6 (nI i) = _
      unfold fX4_lostStep_2b
      rw [c_gI6 hC, pb_bind, x2, if_pos (nI_le (Nat.le_refl _) (by omega))]
    · obtain ⟨f, rfl⟩ : ∃ f, fm = f + 1 := ⟨fm - 1, by omega⟩
      rw [pb_lp0]
      show fX8_fault_71b fu _ m 0 (nI i) = _
      unfold fX8_fault_71b
      rw [m_gI hM, pb_bind, m11, if_pos (nI_le (Nat.le_refl _) (by omega))]
  | succ d ih =>
    intro i hi
    obtain ⟨v, c1, c2, c3⟩ := ih (i + 1) (by omega)
    obtain ⟨ok, r7, r6, r8, r7m⟩ := hr i (by omega)
    obtain ⟨ok1, ok2⟩ := okR_lt ok
    have hin : i < n := by omega
    by_cases hj : sg i = 106 ∨ sg i = 103
    · have hnm := ok2 hj
      by_cases hl : nm i < n
      · refine ⟨v, fun fc hfc => ?_, fun fm hfm => ?_, c3.imp id (fun z => ⟨z.1, fun k h1 h2 h3 => ?_⟩)⟩
        · obtain ⟨f, rfl⟩ : ∃ f, fc = f + 1 := ⟨fc - 1, by omega⟩
          rw [pb_lp0]
          refine Eq.trans ?_ (c1 f (by omega))
          show fX4_lostStep_2b fu _ x 6 (nI i) = _
          unfold fX4_lostStep_2b fX4_lostStep_32 fX4_lostStep_37
          rw [c_gI6 hC, pb_bind, x2, if_neg (nI_ge hin (by omega)), c_g0_6 hC, pb_bind, c_ld7 hC (by omega), pb_bind, r7]
          have tl : (if (1 : Int32) = 0 then hs_lp (lsB fu) f (x, 6, nI i + 1) else (hs_gN x 6 6 1).bind fun n11 => (hs_ld x 11 n11 (nI i)).bind fun v12 => (some (nI n)).bind fun v15 => if v12 < v15 then hs_lp (lsB fu) f (x, 6, nI i + 1) else some (200 + nI i, x)) = hs_lp (lsB fu) f (x, 6, nI (i + 1)) := by
            rw [if_neg o_nz, c_g1_6 hC, pb_bind, c_ld8 hC (by omega), pb_bind, r8, pb_bind, if_pos (nI_lt hl (by omega)), nI_1]
          by_cases h6 : sg i = 106
          · rw [if_pos (show nI (sg i) = 106 by rw [h6]; rfl)]
            exact tl
          · rw [if_neg (show ¬ nI (sg i) = 106 from n_ne (b := 106) (by omega) (by decide) h6), pb_bind, c_ld7 hC (by omega), pb_bind, r7, if_pos (show nI (sg i) = 103 by rw [hj.resolve_left h6]; rfl)]
            exact tl
        · obtain ⟨f, rfl⟩ : ∃ f, fm = f + 1 := ⟨fm - 1, by omega⟩
          rw [pb_lp0]
          refine Eq.trans ?_ (c2 f (by omega))
          show fX8_fault_71b fu _ m 0 (nI i) = _
          unfold fX8_fault_71b fX8_fault_101
          rw [m_gI hM, pb_bind, m11, if_neg (nI_ge hin (by omega)), m_g9 hM, pb_bind, m_ld6 hM (by omega), pb_bind, r6]
          have tl : ((hs_gN m 10 0 10).bind fun n38 => (hs_ld m 11 n38 (nI i)).bind fun v39 => (some (nI n)).bind fun v42 => if v39 < v42 then hs_lp (mlB fu) f (m, 0, nI i + 1) else some (200 + nI i, m)) = hs_lp (mlB fu) f (m, 0, nI (i + 1)) := by
            rw [m_g10 hM, pb_bind, m_ld7 hM (by omega), pb_bind, r7m, pb_bind, if_pos (nI_lt hl (by omega)), nI_1]
          by_cases h6 : sg i = 106
          · rw [if_pos (show nI (sg i) = 106 by rw [h6]; rfl)]
            exact tl
          · rw [if_neg (show ¬ nI (sg i) = 106 from n_ne (b := 106) (by omega) (by decide) h6), pb_bind, m_ld6 hM (by omega), pb_bind, r6, if_pos (show nI (sg i) = 103 by rw [hj.resolve_left h6]; rfl)]
            exact tl
        · by_cases hk : k = i
          · subst hk; exact hl
          · exact z.2 k (by omega) h2 h3
      · refine ⟨nI (200 + i), fun fc hfc => ?_, fun fm hfm => ?_, Or.inl ⟨200 + i, by omega, rfl⟩⟩
        · obtain ⟨f, rfl⟩ : ∃ f, fc = f + 1 := ⟨fc - 1, by omega⟩
          rw [pb_lp0]
          show fX4_lostStep_2b fu _ x 6 (nI i) = _
          unfold fX4_lostStep_2b fX4_lostStep_32 fX4_lostStep_37
          rw [c_gI6 hC, pb_bind, x2, if_neg (nI_ge hin (by omega)), c_g0_6 hC, pb_bind, c_ld7 hC (by omega), pb_bind, r7]
          have tl : (if (1 : Int32) = 0 then hs_lp (lsB fu) f (x, 6, nI i + 1) else (hs_gN x 6 6 1).bind fun n11 => (hs_ld x 11 n11 (nI i)).bind fun v12 => (some (nI n)).bind fun v15 => if v12 < v15 then hs_lp (lsB fu) f (x, 6, nI i + 1) else some (200 + nI i, x)) = some (nI (200 + i), x) := by
            rw [if_neg o_nz, c_g1_6 hC, pb_bind, c_ld8 hC (by omega), pb_bind, r8, pb_bind, if_neg (nI_nlt (by omega) (by omega)), il 200, nI_add]
          by_cases h6 : sg i = 106
          · rw [if_pos (show nI (sg i) = 106 by rw [h6]; rfl)]
            exact tl
          · rw [if_neg (show ¬ nI (sg i) = 106 from n_ne (b := 106) (by omega) (by decide) h6), pb_bind, c_ld7 hC (by omega), pb_bind, r7, if_pos (show nI (sg i) = 103 by rw [hj.resolve_left h6]; rfl)]
            exact tl
        · obtain ⟨f, rfl⟩ : ∃ f, fm = f + 1 := ⟨fm - 1, by omega⟩
          rw [pb_lp0]
          show fX8_fault_71b fu _ m 0 (nI i) = _
          unfold fX8_fault_71b fX8_fault_101
          rw [m_gI hM, pb_bind, m11, if_neg (nI_ge hin (by omega)), m_g9 hM, pb_bind, m_ld6 hM (by omega), pb_bind, r6]
          have tl : ((hs_gN m 10 0 10).bind fun n38 => (hs_ld m 11 n38 (nI i)).bind fun v39 => (some (nI n)).bind fun v42 => if v39 < v42 then hs_lp (mlB fu) f (m, 0, nI i + 1) else some (200 + nI i, m)) = some (nI (200 + i), m) := by
            rw [m_g10 hM, pb_bind, m_ld7 hM (by omega), pb_bind, r7m, pb_bind, if_neg (nI_nlt (by omega) (by omega)), il 200, nI_add]
          by_cases h6 : sg i = 106
          · rw [if_pos (show nI (sg i) = 106 by rw [h6]; rfl)]
            exact tl
          · rw [if_neg (show ¬ nI (sg i) = 106 from n_ne (b := 106) (by omega) (by decide) h6), pb_bind, m_ld6 hM (by omega), pb_bind, r6, if_pos (show nI (sg i) = 103 by rw [hj.resolve_left h6]; rfl)]
            exact tl
    · have h6 : ¬ sg i = 106 := fun z => hj (Or.inl z)
      have h3 : ¬ sg i = 103 := fun z => hj (Or.inr z)
      refine ⟨v, fun fc hfc => ?_, fun fm hfm => ?_, c3.imp id (fun z => ⟨z.1, fun k h1 h2 h4 => ?_⟩)⟩
      · obtain ⟨f, rfl⟩ : ∃ f, fc = f + 1 := ⟨fc - 1, by omega⟩
        rw [pb_lp0]
        refine Eq.trans ?_ (c1 f (by omega))
        show fX4_lostStep_2b fu _ x 6 (nI i) = _
        unfold fX4_lostStep_2b fX4_lostStep_37
        rw [c_gI6 hC, pb_bind, x2, if_neg (nI_ge hin (by omega)), c_g0_6 hC, pb_bind, c_ld7 hC (by omega), pb_bind, r7, if_neg (show ¬ nI (sg i) = 106 from n_ne (b := 106) (by omega) (by decide) h6), pb_bind, c_ld7 hC (by omega), pb_bind, r7, if_neg (show ¬ nI (sg i) = 103 from n_ne (b := 103) (by omega) (by decide) h3), if_pos rfl, nI_1]
      · obtain ⟨f, rfl⟩ : ∃ f, fm = f + 1 := ⟨fm - 1, by omega⟩
        rw [pb_lp0]
        refine Eq.trans ?_ (c2 f (by omega))
        show fX8_fault_71b fu _ m 0 (nI i) = _
        unfold fX8_fault_71b
        rw [m_gI hM, pb_bind, m11, if_neg (nI_ge hin (by omega)), m_g9 hM, pb_bind, m_ld6 hM (by omega), pb_bind, r6, if_neg (show ¬ nI (sg i) = 106 from n_ne (b := 106) (by omega) (by decide) h6), pb_bind, m_ld6 hM (by omega), pb_bind, r6, if_neg (show ¬ nI (sg i) = 103 from n_ne (b := 103) (by omega) (by decide) h3), nI_1]
      · by_cases hk : k = i
        · subst hk; exact absurd h4 hj
        · exact z.2 k (by omega) h2 h4
theorem okR_okS {n s v : Nat} (h : okR s v) (h2 : s = 106 ∨ s = 103 → v < n) : okS n s v := by
  rcases h with h | h | h | h
  · exact Or.inl h
  · exact Or.inr (Or.inl h)
  · exact Or.inr (Or.inr (Or.inl ⟨h.1, h2 h.1⟩))
  · exact Or.inr (Or.inr (Or.inr h))
/-- what both sides hold after the text -/
def rdO (x m : hs_T) (v : Int32) (x' m' : hs_T) : Prop := frR x x' ∧ frS m m' ∧ ((∃ w, w < 224 ∧ v = nI w) ∨ (v = -1 ∧ ∃ (n : Nat) (sg nm : Nat → Nat), 1 ≤ n ∧ n ≤ 24 ∧ hs_F x' 2 6 = nI n ∧ hs_F m' 11 0 = nI n ∧ ∀ k, k < n → okS n (sg k) (nm k) ∧ hs_R x' 7 k = nI (sg k) ∧ hs_R m' 6 k = nI (sg k) ∧ hs_R x' 8 k = nI (nm k) ∧ hs_R m' 7 k = nI (nm k)))
theorem rdO_tr {y z : hs_T} {v : Int32} (h1 : frR x y) (h2 : frS m z) (h : rdO y z v x' m') : rdO x m v x' m' := ⟨frR_tr h1 h.1, frS_tr h2 h.2.1, h.2.2⟩
theorem sgn_59 (hb : ∀ i, i < tp → b i < 256) : (a < tp ∧ b a = 59 ∧ sgn tp b a = nI 59) ∨ (a < tp ∧ ¬ sgn tp b a = 59 ∧ ¬ sgn tp b a = -1) ∨ (tp ≤ a ∧ sgn tp b a = -1) := by
  unfold sgn
  by_cases q : a < tp
  · rw [if_pos q]
    have := hb a q
    by_cases q2 : b a = 59
    · exact Or.inl ⟨q, q2, by rw [q2]⟩
    · refine Or.inr (Or.inl ⟨q, n_ne (b := 59) (by omega) (by decide) q2, fun z => ?_⟩)
      have h1 := nI_pos (n := b a) (by omega)
      rw [z] at h1
      exact h1 (by decide)
  · rw [if_neg q]
    exact Or.inr (Or.inr ⟨by omega, rfl⟩)
/-- one more step, if those behind it are known -/
theorem rd_step (hb : ∀ i, i < tp → b i < 256) (hfu : 600 < fu) (d : Nat) (ih : 0 < d → ∀ n a x m sg nm, n + (d - 1 + 1) = 24 → cS x → mS m → TP x tp b → TM m tp b → hs_F x 2 6 = nI n → hs_F x 3 6 = nI a → hs_F m 8 0 = nI a → hs_F m 11 0 = nI n → a ≤ tp → rdR x m n sg nm → ∃ v x' m', (∀ fc, d - 1 + 2 < fc → hs_lp (rdB fu) fc (x, 6, 4, 1) = some (v, x')) ∧ (∀ fm, d - 1 + 1 < fm → hs_lp (flB fu) fm (m, 0) = some (v, m')) ∧ rdO x m v x' m') : ∀ n a x m sg nm, n + (d + 1) = 24 → cS x → mS m → TP x tp b → TM m tp b → hs_F x 2 6 = nI n → hs_F x 3 6 = nI a → hs_F m 8 0 = nI a → hs_F m 11 0 = nI n → a ≤ tp → rdR x m n sg nm → ∃ v x' m', (∀ fc, d + 2 < fc → hs_lp (rdB fu) fc (x, 6, 4, 1) = some (v, x')) ∧ (∀ fm, d + 1 < fm → hs_lp (flB fu) fm (m, 0) = some (v, m')) ∧ rdO x m v x' m' := by
  intro n a x m sg nm hd hC hM hT hU x2 x3 m8 m11 ha hr
  have h120 := hT.2.1
  have cb : ∀ k, rdB fu k (x, 6, 4, 1) = hs_b2 (fX4_readStep fu x 6 4) fun v23 σ21 => if v23 = 0 then ((hs_gI σ21 6 6 3).bind fun v45 => some (v45, σ21)) else ((hs_gI σ21 6 6 2).bind fun v26 => (hs_pI σ21 6 6 2 (v26 + 1)).bind fun σ28 => (hs_gI σ28 6 6 3).bind fun v30 => (hs_ck σ28 8 4).bind fun _ => hs_b2 (fX6_at fu σ28 4 v30) fun v34 σ32 => if v34 = 59 then ((hs_gI σ32 6 6 2).bind fun v42 => if 24 ≤ v42 then fX4_read_74 fu (fun σ x0 x1 x2 => k (σ, x0, x1, x2)) σ32 6 4 else fX4_read_75 fu (fun σ x0 x1 x2 => k (σ, x0, x1, x2)) σ32 6 4 1) else fX4_read_74 fu (fun σ x0 x1 x2 => k (σ, x0, x1, x2)) σ32 6 4) := by
    intro k
    show fX4_read_12b fu _ x 6 4 1 = _
    unfold fX4_read_12b
    rw [if_neg o_nz, c_gI6 hC, pb_bind, x2, if_neg (show ¬ 24 ≤ nI n from nI_ge (b := 24) (by omega) (by decide)), c_ck6 hC, pb_bind]
  have mb : ∀ k, flB fu k (m, 0) = hs_b2 (fX8_readsStep fu m 0) fun v8 σ6 => if v8 = 0 then ((hs_gI σ6 10 0 8).bind fun v50 => some (v50, σ6)) else ((hs_ck σ6 10 0).bind fun _ => hs_b2 (fX8_sign fu σ6 0) fun v13 σ11 => if v13 = (-1) then fX8_fault_71 fu σ11 0 0 else ((hs_ck σ11 10 0).bind fun _ => hs_b2 (fX8_sign fu σ11 0) fun v18 σ16 => if v18 = 59 then ((hs_gI σ16 10 0 11).bind fun v23 => if v23 = 24 then fX8_fault_51 fu σ16 0 else ((hs_gI σ16 10 0 8).bind fun v26 => (hs_pI σ16 10 0 8 (v26 + 1)).bind fun σ28 => k (σ28, 0))) else fX8_fault_51 fu σ16 0)) := by
    intro k
    show fX8_fault_10b fu _ m 0 = _
    unfold fX8_fault_10b
    rw [m_ck hM, pb_bind]
  rcases st_all hC hM hT hU hb x2 (show n < 24 by omega) x3 m8 m11 ha hfu with ⟨y, z, a', e1, e2, e3, e4, e5, e6, e7⟩ | ⟨y, z, a', s, v, e1, e2, e3, e4, e5, e6, e7, fy, fz, ok, r1, r2, r3, r4, r5⟩
  · refine ⟨nI a', y, z, fun fc hfc => ?_, fun fm hfm => ?_, e6, e7, Or.inl ⟨a', by omega, rfl⟩⟩
    · obtain ⟨f, rfl⟩ : ∃ f, fc = f + 1 := ⟨fc - 1, by omega⟩
      rw [pb_lp0, cb, e1, pb_b2, if_pos rfl, c_gI6 (cS_of e6.1 e6.2.1 hC), pb_bind, e4]
    · obtain ⟨f, rfl⟩ : ∃ f, fm = f + 1 := ⟨fm - 1, by omega⟩
      rw [pb_lp0, mb, e2, pb_b2, if_pos rfl, m_gI (mS_of e7.1 e7.2.1 hM), pb_bind, e5]
  · have hCy : cS y := cS_of fy.1 fy.2.1 hC
    have hMz : mS z := mS_of fz.1 fz.2.1 hM
    have fy2 : frR x (hs_wF y 2 6 (nI (n + 1))) := frR_tr fy frR_F
    generalize hy2 : hs_wF y 2 6 (nI (n + 1)) = y2 at fy2
    have hC2 : cS y2 := by subst hy2; exact hCy
    have p2 : hs_F y2 2 6 = nI (n + 1) := by subst hy2; rw [pb_F_wF, if_pos ⟨rfl, rfl⟩]
    have p3 : hs_F y2 3 6 = nI a' := by subst hy2; exact (wF_ne (by decide)).trans e5
    have hT2 := frR_TP fy2 hT
    have hU2 := frS_TM fz hU
    have hr2 : rdR y2 z (n + 1) (fun k => if k = n then s else sg k) (fun k => if k = n then v else nm k) := by
      intro k hk
      have q7 : hs_R y2 7 = hs_R y 7 := by subst hy2; rfl
      have q8 : hs_R y2 8 = hs_R y 8 := by subst hy2; rfl
      rw [q7, q8]
      by_cases hkn : k = n
      · subst hkn
        dsimp only
        rw [if_pos rfl, if_pos rfl]
        exact ⟨ok, r1, r3, r2, r4⟩
      · obtain ⟨t1, t2, t3, t4⟩ := r5 k hkn
        dsimp only
        rw [if_neg hkn, if_neg hkn, t1, t2, t3, t4]
        exact hr k (by omega)
    have cb2 : ∀ k, rdB fu k (x, 6, 4, 1) = if sgn tp b a' = 59 then (if 24 ≤ nI (n + 1) then k (y2, 6, 4, 0) else k (hs_wF y2 3 6 (nI (a' + 1)), 6, 4, 1)) else k (y2, 6, 4, 0) := by
      intro k
      rw [cb, e1, pb_b2, if_neg o_nz, c_gI6 hCy, pb_bind, e4, nI_1, c_pI6 hCy, pb_bind, hy2, c_gI6 hC2, pb_bind, p3, c_ck4 hC2, pb_bind, c_at hC2 hT2 (by omega), pb_b2, c_gI6 hC2, pb_bind, p2]
      unfold fX4_read_74 fX4_read_75
      rw [if_pos rfl, if_neg o_nz, c_gI6 hC2, pb_bind, p3, nI_1, c_pI6 hC2, pb_bind]
    have mb2 : ∀ k, flB fu k (m, 0) = if sgn tp b a' = -1 then fX8_fault_71 fu z 0 0 else if sgn tp b a' = 59 then (if nI (n + 1) = 24 then some (nI a', z) else k (hs_wF z 8 0 (nI (a' + 1)), 0)) else some (nI a', z) := by
      intro k
      rw [mb, e2, pb_b2, if_neg o_nz, m_ck hMz, pb_bind, m_sign hMz hU2 e6 (by omega), pb_b2, m_ck hMz, pb_bind, m_sign hMz hU2 e6 (by omega), pb_b2, m_gI hMz, pb_bind, e7]
      unfold fX8_fault_51
      rw [m_gI hMz, pb_bind, pb_bind, e6, nI_1, m_pI hMz, pb_bind]
    have cend : ∀ f, 0 < f → hs_lp (rdB fu) f (y2, 6, 4, 0) = if nI tp ≤ nI a' then fX4_lostStep fu y2 6 else some (nI a', y2) := by
      intro f hf
      obtain ⟨g, rfl⟩ : ∃ g, f = g + 1 := ⟨f - 1, by omega⟩
      rw [pb_lp0]
      show fX4_read_12b fu _ y2 6 4 0 = _
      unfold fX4_read_12b fX4_read_93
      rw [if_pos rfl, c_gI6 hC2, pb_bind, p3, c_gI4 hC2, pb_bind, hT2.1, c_ck6 hC2, pb_bind, pb_bind]
      cases fX4_lostStep fu y2 6 <;> rfl
    rcases sgn_59 (a := a') hb with ⟨q1, q2, q3⟩ | ⟨q1, q2, q3⟩ | ⟨q1, q2⟩
    · by_cases q24 : n + 1 = 24
      · refine ⟨nI a', y2, z, fun fc hfc => ?_, fun fm hfm => ?_, fy2, fz, Or.inl ⟨a', by omega, rfl⟩⟩
        · obtain ⟨f, rfl⟩ : ∃ f, fc = f + 1 := ⟨fc - 1, by omega⟩
          rw [pb_lp0, cb2, if_pos (show sgn tp b a' = 59 from q3), if_pos (show 24 ≤ nI (n + 1) from nI_le (a := 24) (by omega) (by omega)), cend f (by omega), if_neg (nI_ge q1 (by omega))]
        · obtain ⟨f, rfl⟩ : ∃ f, fm = f + 1 := ⟨fm - 1, by omega⟩
          rw [pb_lp0, mb2, if_neg (show ¬ sgn tp b a' = -1 by rw [q3]; decide), if_pos (show sgn tp b a' = 59 from q3), if_pos (show nI (n + 1) = 24 by rw [q24]; rfl)]
      · obtain ⟨v', x', m', c1, c2, c3⟩ := ih (by omega) (n + 1) (a' + 1) (hs_wF y2 3 6 (nI (a' + 1))) (hs_wF z 8 0 (nI (a' + 1))) _ _ (by omega) hC2 hMz (frR_TP frR_F hT2) (frS_TM frS_8 hU2) ((wF_ne (by decide)).trans p2) (by rw [pb_F_wF, if_pos ⟨rfl, rfl⟩]) (by rw [pb_F_wF, if_pos ⟨rfl, rfl⟩]) ((wF_ne (by decide)).trans e7) (by omega) hr2
        refine ⟨v', x', m', fun fc hfc => ?_, fun fm hfm => ?_, rdO_tr (frR_tr fy2 frR_F) (frS_tr fz frS_8) c3⟩
        · obtain ⟨f, rfl⟩ : ∃ f, fc = f + 1 := ⟨fc - 1, by omega⟩
          rw [pb_lp0, cb2, if_pos (show sgn tp b a' = 59 from q3), if_neg (show ¬ 24 ≤ nI (n + 1) from nI_ge (b := 24) (by omega) (by decide))]
          exact c1 f (by omega)
        · obtain ⟨f, rfl⟩ : ∃ f, fm = f + 1 := ⟨fm - 1, by omega⟩
          rw [pb_lp0, mb2, if_neg (show ¬ sgn tp b a' = -1 by rw [q3]; decide), if_pos (show sgn tp b a' = 59 from q3), if_neg (show ¬ nI (n + 1) = 24 from n_ne (b := 24) (by omega) (by decide) q24)]
          exact c2 f (by omega)
    · refine ⟨nI a', y2, z, fun fc hfc => ?_, fun fm hfm => ?_, fy2, fz, Or.inl ⟨a', by omega, rfl⟩⟩
      · obtain ⟨f, rfl⟩ : ∃ f, fc = f + 1 := ⟨fc - 1, by omega⟩
        rw [pb_lp0, cb2, if_neg q2, cend f (by omega), if_neg (nI_ge q1 (by omega))]
      · obtain ⟨f, rfl⟩ : ∃ f, fm = f + 1 := ⟨fm - 1, by omega⟩
        rw [pb_lp0, mb2, if_neg q3, if_neg q2]
    · obtain ⟨v', c1, c2, c3⟩ := lost (fu := fu) hC2 hMz p2 e7 (by omega) hr2 (n + 1) 0 (by omega)
      refine ⟨v', y2, z, fun fc hfc => ?_, fun fm hfm => ?_, fy2, fz, c3.imp id (fun w => ⟨w.1, n + 1, (fun k => if k = n then s else sg k), (fun k => if k = n then v else nm k), by omega, by omega, p2, e7, fun k hk => ?_⟩)⟩
      · obtain ⟨f, rfl⟩ : ∃ f, fc = f + 1 := ⟨fc - 1, by omega⟩
        rw [pb_lp0, cb2, if_neg (show ¬ sgn tp b a' = 59 by rw [q2]; decide), cend f (by omega), if_pos (nI_le q1 (by omega))]
        exact c1 fu (by omega)
      · obtain ⟨f, rfl⟩ : ∃ f, fm = f + 1 := ⟨fm - 1, by omega⟩
        rw [pb_lp0, mb2, if_pos q2]
        exact c2 fu (by omega)
      · obtain ⟨k1, k2, k3, k4, k5⟩ := hr2 k hk
        exact ⟨okR_okS k1 (w.2 k (by omega) hk), k2, k3, k4, k5⟩
theorem rd_loop (hb : ∀ i, i < tp → b i < 256) (hfu : 600 < fu) : ∀ d n a x m sg nm, n + (d + 1) = 24 → cS x → mS m → TP x tp b → TM m tp b → hs_F x 2 6 = nI n → hs_F x 3 6 = nI a → hs_F m 8 0 = nI a → hs_F m 11 0 = nI n → a ≤ tp → rdR x m n sg nm → ∃ v x' m', (∀ fc, d + 2 < fc → hs_lp (rdB fu) fc (x, 6, 4, 1) = some (v, x')) ∧ (∀ fm, d + 1 < fm → hs_lp (flB fu) fm (m, 0) = some (v, m')) ∧ rdO x m v x' m' := by
  intro d
  induction d with
  | zero => exact rd_step hb hfu 0 (fun z => absurd z (by decide))
  | succ d ih => exact rd_step hb hfu (d + 1) (fun _ => ih)
theorem rd_all (hC : cS x) (hM : mS m) (hT : TP x tp b) (hU : TM m tp b) (hb : ∀ i, i < tp → b i < 256) (hfu : 600 < fu) : ∃ v x' m', fX4_read fu x 6 4 = some (v, x') ∧ fX8_fault fu m 0 = some (v, m') ∧ rdO x m v x' m' := by
  have fx : frR x (hs_wF (hs_wF x 3 6 0) 2 6 0) := frR_tr frR_F frR_F
  have fm : frS m (hs_wF (hs_wF m 8 0 0) 11 0 0) := frS_tr frS_8 frS_11
  obtain ⟨v, x', m', c1, c2, c3⟩ := rd_loop hb hfu 23 0 0 (hs_wF (hs_wF x 3 6 0) 2 6 0) (hs_wF (hs_wF m 8 0 0) 11 0 0) (fun _ => 0) (fun _ => 0) (by decide) hC hM (frR_TP fx hT) (frS_TM fm hU) (by rw [pb_F_wF, if_pos ⟨rfl, rfl⟩]; rfl) (by rw [wF_ne (by decide), pb_F_wF, if_pos ⟨rfl, rfl⟩]; rfl) (by rw [wF_ne (by decide), pb_F_wF, if_pos ⟨rfl, rfl⟩]; rfl) (by rw [pb_F_wF, if_pos ⟨rfl, rfl⟩]; rfl) (by omega) (fun k hk => absurd hk (by omega))
  refine ⟨v, x', m', ?_, ?_, rdO_tr fx fm c3⟩
  · unfold fX4_read
    rw [c_pI6 hC, pb_bind, c_pI6 (σ := hs_wF x 3 6 0) hC, pb_bind]
    exact c1 fu (by omega)
  · unfold fX8_fault
    rw [m_pI hM, pb_bind, m_pI (σ := hs_wF m 8 0 0) hM, pb_bind]
    exact c2 fu (by omega)
end Read
