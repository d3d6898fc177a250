/-! Pure part 15: one step of a program's text -/
section Step
variable {fu tp a n : Nat} {b : Nat → Nat} {x m x' m' : hs_T}
theorem wF_ne {σ : hs_T} {k q k' q' : Nat} {v : Int32} (h : ¬ (k' = k ∧ q' = q)) : hs_F (hs_wF σ k q v) k' q' = hs_F σ k' q' := if_neg h
def okR (s v : Nat) : Prop := (s = 97 ∨ s = 98 ∨ s = 111 ∨ s = 104 ∨ s = 43 ∨ s = 45 ∨ s = 42 ∨ s = 61 ∨ s = 60) ∨ (s = 112 ∧ v ≤ 9999) ∨ ((s = 106 ∨ s = 103) ∧ v < 100) ∨ ((s = 108 ∨ s = 115) ∧ v < 8)
def frR (x x' : hs_T) : Prop := x'.1 = x.1 ∧ x'.2.2.1 = x.2.2.1 ∧ x'.2.2.2.2 = x.2.2.2.2 ∧ (∀ k q, q ≠ 6 → hs_F x' k q = hs_F x k q) ∧ ∀ q, q ≠ 7 → q ≠ 8 → hs_R x' q = hs_R x q
def frS (m m' : hs_T) : Prop := m'.1 = m.1 ∧ m'.2.2.1 = m.2.2.1 ∧ m'.2.2.2.2 = m.2.2.2.2 ∧ (∀ k, k ≠ 8 → k ≠ 11 → hs_F m' k 0 = hs_F m k 0) ∧ ∀ q, q ≠ 6 → q ≠ 7 → hs_R m' q = hs_R m q
theorem frR_rf : frR x x := ⟨rfl, rfl, rfl, fun _ _ _ => rfl, fun _ _ _ => rfl⟩
theorem frS_rf : frS m m := ⟨rfl, rfl, rfl, fun _ _ _ => rfl, fun _ _ _ => rfl⟩
theorem frR_tr {y : hs_T} (h : frR x y) (g : frR y x') : frR x x' := ⟨g.1.trans h.1, g.2.1.trans h.2.1, g.2.2.1.trans h.2.2.1, fun k q a => (g.2.2.2.1 k q a).trans (h.2.2.2.1 k q a), fun q a b => (g.2.2.2.2 q a b).trans (h.2.2.2.2 q a b)⟩
theorem frS_tr {y : hs_T} (h : frS m y) (g : frS y m') : frS m m' := ⟨g.1.trans h.1, g.2.1.trans h.2.1, g.2.2.1.trans h.2.2.1, fun k a b => (g.2.2.2.1 k a b).trans (h.2.2.2.1 k a b), fun q a b => (g.2.2.2.2 q a b).trans (h.2.2.2.2 q a b)⟩
theorem frR_F {k : Nat} {v : Int32} : frR x (hs_wF x k 6 v) := ⟨rfl, rfl, rfl, fun k' q hq => if_neg (fun z => hq z.2), fun _ _ _ => rfl⟩
theorem frR_7 {i : Nat} {v : Int32} : frR x (hs_wR x 7 i v) := ⟨rfl, rfl, rfl, fun _ _ _ => rfl, fun q h1 _ => hs_up_row_ne h1⟩
theorem frR_8 {i : Nat} {v : Int32} : frR x (hs_wR x 8 i v) := ⟨rfl, rfl, rfl, fun _ _ _ => rfl, fun q _ h1 => hs_up_row_ne h1⟩
theorem frS_8 {v : Int32} : frS m (hs_wF m 8 0 v) := ⟨rfl, rfl, rfl, fun k h1 _ => if_neg (fun z => h1 z.1), fun _ _ _ => rfl⟩
theorem frS_11 {v : Int32} : frS m (hs_wF m 11 0 v) := ⟨rfl, rfl, rfl, fun k _ h1 => if_neg (fun z => h1 z.1), fun _ _ _ => rfl⟩
theorem frS_6 {i : Nat} {v : Int32} : frS m (hs_wR m 6 i v) := ⟨rfl, rfl, rfl, fun _ _ _ => rfl, fun q h1 _ => hs_up_row_ne h1⟩
theorem frS_7 {i : Nat} {v : Int32} : frS m (hs_wR m 7 i v) := ⟨rfl, rfl, rfl, fun _ _ _ => rfl, fun q _ h1 => hs_up_row_ne h1⟩
theorem frR_TP (h : frR x x') (g : TP x tp b) : TP x' tp b := ⟨(h.2.2.2.1 1 4 (by decide)).trans g.1, g.2.1, fun i hi => by rw [h.2.2.2.2 5 (by decide) (by decide)]; exact g.2.2 i hi⟩
theorem frS_TM (h : frS m m') (g : TM m tp b) : TM m' tp b := ⟨(h.2.2.2.1 7 (by decide) (by decide)).trans g.1, g.2.1, fun i hi => by rw [h.2.2.2.2 1 (by decide) (by decide)]; exact g.2.2 i hi⟩
/-- both sides read a step, or neither -/
def stO (fu tp n : Nat) (x m : hs_T) (rc rm : Option (Int32 × hs_T)) : Prop := (∃ x' m' a', rc = some (0, x') ∧ rm = some (0, m') ∧ a' ≤ tp ∧ hs_F x' 3 6 = nI a' ∧ hs_F m' 8 0 = nI a' ∧ frR x x' ∧ frS m m') ∨ ∃ x' m' a' s v, rc = some (1, x') ∧ rm = some (1, m') ∧ a' ≤ tp ∧ hs_F x' 2 6 = nI n ∧ hs_F x' 3 6 = nI a' ∧ hs_F m' 8 0 = nI a' ∧ hs_F m' 11 0 = nI (n + 1) ∧ frR x x' ∧ frS m m' ∧ okR s v ∧ hs_R x' 7 n = nI s ∧ hs_R x' 8 n = nI v ∧ hs_R m' 6 n = nI s ∧ hs_R m' 7 n = nI v ∧ ∀ k, k ≠ n → hs_R x' 7 k = hs_R x 7 k ∧ hs_R x' 8 k = hs_R x 8 k ∧ hs_R m' 6 k = hs_R m 6 k ∧ hs_R m' 7 k = hs_R m 7 k
theorem m_198 (hM : mS m) (hF : hs_F m 11 0 = nI n) (hn : n < 24) {s v : Int32} : fX8_readsStep_198 fu m 0 s v = some (1, hs_wF (hs_wR (hs_wR m 6 n s) 7 n v) 11 0 (nI (n + 1))) := by
  unfold fX8_readsStep_198
  rw [m_g9 hM, pb_bind, m_gI hM, pb_bind, hF, m_st6 hM hn, pb_bind, m_g10 (σ := hs_wR m 6 n s) hM, pb_bind, m_gI (σ := hs_wR m 6 n s) hM, pb_bind, show hs_F (hs_wR m 6 n s) 11 0 = nI n from hF, m_st7 (σ := hs_wR m 6 n s) hM hn, pb_bind, m_gI (σ := hs_wR (hs_wR m 6 n s) 7 n v) hM, pb_bind, show hs_F (hs_wR (hs_wR m 6 n s) 7 n v) 11 0 = nI n from hF, nI_1, m_pI (σ := hs_wR (hs_wR m 6 n s) 7 n v) hM, pb_bind]
/-- what both sides hold after a step that was read -/
theorem st_ok (hm11 : True) {a' s v : Nat} {rc rm : Option (Int32 × hs_T)} {y z : hs_T} (ha : a' ≤ tp) (hok : okR s v) (fy : frR x y) (fz : frS m z) (y2 : hs_F y 2 6 = nI n) (y3 : hs_F y 3 6 = nI a') (z8 : hs_F z 8 0 = nI a') (y7 : ∀ k, hs_R y 7 k = if k = n then nI s else hs_R x 7 k) (y8 : ∀ k, hs_R y 8 k = if k = n then nI v else hs_R x 8 k) (z6 : hs_R z 6 = hs_R m 6) (z7 : hs_R z 7 = hs_R m 7) (e1 : rc = some (1, y)) (e2 : rm = some (1, hs_wF (hs_wR (hs_wR z 6 n (nI s)) 7 n (nI v)) 11 0 (nI (n + 1)))) : stO fu tp n x m rc rm := by
  refine Or.inr ⟨y, _, a', s, v, e1, e2, ha, y2, y3, (wF_ne (by decide)).trans z8, by rw [pb_F_wF, if_pos ⟨rfl, rfl⟩], fy, frS_tr fz (frS_tr frS_6 (frS_tr frS_7 frS_11)), hok, by rw [y7, if_pos rfl], by rw [y8, if_pos rfl], ?_, ?_, fun k hk => ⟨by rw [y7, if_neg hk], by rw [y8, if_neg hk], ?_, ?_⟩⟩
  · show hs_R (hs_wR (hs_wR z 6 n (nI s)) 7 n (nI v)) 6 n = _
    rw [pb_R_wR, if_neg (by omega), pb_R_wR, if_pos ⟨rfl, rfl⟩]
  · show hs_R (hs_wR (hs_wR z 6 n (nI s)) 7 n (nI v)) 7 n = _
    rw [pb_R_wR, if_pos ⟨rfl, rfl⟩]
  · show hs_R (hs_wR (hs_wR z 6 n (nI s)) 7 n (nI v)) 6 k = _
    rw [pb_R_wR, if_neg (by omega), pb_R_wR, if_neg (fun q => hk q.2), z6]
  · show hs_R (hs_wR (hs_wR z 6 n (nI s)) 7 n (nI v)) 7 k = _
    rw [pb_R_wR, if_neg (fun q => hk q.2)]
    show hs_R (hs_wR z 6 n (nI s)) 7 k = _
    rw [pb_R_wR, if_neg (by omega), z7]
/-- the class's heap as a step is begun -/
def stX (x : hs_T) (n : Nat) (s : Int32) : hs_T := hs_wR (hs_wR x 7 n s) 8 n 0
theorem stX_fr {s : Int32} : frR x (stX x n s) := frR_tr frR_7 frR_8
theorem stX_7 {s : Int32} (k : Nat) : hs_R (stX x n s) 7 k = if k = n then s else hs_R x 7 k := by
  unfold stX
  rw [pb_R_wR, if_neg (by omega), pb_R_wR]
  by_cases q : k = n
  · rw [if_pos ⟨rfl, q⟩, if_pos q]
  · rw [if_neg (fun z => q z.2), if_neg q]
theorem stX_8 {s : Int32} (k : Nat) : hs_R (stX x n s) 8 k = if k = n then nI 0 else hs_R x 8 k := by
  unfold stX
  rw [pb_R_wR]
  by_cases q : k = n
  · rw [if_pos ⟨rfl, q⟩, if_pos q]
    rfl
  · rw [if_neg (fun z => q z.2), if_neg q, pb_R_wR, if_neg (by omega)]

theorem rs_pre (hC : cS x) (hT : TP x tp b) (hF : hs_F x 2 6 = nI n) (hn : n < 24) (x3 : hs_F x 3 6 = nI a) (ha : a ≤ tp) {s : Int32} (hs : sgn tp b a = s) : fX4_readStep fu x 6 4 = ( if s = 42 then (fX4_readStep_152 fu (stX x n s) 6) else if s = 43 then (fX4_readStep_152 fu (stX x n s) 6) else if s = 45 then (fX4_readStep_152 fu (stX x n s) 6) else if s = 60 then (fX4_readStep_152 fu (stX x n s) 6) else if s = 61 then (fX4_readStep_152 fu (stX x n s) 6) else if s = 97 then (fX4_readStep_152 fu (stX x n s) 6) else if s = 98 then (fX4_readStep_152 fu (stX x n s) 6) else if s = 103 then (fX4_readStep_181 fu (stX x n s) 6 4) else if s = 104 then (fX4_readStep_152 fu (stX x n s) 6) else if s = 106 then (fX4_readStep_181 fu (stX x n s) 6 4) else if s = 108 then (fX4_readStep_198 fu (stX x n s) 6 4) else if s = 111 then (fX4_readStep_152 fu (stX x n s) 6) else if s = 112 then ((hs_gI (stX x n s) 6 6 3).bind fun v55 => (hs_pI (stX x n s) 6 6 3 (v55 + 1)).bind fun σ57 => (hs_ck σ57 6 6).bind fun _ => hs_b2 (fX4_readNumber fu σ57 6 4 4) fun v61 σ59 => (hs_bz v61).bind fun _ => some (v61, σ59)) else if s = 115 then (fX4_readStep_198 fu (stX x n s) 6 4) else (some (0, (stX x n s))) ) := by
  have h120 := hT.2.1
  unfold fX4_readStep stX
  rw [c_gI6 hC, pb_bind, x3, c_ck4 hC, pb_bind, c_at hC hT (by omega), pb_b2, hs, c_g0_6 hC, pb_bind, c_gI6 hC, pb_bind, hF, c_st7 hC hn, pb_bind, c_g1_6 (σ := hs_wR x 7 n s) hC, pb_bind, c_gI6 (σ := hs_wR x 7 n s) hC, pb_bind, show hs_F (hs_wR x 7 n s) 2 6 = nI n from hF, c_st8 (σ := hs_wR x 7 n s) hC hn, pb_bind]
theorem ms_pre (hM : mS m) (hU : TM m tp b) (m8 : hs_F m 8 0 = nI a) (ha : a ≤ tp) {s : Int32} (hs : sgn tp b a = s) : fX8_readsStep fu m 0 = ( if s = 97 then (fX8_readsStep_61 fu m 0 s 0) else (if s = 98 then (fX8_readsStep_61 fu m 0 s 0) else (if s = 43 then (fX8_readsStep_61 fu m 0 s 0) else (if s = 45 then (fX8_readsStep_61 fu m 0 s 0) else (if s = 42 then (fX8_readsStep_61 fu m 0 s 0) else (if s = 61 then (fX8_readsStep_61 fu m 0 s 0) else (if s = 60 then (fX8_readsStep_61 fu m 0 s 0) else (if s = 111 then (fX8_readsStep_61 fu m 0 s 0) else (if s = 104 then (fX8_readsStep_61 fu m 0 s 0) else (fX8_readsStep_66 fu m 0 s 0 0))))))))) ) := by
  have h120 := hU.2.1
  unfold fX8_readsStep
  rw [m_ck hM, pb_bind, m_sign hM hU m8 (by omega), pb_b2, hs]

theorem st_97 (hC : cS x) (hM : mS m) (hT : TP x tp b) (hU : TM m tp b) (hb : ∀ i, i < tp → b i < 256) (hF : hs_F x 2 6 = nI n) (hn : n < 24) (x3 : hs_F x 3 6 = nI a) (m8 : hs_F m 8 0 = nI a) (m11 : hs_F m 11 0 = nI n) (ha : a < tp) (hfu : 600 < fu) (hs : sgn tp b a = nI 97) : stO fu tp n x m (fX4_readStep fu x 6 4) (fX8_readsStep fu m 0) := by
  have hCs : cS (stX x n (nI 97)) := hC
  refine st_ok trivial (a' := a + 1) (s := 97) (v := 0) (y := hs_wF (stX x n (nI 97)) 3 6 (nI (a + 1))) (z := hs_wF m 8 0 (nI (a + 1))) (by omega) (Or.inl (by decide)) (frR_tr stX_fr frR_F) frS_8 ((wF_ne (by decide)).trans hF) (by rw [pb_F_wF, if_pos ⟨rfl, rfl⟩]) (by rw [pb_F_wF, if_pos ⟨rfl, rfl⟩]) stX_7 stX_8 rfl rfl ?_ ?_
  · rw [rs_pre hC hT hF hn x3 (by omega) hs, if_neg (show ¬ nI 97 = 42 by decide), if_neg (show ¬ nI 97 = 43 by decide), if_neg (show ¬ nI 97 = 45 by decide), if_neg (show ¬ nI 97 = 60 by decide), if_neg (show ¬ nI 97 = 61 by decide), if_pos (show nI 97 = 97 from rfl)]
    unfold fX4_readStep_152
    rw [c_gI6 hCs, pb_bind, show hs_F (stX x n (nI 97)) 3 6 = nI a from x3, nI_1, c_pI6 hCs, pb_bind]
  · rw [ms_pre hM hU m8 (by omega) hs, if_pos (show nI 97 = 97 from rfl)]
    unfold fX8_readsStep_61 fX8_readsStep_66
    rw [if_neg (show ¬ nI 97 = 108 by decide), if_neg (show ¬ nI 97 = 115 by decide)]
    unfold fX8_readsStep_84
    rw [if_neg (show ¬ nI 97 = 106 by decide), if_neg (show ¬ nI 97 = 103 by decide)]
    unfold fX8_readsStep_103
    rw [if_neg o_nz]
    unfold fX8_readsStep_127
    rw [m_gI hM, pb_bind, m8, nI_1, m_pI hM, pb_bind, if_pos rfl]
    unfold fX8_readsStep_166
    rw [if_pos rfl, if_neg (show ¬ nI 97 = 112 by decide)]
    exact m_198 (m := hs_wF m 8 0 (nI (a + 1))) hM ((wF_ne (by decide)).trans m11) hn
theorem st_98 (hC : cS x) (hM : mS m) (hT : TP x tp b) (hU : TM m tp b) (hb : ∀ i, i < tp → b i < 256) (hF : hs_F x 2 6 = nI n) (hn : n < 24) (x3 : hs_F x 3 6 = nI a) (m8 : hs_F m 8 0 = nI a) (m11 : hs_F m 11 0 = nI n) (ha : a < tp) (hfu : 600 < fu) (hs : sgn tp b a = nI 98) : stO fu tp n x m (fX4_readStep fu x 6 4) (fX8_readsStep fu m 0) := by
  have hCs : cS (stX x n (nI 98)) := hC
  refine st_ok trivial (a' := a + 1) (s := 98) (v := 0) (y := hs_wF (stX x n (nI 98)) 3 6 (nI (a + 1))) (z := hs_wF m 8 0 (nI (a + 1))) (by omega) (Or.inl (by decide)) (frR_tr stX_fr frR_F) frS_8 ((wF_ne (by decide)).trans hF) (by rw [pb_F_wF, if_pos ⟨rfl, rfl⟩]) (by rw [pb_F_wF, if_pos ⟨rfl, rfl⟩]) stX_7 stX_8 rfl rfl ?_ ?_
  · rw [rs_pre hC hT hF hn x3 (by omega) hs, if_neg (show ¬ nI 98 = 42 by decide), if_neg (show ¬ nI 98 = 43 by decide), if_neg (show ¬ nI 98 = 45 by decide), if_neg (show ¬ nI 98 = 60 by decide), if_neg (show ¬ nI 98 = 61 by decide), if_neg (show ¬ nI 98 = 97 by decide), if_pos (show nI 98 = 98 from rfl)]
    unfold fX4_readStep_152
    rw [c_gI6 hCs, pb_bind, show hs_F (stX x n (nI 98)) 3 6 = nI a from x3, nI_1, c_pI6 hCs, pb_bind]
  · rw [ms_pre hM hU m8 (by omega) hs, if_neg (show ¬ nI 98 = 97 by decide), if_pos (show nI 98 = 98 from rfl)]
    unfold fX8_readsStep_61 fX8_readsStep_66
    rw [if_neg (show ¬ nI 98 = 108 by decide), if_neg (show ¬ nI 98 = 115 by decide)]
    unfold fX8_readsStep_84
    rw [if_neg (show ¬ nI 98 = 106 by decide), if_neg (show ¬ nI 98 = 103 by decide)]
    unfold fX8_readsStep_103
    rw [if_neg o_nz]
    unfold fX8_readsStep_127
    rw [m_gI hM, pb_bind, m8, nI_1, m_pI hM, pb_bind, if_pos rfl]
    unfold fX8_readsStep_166
    rw [if_pos rfl, if_neg (show ¬ nI 98 = 112 by decide)]
    exact m_198 (m := hs_wF m 8 0 (nI (a + 1))) hM ((wF_ne (by decide)).trans m11) hn
theorem st_43 (hC : cS x) (hM : mS m) (hT : TP x tp b) (hU : TM m tp b) (hb : ∀ i, i < tp → b i < 256) (hF : hs_F x 2 6 = nI n) (hn : n < 24) (x3 : hs_F x 3 6 = nI a) (m8 : hs_F m 8 0 = nI a) (m11 : hs_F m 11 0 = nI n) (ha : a < tp) (hfu : 600 < fu) (hs : sgn tp b a = nI 43) : stO fu tp n x m (fX4_readStep fu x 6 4) (fX8_readsStep fu m 0) := by
  have hCs : cS (stX x n (nI 43)) := hC
  refine st_ok trivial (a' := a + 1) (s := 43) (v := 0) (y := hs_wF (stX x n (nI 43)) 3 6 (nI (a + 1))) (z := hs_wF m 8 0 (nI (a + 1))) (by omega) (Or.inl (by decide)) (frR_tr stX_fr frR_F) frS_8 ((wF_ne (by decide)).trans hF) (by rw [pb_F_wF, if_pos ⟨rfl, rfl⟩]) (by rw [pb_F_wF, if_pos ⟨rfl, rfl⟩]) stX_7 stX_8 rfl rfl ?_ ?_
  · rw [rs_pre hC hT hF hn x3 (by omega) hs, if_neg (show ¬ nI 43 = 42 by decide), if_pos (show nI 43 = 43 from rfl)]
    unfold fX4_readStep_152
    rw [c_gI6 hCs, pb_bind, show hs_F (stX x n (nI 43)) 3 6 = nI a from x3, nI_1, c_pI6 hCs, pb_bind]
  · rw [ms_pre hM hU m8 (by omega) hs, if_neg (show ¬ nI 43 = 97 by decide), if_neg (show ¬ nI 43 = 98 by decide), if_pos (show nI 43 = 43 from rfl)]
    unfold fX8_readsStep_61 fX8_readsStep_66
    rw [if_neg (show ¬ nI 43 = 108 by decide), if_neg (show ¬ nI 43 = 115 by decide)]
    unfold fX8_readsStep_84
    rw [if_neg (show ¬ nI 43 = 106 by decide), if_neg (show ¬ nI 43 = 103 by decide)]
    unfold fX8_readsStep_103
    rw [if_neg o_nz]
    unfold fX8_readsStep_127
    rw [m_gI hM, pb_bind, m8, nI_1, m_pI hM, pb_bind, if_pos rfl]
    unfold fX8_readsStep_166
    rw [if_pos rfl, if_neg (show ¬ nI 43 = 112 by decide)]
    exact m_198 (m := hs_wF m 8 0 (nI (a + 1))) hM ((wF_ne (by decide)).trans m11) hn
theorem st_45 (hC : cS x) (hM : mS m) (hT : TP x tp b) (hU : TM m tp b) (hb : ∀ i, i < tp → b i < 256) (hF : hs_F x 2 6 = nI n) (hn : n < 24) (x3 : hs_F x 3 6 = nI a) (m8 : hs_F m 8 0 = nI a) (m11 : hs_F m 11 0 = nI n) (ha : a < tp) (hfu : 600 < fu) (hs : sgn tp b a = nI 45) : stO fu tp n x m (fX4_readStep fu x 6 4) (fX8_readsStep fu m 0) := by
  have hCs : cS (stX x n (nI 45)) := hC
  refine st_ok trivial (a' := a + 1) (s := 45) (v := 0) (y := hs_wF (stX x n (nI 45)) 3 6 (nI (a + 1))) (z := hs_wF m 8 0 (nI (a + 1))) (by omega) (Or.inl (by decide)) (frR_tr stX_fr frR_F) frS_8 ((wF_ne (by decide)).trans hF) (by rw [pb_F_wF, if_pos ⟨rfl, rfl⟩]) (by rw [pb_F_wF, if_pos ⟨rfl, rfl⟩]) stX_7 stX_8 rfl rfl ?_ ?_
  · rw [rs_pre hC hT hF hn x3 (by omega) hs, if_neg (show ¬ nI 45 = 42 by decide), if_neg (show ¬ nI 45 = 43 by decide), if_pos (show nI 45 = 45 from rfl)]
    unfold fX4_readStep_152
    rw [c_gI6 hCs, pb_bind, show hs_F (stX x n (nI 45)) 3 6 = nI a from x3, nI_1, c_pI6 hCs, pb_bind]
  · rw [ms_pre hM hU m8 (by omega) hs, if_neg (show ¬ nI 45 = 97 by decide), if_neg (show ¬ nI 45 = 98 by decide), if_neg (show ¬ nI 45 = 43 by decide), if_pos (show nI 45 = 45 from rfl)]
    unfold fX8_readsStep_61 fX8_readsStep_66
    rw [if_neg (show ¬ nI 45 = 108 by decide), if_neg (show ¬ nI 45 = 115 by decide)]
    unfold fX8_readsStep_84
    rw [if_neg (show ¬ nI 45 = 106 by decide), if_neg (show ¬ nI 45 = 103 by decide)]
    unfold fX8_readsStep_103
    rw [if_neg o_nz]
    unfold fX8_readsStep_127
    rw [m_gI hM, pb_bind, m8, nI_1, m_pI hM, pb_bind, if_pos rfl]
    unfold fX8_readsStep_166
    rw [if_pos rfl, if_neg (show ¬ nI 45 = 112 by decide)]
    exact m_198 (m := hs_wF m 8 0 (nI (a + 1))) hM ((wF_ne (by decide)).trans m11) hn
theorem st_42 (hC : cS x) (hM : mS m) (hT : TP x tp b) (hU : TM m tp b) (hb : ∀ i, i < tp → b i < 256) (hF : hs_F x 2 6 = nI n) (hn : n < 24) (x3 : hs_F x 3 6 = nI a) (m8 : hs_F m 8 0 = nI a) (m11 : hs_F m 11 0 = nI n) (ha : a < tp) (hfu : 600 < fu) (hs : sgn tp b a = nI 42) : stO fu tp n x m (fX4_readStep fu x 6 4) (fX8_readsStep fu m 0) := by
  have hCs : cS (stX x n (nI 42)) := hC
  refine st_ok trivial (a' := a + 1) (s := 42) (v := 0) (y := hs_wF (stX x n (nI 42)) 3 6 (nI (a + 1))) (z := hs_wF m 8 0 (nI (a + 1))) (by omega) (Or.inl (by decide)) (frR_tr stX_fr frR_F) frS_8 ((wF_ne (by decide)).trans hF) (by rw [pb_F_wF, if_pos ⟨rfl, rfl⟩]) (by rw [pb_F_wF, if_pos ⟨rfl, rfl⟩]) stX_7 stX_8 rfl rfl ?_ ?_
  · rw [rs_pre hC hT hF hn x3 (by omega) hs, if_pos (show nI 42 = 42 from rfl)]
    unfold fX4_readStep_152
    rw [c_gI6 hCs, pb_bind, show hs_F (stX x n (nI 42)) 3 6 = nI a from x3, nI_1, c_pI6 hCs, pb_bind]
  · rw [ms_pre hM hU m8 (by omega) hs, if_neg (show ¬ nI 42 = 97 by decide), if_neg (show ¬ nI 42 = 98 by decide), if_neg (show ¬ nI 42 = 43 by decide), if_neg (show ¬ nI 42 = 45 by decide), if_pos (show nI 42 = 42 from rfl)]
    unfold fX8_readsStep_61 fX8_readsStep_66
    rw [if_neg (show ¬ nI 42 = 108 by decide), if_neg (show ¬ nI 42 = 115 by decide)]
    unfold fX8_readsStep_84
    rw [if_neg (show ¬ nI 42 = 106 by decide), if_neg (show ¬ nI 42 = 103 by decide)]
    unfold fX8_readsStep_103
    rw [if_neg o_nz]
    unfold fX8_readsStep_127
    rw [m_gI hM, pb_bind, m8, nI_1, m_pI hM, pb_bind, if_pos rfl]
    unfold fX8_readsStep_166
    rw [if_pos rfl, if_neg (show ¬ nI 42 = 112 by decide)]
    exact m_198 (m := hs_wF m 8 0 (nI (a + 1))) hM ((wF_ne (by decide)).trans m11) hn
theorem st_61 (hC : cS x) (hM : mS m) (hT : TP x tp b) (hU : TM m tp b) (hb : ∀ i, i < tp → b i < 256) (hF : hs_F x 2 6 = nI n) (hn : n < 24) (x3 : hs_F x 3 6 = nI a) (m8 : hs_F m 8 0 = nI a) (m11 : hs_F m 11 0 = nI n) (ha : a < tp) (hfu : 600 < fu) (hs : sgn tp b a = nI 61) : stO fu tp n x m (fX4_readStep fu x 6 4) (fX8_readsStep fu m 0) := by
  have hCs : cS (stX x n (nI 61)) := hC
  refine st_ok trivial (a' := a + 1) (s := 61) (v := 0) (y := hs_wF (stX x n (nI 61)) 3 6 (nI (a + 1))) (z := hs_wF m 8 0 (nI (a + 1))) (by omega) (Or.inl (by decide)) (frR_tr stX_fr frR_F) frS_8 ((wF_ne (by decide)).trans hF) (by rw [pb_F_wF, if_pos ⟨rfl, rfl⟩]) (by rw [pb_F_wF, if_pos ⟨rfl, rfl⟩]) stX_7 stX_8 rfl rfl ?_ ?_
  · rw [rs_pre hC hT hF hn x3 (by omega) hs, if_neg (show ¬ nI 61 = 42 by decide), if_neg (show ¬ nI 61 = 43 by decide), if_neg (show ¬ nI 61 = 45 by decide), if_neg (show ¬ nI 61 = 60 by decide), if_pos (show nI 61 = 61 from rfl)]
    unfold fX4_readStep_152
    rw [c_gI6 hCs, pb_bind, show hs_F (stX x n (nI 61)) 3 6 = nI a from x3, nI_1, c_pI6 hCs, pb_bind]
  · rw [ms_pre hM hU m8 (by omega) hs, if_neg (show ¬ nI 61 = 97 by decide), if_neg (show ¬ nI 61 = 98 by decide), if_neg (show ¬ nI 61 = 43 by decide), if_neg (show ¬ nI 61 = 45 by decide), if_neg (show ¬ nI 61 = 42 by decide), if_pos (show nI 61 = 61 from rfl)]
    unfold fX8_readsStep_61 fX8_readsStep_66
    rw [if_neg (show ¬ nI 61 = 108 by decide), if_neg (show ¬ nI 61 = 115 by decide)]
    unfold fX8_readsStep_84
    rw [if_neg (show ¬ nI 61 = 106 by decide), if_neg (show ¬ nI 61 = 103 by decide)]
    unfold fX8_readsStep_103
    rw [if_neg o_nz]
    unfold fX8_readsStep_127
    rw [m_gI hM, pb_bind, m8, nI_1, m_pI hM, pb_bind, if_pos rfl]
    unfold fX8_readsStep_166
    rw [if_pos rfl, if_neg (show ¬ nI 61 = 112 by decide)]
    exact m_198 (m := hs_wF m 8 0 (nI (a + 1))) hM ((wF_ne (by decide)).trans m11) hn
theorem st_60 (hC : cS x) (hM : mS m) (hT : TP x tp b) (hU : TM m tp b) (hb : ∀ i, i < tp → b i < 256) (hF : hs_F x 2 6 = nI n) (hn : n < 24) (x3 : hs_F x 3 6 = nI a) (m8 : hs_F m 8 0 = nI a) (m11 : hs_F m 11 0 = nI n) (ha : a < tp) (hfu : 600 < fu) (hs : sgn tp b a = nI 60) : stO fu tp n x m (fX4_readStep fu x 6 4) (fX8_readsStep fu m 0) := by
  have hCs : cS (stX x n (nI 60)) := hC
  refine st_ok trivial (a' := a + 1) (s := 60) (v := 0) (y := hs_wF (stX x n (nI 60)) 3 6 (nI (a + 1))) (z := hs_wF m 8 0 (nI (a + 1))) (by omega) (Or.inl (by decide)) (frR_tr stX_fr frR_F) frS_8 ((wF_ne (by decide)).trans hF) (by rw [pb_F_wF, if_pos ⟨rfl, rfl⟩]) (by rw [pb_F_wF, if_pos ⟨rfl, rfl⟩]) stX_7 stX_8 rfl rfl ?_ ?_
  · rw [rs_pre hC hT hF hn x3 (by omega) hs, if_neg (show ¬ nI 60 = 42 by decide), if_neg (show ¬ nI 60 = 43 by decide), if_neg (show ¬ nI 60 = 45 by decide), if_pos (show nI 60 = 60 from rfl)]
    unfold fX4_readStep_152
    rw [c_gI6 hCs, pb_bind, show hs_F (stX x n (nI 60)) 3 6 = nI a from x3, nI_1, c_pI6 hCs, pb_bind]
  · rw [ms_pre hM hU m8 (by omega) hs, if_neg (show ¬ nI 60 = 97 by decide), if_neg (show ¬ nI 60 = 98 by decide), if_neg (show ¬ nI 60 = 43 by decide), if_neg (show ¬ nI 60 = 45 by decide), if_neg (show ¬ nI 60 = 42 by decide), if_neg (show ¬ nI 60 = 61 by decide), if_pos (show nI 60 = 60 from rfl)]
    unfold fX8_readsStep_61 fX8_readsStep_66
    rw [if_neg (show ¬ nI 60 = 108 by decide), if_neg (show ¬ nI 60 = 115 by decide)]
    unfold fX8_readsStep_84
    rw [if_neg (show ¬ nI 60 = 106 by decide), if_neg (show ¬ nI 60 = 103 by decide)]
    unfold fX8_readsStep_103
    rw [if_neg o_nz]
    unfold fX8_readsStep_127
    rw [m_gI hM, pb_bind, m8, nI_1, m_pI hM, pb_bind, if_pos rfl]
    unfold fX8_readsStep_166
    rw [if_pos rfl, if_neg (show ¬ nI 60 = 112 by decide)]
    exact m_198 (m := hs_wF m 8 0 (nI (a + 1))) hM ((wF_ne (by decide)).trans m11) hn
theorem st_111 (hC : cS x) (hM : mS m) (hT : TP x tp b) (hU : TM m tp b) (hb : ∀ i, i < tp → b i < 256) (hF : hs_F x 2 6 = nI n) (hn : n < 24) (x3 : hs_F x 3 6 = nI a) (m8 : hs_F m 8 0 = nI a) (m11 : hs_F m 11 0 = nI n) (ha : a < tp) (hfu : 600 < fu) (hs : sgn tp b a = nI 111) : stO fu tp n x m (fX4_readStep fu x 6 4) (fX8_readsStep fu m 0) := by
  have hCs : cS (stX x n (nI 111)) := hC
  refine st_ok trivial (a' := a + 1) (s := 111) (v := 0) (y := hs_wF (stX x n (nI 111)) 3 6 (nI (a + 1))) (z := hs_wF m 8 0 (nI (a + 1))) (by omega) (Or.inl (by decide)) (frR_tr stX_fr frR_F) frS_8 ((wF_ne (by decide)).trans hF) (by rw [pb_F_wF, if_pos ⟨rfl, rfl⟩]) (by rw [pb_F_wF, if_pos ⟨rfl, rfl⟩]) stX_7 stX_8 rfl rfl ?_ ?_
  · rw [rs_pre hC hT hF hn x3 (by omega) hs, if_neg (show ¬ nI 111 = 42 by decide), if_neg (show ¬ nI 111 = 43 by decide), if_neg (show ¬ nI 111 = 45 by decide), if_neg (show ¬ nI 111 = 60 by decide), if_neg (show ¬ nI 111 = 61 by decide), if_neg (show ¬ nI 111 = 97 by decide), if_neg (show ¬ nI 111 = 98 by decide), if_neg (show ¬ nI 111 = 103 by decide), if_neg (show ¬ nI 111 = 104 by decide), if_neg (show ¬ nI 111 = 106 by decide), if_neg (show ¬ nI 111 = 108 by decide), if_pos (show nI 111 = 111 from rfl)]
    unfold fX4_readStep_152
    rw [c_gI6 hCs, pb_bind, show hs_F (stX x n (nI 111)) 3 6 = nI a from x3, nI_1, c_pI6 hCs, pb_bind]
  · rw [ms_pre hM hU m8 (by omega) hs, if_neg (show ¬ nI 111 = 97 by decide), if_neg (show ¬ nI 111 = 98 by decide), if_neg (show ¬ nI 111 = 43 by decide), if_neg (show ¬ nI 111 = 45 by decide), if_neg (show ¬ nI 111 = 42 by decide), if_neg (show ¬ nI 111 = 61 by decide), if_neg (show ¬ nI 111 = 60 by decide), if_pos (show nI 111 = 111 from rfl)]
    unfold fX8_readsStep_61 fX8_readsStep_66
    rw [if_neg (show ¬ nI 111 = 108 by decide), if_neg (show ¬ nI 111 = 115 by decide)]
    unfold fX8_readsStep_84
    rw [if_neg (show ¬ nI 111 = 106 by decide), if_neg (show ¬ nI 111 = 103 by decide)]
    unfold fX8_readsStep_103
    rw [if_neg o_nz]
    unfold fX8_readsStep_127
    rw [m_gI hM, pb_bind, m8, nI_1, m_pI hM, pb_bind, if_pos rfl]
    unfold fX8_readsStep_166
    rw [if_pos rfl, if_neg (show ¬ nI 111 = 112 by decide)]
    exact m_198 (m := hs_wF m 8 0 (nI (a + 1))) hM ((wF_ne (by decide)).trans m11) hn
theorem st_104 (hC : cS x) (hM : mS m) (hT : TP x tp b) (hU : TM m tp b) (hb : ∀ i, i < tp → b i < 256) (hF : hs_F x 2 6 = nI n) (hn : n < 24) (x3 : hs_F x 3 6 = nI a) (m8 : hs_F m 8 0 = nI a) (m11 : hs_F m 11 0 = nI n) (ha : a < tp) (hfu : 600 < fu) (hs : sgn tp b a = nI 104) : stO fu tp n x m (fX4_readStep fu x 6 4) (fX8_readsStep fu m 0) := by
  have hCs : cS (stX x n (nI 104)) := hC
  refine st_ok trivial (a' := a + 1) (s := 104) (v := 0) (y := hs_wF (stX x n (nI 104)) 3 6 (nI (a + 1))) (z := hs_wF m 8 0 (nI (a + 1))) (by omega) (Or.inl (by decide)) (frR_tr stX_fr frR_F) frS_8 ((wF_ne (by decide)).trans hF) (by rw [pb_F_wF, if_pos ⟨rfl, rfl⟩]) (by rw [pb_F_wF, if_pos ⟨rfl, rfl⟩]) stX_7 stX_8 rfl rfl ?_ ?_
  · rw [rs_pre hC hT hF hn x3 (by omega) hs, if_neg (show ¬ nI 104 = 42 by decide), if_neg (show ¬ nI 104 = 43 by decide), if_neg (show ¬ nI 104 = 45 by decide), if_neg (show ¬ nI 104 = 60 by decide), if_neg (show ¬ nI 104 = 61 by decide), if_neg (show ¬ nI 104 = 97 by decide), if_neg (show ¬ nI 104 = 98 by decide), if_neg (show ¬ nI 104 = 103 by decide), if_pos (show nI 104 = 104 from rfl)]
    unfold fX4_readStep_152
    rw [c_gI6 hCs, pb_bind, show hs_F (stX x n (nI 104)) 3 6 = nI a from x3, nI_1, c_pI6 hCs, pb_bind]
  · rw [ms_pre hM hU m8 (by omega) hs, if_neg (show ¬ nI 104 = 97 by decide), if_neg (show ¬ nI 104 = 98 by decide), if_neg (show ¬ nI 104 = 43 by decide), if_neg (show ¬ nI 104 = 45 by decide), if_neg (show ¬ nI 104 = 42 by decide), if_neg (show ¬ nI 104 = 61 by decide), if_neg (show ¬ nI 104 = 60 by decide), if_neg (show ¬ nI 104 = 111 by decide), if_pos (show nI 104 = 104 from rfl)]
    unfold fX8_readsStep_61 fX8_readsStep_66
    rw [if_neg (show ¬ nI 104 = 108 by decide), if_neg (show ¬ nI 104 = 115 by decide)]
    unfold fX8_readsStep_84
    rw [if_neg (show ¬ nI 104 = 106 by decide), if_neg (show ¬ nI 104 = 103 by decide)]
    unfold fX8_readsStep_103
    rw [if_neg o_nz]
    unfold fX8_readsStep_127
    rw [m_gI hM, pb_bind, m8, nI_1, m_pI hM, pb_bind, if_pos rfl]
    unfold fX8_readsStep_166
    rw [if_pos rfl, if_neg (show ¬ nI 104 = 112 by decide)]
    exact m_198 (m := hs_wF m 8 0 (nI (a + 1))) hM ((wF_ne (by decide)).trans m11) hn
theorem st_num {D s : Nat} (hC : cS x) (hM : mS m) (hT : TP x tp b) (hU : TM m tp b) (hb : ∀ i, i < tp → b i < 256) (hF : hs_F x 2 6 = nI n) (hn : n < 24) (x3 : hs_F x 3 6 = nI a) (m8 : hs_F m 8 0 = nI a) (m11 : hs_F m 11 0 = nI n) (ha : a < tp) (hfu : 600 < fu) (hD : D ≤ 4) (hD1 : 1 ≤ D) (hok : ∀ v, v < 10 ^ D → okR s v) {rc rm : Option (Int32 × hs_T)} (e1 : rc = hs_b2 (fX4_readNumber fu (hs_wF (stX x n (nI s)) 3 6 (nI (a + 1))) 6 4 (nI D)) fun v38 σ36 => (hs_bz v38).bind fun _ => some (v38, σ36)) (e2 : rm = hs_b2 (fX8_digits fu (hs_wF m 8 0 (nI (a + 1))) 0 (nI D)) fun v19 σ17 => if 0 ≤ v19 then fX8_readsStep_198 fu σ17 0 (nI s) v19 else some (0, σ17)) : stO fu tp n x m rc rm := by
  have fy : frR x (hs_wF (stX x n (nI s)) 3 6 (nI (a + 1))) := frR_tr stX_fr frR_F
  have fz : frS m (hs_wF m 8 0 (nI (a + 1))) := frS_8
  rcases dg_num (fu := fu) (x := hs_wF (stX x n (nI s)) 3 6 (nI (a + 1))) (m := hs_wF m 8 0 (nI (a + 1))) (a := a + 1) (n := n) (D := D) hC hM (frR_TP fy hT) (frS_TM fz hU) hb ((wF_ne (by decide)).trans hF) hn hD hD1 hfu (by omega) (by rw [pb_F_wF, if_pos ⟨rfl, rfl⟩]) (by rw [pb_F_wF, if_pos ⟨rfl, rfl⟩]) with ⟨a', v', q1, q2, q3, q4⟩ | ⟨q3, q4⟩
  · rw [pb_FF] at q3 q4
    have hv : v' < 10000 := Nat.lt_of_lt_of_le q2 (Nat.pow_le_pow_right (n := 10) (by decide) hD)
    refine st_ok trivial (a' := a') (s := s) (v := v') (y := hs_wR (hs_wF (stX x n (nI s)) 3 6 (nI a')) 8 n (nI v')) (z := hs_wF m 8 0 (nI a')) q1 (hok v' q2) (frR_tr stX_fr (frR_tr frR_F frR_8)) frS_8 (show hs_F (hs_wF (stX x n (nI s)) 3 6 (nI a')) 2 6 = nI n from (wF_ne (by decide)).trans hF) (by show hs_F (hs_wF (stX x n (nI s)) 3 6 (nI a')) 3 6 = _; rw [pb_F_wF, if_pos ⟨rfl, rfl⟩]) (by rw [pb_F_wF, if_pos ⟨rfl, rfl⟩]) (fun k => ?_) (fun k => ?_) rfl rfl ?_ ?_
    · rw [pb_R_wR, if_neg (by omega)]
      exact stX_7 k
    · rw [pb_R_wR]
      by_cases q : k = n
      · rw [if_pos ⟨rfl, q⟩, if_pos q]
      · rw [if_neg (fun z => q z.2), if_neg q]
        exact (stX_8 k).trans (if_neg q)
    · rw [e1, q3, pb_b2, pb_bz1, pb_bind]
    · rw [e2, q4, pb_b2, if_pos (nI_pos' (by omega))]
      exact m_198 (m := hs_wF m 8 0 (nI a')) hM ((wF_ne (by decide)).trans m11) hn
  · refine Or.inl ⟨_, _, a + 1, by rw [e1, q3, pb_b2, pb_bz0, pb_bind], by rw [e2, q4, pb_b2, if_neg (by decide)], by omega, ?_, ?_, frR_tr fy frR_8, fz⟩
    · show hs_F (hs_wF (stX x n (nI s)) 3 6 (nI (a + 1))) 3 6 = _
      rw [pb_F_wF, if_pos ⟨rfl, rfl⟩]
    · rw [pb_F_wF, if_pos ⟨rfl, rfl⟩]
theorem st_112 (hC : cS x) (hM : mS m) (hT : TP x tp b) (hU : TM m tp b) (hb : ∀ i, i < tp → b i < 256) (hF : hs_F x 2 6 = nI n) (hn : n < 24) (x3 : hs_F x 3 6 = nI a) (m8 : hs_F m 8 0 = nI a) (m11 : hs_F m 11 0 = nI n) (ha : a < tp) (hfu : 600 < fu) (hs : sgn tp b a = nI 112) : stO fu tp n x m (fX4_readStep fu x 6 4) (fX8_readsStep fu m 0) := by
  have hCs : cS (stX x n (nI 112)) := hC
  refine st_num (D := 4) (s := 112) hC hM hT hU hb hF hn x3 m8 m11 ha hfu (by decide) (by decide) (fun v hv => Or.inr (Or.inl ⟨rfl, by omega⟩)) ?_ ?_
  · rw [rs_pre hC hT hF hn x3 (by omega) hs, if_neg (show ¬ nI 112 = 42 by decide), if_neg (show ¬ nI 112 = 43 by decide), if_neg (show ¬ nI 112 = 45 by decide), if_neg (show ¬ nI 112 = 60 by decide), if_neg (show ¬ nI 112 = 61 by decide), if_neg (show ¬ nI 112 = 97 by decide), if_neg (show ¬ nI 112 = 98 by decide), if_neg (show ¬ nI 112 = 103 by decide), if_neg (show ¬ nI 112 = 104 by decide), if_neg (show ¬ nI 112 = 106 by decide), if_neg (show ¬ nI 112 = 108 by decide), if_neg (show ¬ nI 112 = 111 by decide), if_pos (show nI 112 = 112 from rfl)]
    rw [c_gI6 hCs, pb_bind, show hs_F (stX x n (nI 112)) 3 6 = nI a from x3, nI_1, c_pI6 hCs, pb_bind, c_ck6 (σ := hs_wF (stX x n (nI 112)) 3 6 (nI (a + 1))) hCs, pb_bind, il 4]
  · rw [ms_pre hM hU m8 (by omega) hs, if_neg (show ¬ nI 112 = 97 by decide), if_neg (show ¬ nI 112 = 98 by decide), if_neg (show ¬ nI 112 = 43 by decide), if_neg (show ¬ nI 112 = 45 by decide), if_neg (show ¬ nI 112 = 42 by decide), if_neg (show ¬ nI 112 = 61 by decide), if_neg (show ¬ nI 112 = 60 by decide), if_neg (show ¬ nI 112 = 111 by decide), if_neg (show ¬ nI 112 = 104 by decide)]
    unfold fX8_readsStep_66
    rw [if_neg (show ¬ nI 112 = 108 by decide), if_neg (show ¬ nI 112 = 115 by decide)]
    unfold fX8_readsStep_84
    rw [if_neg (show ¬ nI 112 = 106 by decide), if_neg (show ¬ nI 112 = 103 by decide)]
    unfold fX8_readsStep_103
    rw [if_pos rfl, if_pos rfl, if_pos rfl, if_pos (show nI 112 = 112 from rfl)]
    unfold fX8_readsStep_127
    rw [m_gI hM, pb_bind, m8, nI_1, m_pI hM, pb_bind, if_pos rfl]
    unfold fX8_readsStep_166
    rw [if_pos rfl, if_pos (show nI 112 = 112 from rfl)]
    unfold fX8_readsStep_177
    rw [if_pos rfl]
    unfold fX8_readsStep_188
    rw [m_ck (σ := hs_wF m 8 0 (nI (a + 1))) hM, pb_bind, il 4]
theorem st_106 (hC : cS x) (hM : mS m) (hT : TP x tp b) (hU : TM m tp b) (hb : ∀ i, i < tp → b i < 256) (hF : hs_F x 2 6 = nI n) (hn : n < 24) (x3 : hs_F x 3 6 = nI a) (m8 : hs_F m 8 0 = nI a) (m11 : hs_F m 11 0 = nI n) (ha : a < tp) (hfu : 600 < fu) (hs : sgn tp b a = nI 106) : stO fu tp n x m (fX4_readStep fu x 6 4) (fX8_readsStep fu m 0) := by
  have hCs : cS (stX x n (nI 106)) := hC
  refine st_num (D := 2) (s := 106) hC hM hT hU hb hF hn x3 m8 m11 ha hfu (by decide) (by decide) (fun v hv => Or.inr (Or.inr (Or.inl ⟨Or.inl rfl, by omega⟩))) ?_ ?_
  · rw [rs_pre hC hT hF hn x3 (by omega) hs, if_neg (show ¬ nI 106 = 42 by decide), if_neg (show ¬ nI 106 = 43 by decide), if_neg (show ¬ nI 106 = 45 by decide), if_neg (show ¬ nI 106 = 60 by decide), if_neg (show ¬ nI 106 = 61 by decide), if_neg (show ¬ nI 106 = 97 by decide), if_neg (show ¬ nI 106 = 98 by decide), if_neg (show ¬ nI 106 = 103 by decide), if_neg (show ¬ nI 106 = 104 by decide), if_pos (show nI 106 = 106 from rfl)]
    unfold fX4_readStep_181
    rw [c_gI6 hCs, pb_bind, show hs_F (stX x n (nI 106)) 3 6 = nI a from x3, nI_1, c_pI6 hCs, pb_bind, c_ck6 (σ := hs_wF (stX x n (nI 106)) 3 6 (nI (a + 1))) hCs, pb_bind, il 2]
  · rw [ms_pre hM hU m8 (by omega) hs, if_neg (show ¬ nI 106 = 97 by decide), if_neg (show ¬ nI 106 = 98 by decide), if_neg (show ¬ nI 106 = 43 by decide), if_neg (show ¬ nI 106 = 45 by decide), if_neg (show ¬ nI 106 = 42 by decide), if_neg (show ¬ nI 106 = 61 by decide), if_neg (show ¬ nI 106 = 60 by decide), if_neg (show ¬ nI 106 = 111 by decide), if_neg (show ¬ nI 106 = 104 by decide)]
    unfold fX8_readsStep_66
    rw [if_neg (show ¬ nI 106 = 108 by decide), if_neg (show ¬ nI 106 = 115 by decide)]
    unfold fX8_readsStep_84
    rw [if_pos (show nI 106 = 106 from rfl)]
    unfold fX8_readsStep_98 fX8_readsStep_103
    rw [if_pos rfl, if_pos rfl, if_neg o_nz]
    unfold fX8_readsStep_127
    rw [m_gI hM, pb_bind, m8, nI_1, m_pI hM, pb_bind, if_pos rfl]
    unfold fX8_readsStep_166
    rw [if_neg o_nz]
    unfold fX8_readsStep_177
    rw [if_neg o_nz]
    unfold fX8_readsStep_188
    rw [m_ck (σ := hs_wF m 8 0 (nI (a + 1))) hM, pb_bind, il 2]
theorem st_103 (hC : cS x) (hM : mS m) (hT : TP x tp b) (hU : TM m tp b) (hb : ∀ i, i < tp → b i < 256) (hF : hs_F x 2 6 = nI n) (hn : n < 24) (x3 : hs_F x 3 6 = nI a) (m8 : hs_F m 8 0 = nI a) (m11 : hs_F m 11 0 = nI n) (ha : a < tp) (hfu : 600 < fu) (hs : sgn tp b a = nI 103) : stO fu tp n x m (fX4_readStep fu x 6 4) (fX8_readsStep fu m 0) := by
  have hCs : cS (stX x n (nI 103)) := hC
  refine st_num (D := 2) (s := 103) hC hM hT hU hb hF hn x3 m8 m11 ha hfu (by decide) (by decide) (fun v hv => Or.inr (Or.inr (Or.inl ⟨Or.inr rfl, by omega⟩))) ?_ ?_
  · rw [rs_pre hC hT hF hn x3 (by omega) hs, if_neg (show ¬ nI 103 = 42 by decide), if_neg (show ¬ nI 103 = 43 by decide), if_neg (show ¬ nI 103 = 45 by decide), if_neg (show ¬ nI 103 = 60 by decide), if_neg (show ¬ nI 103 = 61 by decide), if_neg (show ¬ nI 103 = 97 by decide), if_neg (show ¬ nI 103 = 98 by decide), if_pos (show nI 103 = 103 from rfl)]
    unfold fX4_readStep_181
    rw [c_gI6 hCs, pb_bind, show hs_F (stX x n (nI 103)) 3 6 = nI a from x3, nI_1, c_pI6 hCs, pb_bind, c_ck6 (σ := hs_wF (stX x n (nI 103)) 3 6 (nI (a + 1))) hCs, pb_bind, il 2]
  · rw [ms_pre hM hU m8 (by omega) hs, if_neg (show ¬ nI 103 = 97 by decide), if_neg (show ¬ nI 103 = 98 by decide), if_neg (show ¬ nI 103 = 43 by decide), if_neg (show ¬ nI 103 = 45 by decide), if_neg (show ¬ nI 103 = 42 by decide), if_neg (show ¬ nI 103 = 61 by decide), if_neg (show ¬ nI 103 = 60 by decide), if_neg (show ¬ nI 103 = 111 by decide), if_neg (show ¬ nI 103 = 104 by decide)]
    unfold fX8_readsStep_66
    rw [if_neg (show ¬ nI 103 = 108 by decide), if_neg (show ¬ nI 103 = 115 by decide)]
    unfold fX8_readsStep_84
    rw [if_neg (show ¬ nI 103 = 106 by decide), if_pos (show nI 103 = 103 from rfl)]
    unfold fX8_readsStep_98 fX8_readsStep_103
    rw [if_pos rfl, if_pos rfl, if_neg o_nz]
    unfold fX8_readsStep_127
    rw [m_gI hM, pb_bind, m8, nI_1, m_pI hM, pb_bind, if_pos rfl]
    unfold fX8_readsStep_166
    rw [if_neg o_nz]
    unfold fX8_readsStep_177
    rw [if_neg o_nz]
    unfold fX8_readsStep_188
    rw [m_ck (σ := hs_wF m 8 0 (nI (a + 1))) hM, pb_bind, il 2]
theorem m_dig1 {d : Nat} (hM : mS m) (h : TM m tp b) (hF : hs_F m 8 0 = nI a) (ha : a ≤ tp) (hd : d < 10) (hs : sgn tp b a = nI (48 + d)) (hfu : 600 < fu) : fX8_digits fu m 0 1 = some (nI d, hs_wF m 8 0 (nI (a + 1))) := by
  have h120 := h.2.1
  obtain ⟨f, rfl⟩ : ∃ f, fu = f + 1 := ⟨fu - 1, by omega⟩
  unfold fX8_digits
  rw [m_ck hM, pb_bind, m_dig_y hM h hF (by omega) hd hs, pb_b2, if_neg o_nz, m_ck hM, pb_bind, m_sign hM h hF (by omega), pb_b2, hs, m_gI hM, pb_bind, hF, nI_1, m_pI hM, pb_bind, il 48, pk_sub (by omega), show 48 + d - 48 = d by omega]
  unfold fX8_digits_29
  rw [pb_lp0]
  show fX8_digits_29b (f + 1) _ (hs_wF m 8 0 (nI (a + 1))) 0 1 (nI d) 1 = _
  unfold fX8_digits_29b
  rw [if_pos (by decide)]
theorem cell_n (hb : ∀ i, i < tp → b i < 256) (h : sgn tp b a < 48 ∨ 57 < sgn tp b a) : sgn tp b a - 48 < 0 ∨ (¬ sgn tp b a - 48 < 0 ∧ ¬ sgn tp b a - 48 < 8) := by
  unfold sgn at h ⊢
  by_cases q : a < tp
  · rw [if_pos q] at h ⊢
    have hq := hb a q
    rcases h with h | h
    · have h2 : b a < 48 := (nI_ltI (b := 48) (by omega) (by decide)).mp h
      exact Or.inl (pk_sneg (b := 48) (by decide) h2)
    · have h2 : 57 < b a := (nI_ltI (a := 57) (by decide) (by omega)).mp h
      rw [il 48, pk_sub (by omega)]
      exact Or.inr ⟨nI_pos (by omega), nI_nlt (b := 8) (by omega) (by omega)⟩
  · rw [if_neg q]
    exact Or.inl (by decide)
theorem st_cell {s : Nat} (hC : cS x) (hM : mS m) (hT : TP x tp b) (hU : TM m tp b) (hb : ∀ i, i < tp → b i < 256) (hF : hs_F x 2 6 = nI n) (hn : n < 24) (x3 : hs_F x 3 6 = nI a) (m8 : hs_F m 8 0 = nI a) (m11 : hs_F m 11 0 = nI n) (ha : a < tp) (hfu : 600 < fu) (hok : ∀ v, v < 8 → okR s v) (hs112 : ¬ nI s = 112) {rc rm : Option (Int32 × hs_T)} (e1 : rc = hs_b2 (fX4_readCell fu (hs_wF (stX x n (nI s)) 3 6 (nI (a + 1))) 6 4) fun v50 σ48 => (hs_bz v50).bind fun _ => some (v50, σ48)) (e2 : rm = fX8_readsStep_127 fu m 0 (nI s) 0 1 0) : stO fu tp n x m rc rm := by
  have h120 := hT.2.1
  have fy : frR x (hs_wF (stX x n (nI s)) 3 6 (nI (a + 1))) := frR_tr stX_fr frR_F
  have fz : frS m (hs_wF m 8 0 (nI (a + 1))) := frS_8
  generalize hy : hs_wF (stX x n (nI s)) 3 6 (nI (a + 1)) = y at e1 fy
  generalize hz : hs_wF m 8 0 (nI (a + 1)) = z at fz
  have hCy : cS y := by subst hy; exact hC
  have hMz : mS z := by subst hz; exact hM
  have y3 : hs_F y 3 6 = nI (a + 1) := by subst hy; rw [pb_F_wF, if_pos ⟨rfl, rfl⟩]
  have y2 : hs_F y 2 6 = nI n := by subst hy; exact (wF_ne (by decide)).trans hF
  have z8 : hs_F z 8 0 = nI (a + 1) := by subst hz; rw [pb_F_wF, if_pos ⟨rfl, rfl⟩]
  have z11 : hs_F z 11 0 = nI n := by subst hz; exact (wF_ne (by decide)).trans m11
  have y7 : ∀ k, hs_R y 7 k = if k = n then nI s else hs_R x 7 k := by subst hy; exact stX_7
  have y8 : ∀ k, hs_R y 8 k = if k = n then nI 0 else hs_R x 8 k := by subst hy; exact stX_8
  have z6 : hs_R z 6 = hs_R m 6 := by subst hz; rfl
  have z7 : hs_R z 7 = hs_R m 7 := by subst hz; rfl
  have hTy := frR_TP fy hT
  have hUz := frS_TM fz hU
  have e3 : rm = ((hs_ck z 10 0).bind fun _ => hs_b2 (fX8_isDigit fu z 0) fun v41 σ39 => if v41 = 0 then some (0, σ39) else ((hs_ck σ39 10 0).bind fun _ => hs_b2 (fX8_sign fu σ39 0) fun v46 σ44 => if v46 ≤ 55 then ((hs_ck σ44 10 0).bind fun _ => hs_b2 (fX8_digits fu σ44 0 1) fun v51 σ49 => fX8_readsStep_166 fu σ49 0 (nI s) v51 0) else some (0, σ44))) := by
    rw [e2]
    unfold fX8_readsStep_127
    rw [m_gI hM, pb_bind, m8, nI_1, m_pI hM, pb_bind, if_neg o_nz, hz]
  unfold fX4_readCell at e1
  rw [c_gI6 hCy, pb_bind, y3, c_ck4 hCy, pb_bind, c_at hCy hTy (by omega), pb_b2] at e1
  rw [m_ck hMz, pb_bind] at e3
  rcases dg_cases tp b (a + 1) hb with ⟨d, d1, d2, d3, d4⟩ | e
  · rw [d4, il 48, pk_sub (by omega), show 48 + d - 48 = d by omega, if_neg (nI_pos (by omega))] at e1
    rw [m_dig_y hMz hUz z8 (by omega) d1 d4, pb_b2, if_neg o_nz, m_ck hMz, pb_bind, m_sign hMz hUz z8 (by omega), pb_b2, d4] at e3
    by_cases q : d < 8
    · rw [if_pos (show nI d < 8 from nI_lt (b := 8) q (by decide)), c_g1_6 hCy, pb_bind, c_gI6 hCy, pb_bind, y2, c_st8 hCy hn, pb_bind, c_gI6 (σ := hs_wR y 8 n (nI d)) hCy, pb_bind, show hs_F (hs_wR y 8 n (nI d)) 3 6 = nI (a + 1) from y3, nI_1, c_pI6 (σ := hs_wR y 8 n (nI d)) hCy, pb_bind, pb_b2, pb_bz1, pb_bind] at e1
      rw [if_pos (show nI (48 + d) ≤ 55 from nI_le (b := 55) (by omega) (by decide)), m_ck hMz, pb_bind, m_dig1 hMz hUz z8 (by omega) d1 d4 hfu, pb_b2] at e3
      unfold fX8_readsStep_166 at e3
      rw [if_pos rfl, if_neg hs112, m_198 (m := hs_wF z 8 0 (nI (a + 1 + 1))) hMz ((wF_ne (by decide)).trans z11) hn] at e3
      refine st_ok trivial (a' := a + 1 + 1) (s := s) (v := d) (z := hs_wF z 8 0 (nI (a + 1 + 1))) (by omega) (hok d q) (frR_tr fy (frR_tr frR_8 frR_F)) (frS_tr fz frS_8) ((wF_ne (by decide)).trans y2) (by rw [pb_F_wF, if_pos ⟨rfl, rfl⟩]) (by rw [pb_F_wF, if_pos ⟨rfl, rfl⟩]) (fun k => ?_) (fun k => ?_) z6 z7 e1 e3
      · show hs_R (hs_wR y 8 n (nI d)) 7 k = _
        rw [pb_R_wR, if_neg (by omega)]
        exact y7 k
      · show hs_R (hs_wR y 8 n (nI d)) 8 k = _
        rw [pb_R_wR]
        by_cases q : k = n
        · rw [if_pos ⟨rfl, q⟩, if_pos q]
        · rw [if_neg (fun z => q z.2), if_neg q]
          exact (y8 k).trans (if_neg q)
    · rw [if_neg (show ¬ nI d < 8 from nI_nlt (b := 8) (by omega) (by omega)), pb_b2, pb_bz0, pb_bind] at e1
      rw [if_neg (show ¬ nI (48 + d) ≤ 55 from nI_ge (a := 55) (by omega) (by omega))] at e3
      exact Or.inl ⟨y, z, a + 1, e1, e3, by omega, y3, z8, fy, fz⟩
  · rw [m_dig_n hMz hUz z8 (by omega) e, pb_b2, if_pos rfl] at e3
    refine Or.inl ⟨y, z, a + 1, ?_, e3, by omega, y3, z8, fy, fz⟩
    rw [e1]
    rcases cell_n hb e with q | ⟨q1, q2⟩
    · rw [if_pos q, pb_b2, pb_bz0, pb_bind]
    · rw [if_neg q1, if_neg q2, pb_b2, pb_bz0, pb_bind]
theorem st_108 (hC : cS x) (hM : mS m) (hT : TP x tp b) (hU : TM m tp b) (hb : ∀ i, i < tp → b i < 256) (hF : hs_F x 2 6 = nI n) (hn : n < 24) (x3 : hs_F x 3 6 = nI a) (m8 : hs_F m 8 0 = nI a) (m11 : hs_F m 11 0 = nI n) (ha : a < tp) (hfu : 600 < fu) (hs : sgn tp b a = nI 108) : stO fu tp n x m (fX4_readStep fu x 6 4) (fX8_readsStep fu m 0) := by
  have hCs : cS (stX x n (nI 108)) := hC
  refine st_cell (s := 108) hC hM hT hU hb hF hn x3 m8 m11 ha hfu (fun v hv => Or.inr (Or.inr (Or.inr ⟨Or.inl rfl, hv⟩))) (by decide) ?_ ?_
  · rw [rs_pre hC hT hF hn x3 (by omega) hs, if_neg (show ¬ nI 108 = 42 by decide), if_neg (show ¬ nI 108 = 43 by decide), if_neg (show ¬ nI 108 = 45 by decide), if_neg (show ¬ nI 108 = 60 by decide), if_neg (show ¬ nI 108 = 61 by decide), if_neg (show ¬ nI 108 = 97 by decide), if_neg (show ¬ nI 108 = 98 by decide), if_neg (show ¬ nI 108 = 103 by decide), if_neg (show ¬ nI 108 = 104 by decide), if_neg (show ¬ nI 108 = 106 by decide), if_pos (show nI 108 = 108 from rfl)]
    unfold fX4_readStep_198
    rw [c_gI6 hCs, pb_bind, show hs_F (stX x n (nI 108)) 3 6 = nI a from x3, nI_1, c_pI6 hCs, pb_bind, c_ck6 (σ := hs_wF (stX x n (nI 108)) 3 6 (nI (a + 1))) hCs, pb_bind]
  · rw [ms_pre hM hU m8 (by omega) hs, if_neg (show ¬ nI 108 = 97 by decide), if_neg (show ¬ nI 108 = 98 by decide), if_neg (show ¬ nI 108 = 43 by decide), if_neg (show ¬ nI 108 = 45 by decide), if_neg (show ¬ nI 108 = 42 by decide), if_neg (show ¬ nI 108 = 61 by decide), if_neg (show ¬ nI 108 = 60 by decide), if_neg (show ¬ nI 108 = 111 by decide), if_neg (show ¬ nI 108 = 104 by decide)]
    unfold fX8_readsStep_66
    rw [if_pos (show nI 108 = 108 from rfl)]
    unfold fX8_readsStep_79 fX8_readsStep_84
    rw [if_neg (show ¬ nI 108 = 106 by decide), if_neg (show ¬ nI 108 = 103 by decide)]
    unfold fX8_readsStep_103
    rw [if_pos rfl, if_neg o_nz]
theorem st_115 (hC : cS x) (hM : mS m) (hT : TP x tp b) (hU : TM m tp b) (hb : ∀ i, i < tp → b i < 256) (hF : hs_F x 2 6 = nI n) (hn : n < 24) (x3 : hs_F x 3 6 = nI a) (m8 : hs_F m 8 0 = nI a) (m11 : hs_F m 11 0 = nI n) (ha : a < tp) (hfu : 600 < fu) (hs : sgn tp b a = nI 115) : stO fu tp n x m (fX4_readStep fu x 6 4) (fX8_readsStep fu m 0) := by
  have hCs : cS (stX x n (nI 115)) := hC
  refine st_cell (s := 115) hC hM hT hU hb hF hn x3 m8 m11 ha hfu (fun v hv => Or.inr (Or.inr (Or.inr ⟨Or.inr rfl, hv⟩))) (by decide) ?_ ?_
  · rw [rs_pre hC hT hF hn x3 (by omega) hs, if_neg (show ¬ nI 115 = 42 by decide), if_neg (show ¬ nI 115 = 43 by decide), if_neg (show ¬ nI 115 = 45 by decide), if_neg (show ¬ nI 115 = 60 by decide), if_neg (show ¬ nI 115 = 61 by decide), if_neg (show ¬ nI 115 = 97 by decide), if_neg (show ¬ nI 115 = 98 by decide), if_neg (show ¬ nI 115 = 103 by decide), if_neg (show ¬ nI 115 = 104 by decide), if_neg (show ¬ nI 115 = 106 by decide), if_neg (show ¬ nI 115 = 108 by decide), if_neg (show ¬ nI 115 = 111 by decide), if_neg (show ¬ nI 115 = 112 by decide), if_pos (show nI 115 = 115 from rfl)]
    unfold fX4_readStep_198
    rw [c_gI6 hCs, pb_bind, show hs_F (stX x n (nI 115)) 3 6 = nI a from x3, nI_1, c_pI6 hCs, pb_bind, c_ck6 (σ := hs_wF (stX x n (nI 115)) 3 6 (nI (a + 1))) hCs, pb_bind]
  · rw [ms_pre hM hU m8 (by omega) hs, if_neg (show ¬ nI 115 = 97 by decide), if_neg (show ¬ nI 115 = 98 by decide), if_neg (show ¬ nI 115 = 43 by decide), if_neg (show ¬ nI 115 = 45 by decide), if_neg (show ¬ nI 115 = 42 by decide), if_neg (show ¬ nI 115 = 61 by decide), if_neg (show ¬ nI 115 = 60 by decide), if_neg (show ¬ nI 115 = 111 by decide), if_neg (show ¬ nI 115 = 104 by decide)]
    unfold fX8_readsStep_66
    rw [if_neg (show ¬ nI 115 = 108 by decide), if_pos (show nI 115 = 115 from rfl)]
    unfold fX8_readsStep_79 fX8_readsStep_84
    rw [if_neg (show ¬ nI 115 = 106 by decide), if_neg (show ¬ nI 115 = 103 by decide)]
    unfold fX8_readsStep_103
    rw [if_pos rfl, if_neg o_nz]
theorem st_no (hC : cS x) (hM : mS m) (hT : TP x tp b) (hU : TM m tp b) (hF : hs_F x 2 6 = nI n) (hn : n < 24) (x3 : hs_F x 3 6 = nI a) (m8 : hs_F m 8 0 = nI a) (ha : a ≤ tp) {s : Int32} (hs : sgn tp b a = s) (n42 : ¬ s = 42) (n43 : ¬ s = 43) (n45 : ¬ s = 45) (n60 : ¬ s = 60) (n61 : ¬ s = 61) (n97 : ¬ s = 97) (n98 : ¬ s = 98) (n103 : ¬ s = 103) (n104 : ¬ s = 104) (n106 : ¬ s = 106) (n108 : ¬ s = 108) (n111 : ¬ s = 111) (n112 : ¬ s = 112) (n115 : ¬ s = 115) : stO fu tp n x m (fX4_readStep fu x 6 4) (fX8_readsStep fu m 0) := by
  refine Or.inl ⟨stX x n s, m, a, ?_, ?_, ha, x3, m8, stX_fr, frS_rf⟩
  · rw [rs_pre hC hT hF hn x3 ha hs, if_neg n42, if_neg n43, if_neg n45, if_neg n60, if_neg n61, if_neg n97, if_neg n98, if_neg n103, if_neg n104, if_neg n106, if_neg n108, if_neg n111, if_neg n112, if_neg n115]
  · rw [ms_pre hM hU m8 ha hs, if_neg n97, if_neg n98, if_neg n43, if_neg n45, if_neg n42, if_neg n61, if_neg n60, if_neg n111, if_neg n104]
    unfold fX8_readsStep_66
    rw [if_neg n108, if_neg n115]
    unfold fX8_readsStep_84
    rw [if_neg n106, if_neg n103]
    unfold fX8_readsStep_103
    rw [if_pos rfl, if_pos rfl, if_pos rfl, if_neg n112]
theorem st_all (hC : cS x) (hM : mS m) (hT : TP x tp b) (hU : TM m tp b) (hb : ∀ i, i < tp → b i < 256) (hF : hs_F x 2 6 = nI n) (hn : n < 24) (x3 : hs_F x 3 6 = nI a) (m8 : hs_F m 8 0 = nI a) (m11 : hs_F m 11 0 = nI n) (ha : a ≤ tp) (hfu : 600 < fu) : stO fu tp n x m (fX4_readStep fu x 6 4) (fX8_readsStep fu m 0) := by
  by_cases q : a < tp
  · have hq := hb a q
    have hs : sgn tp b a = nI (b a) := if_pos q
    by_cases e42 : b a = 42
    · exact st_42 hC hM hT hU hb hF hn x3 m8 m11 q hfu (by rw [hs, e42])
    by_cases e43 : b a = 43
    · exact st_43 hC hM hT hU hb hF hn x3 m8 m11 q hfu (by rw [hs, e43])
    by_cases e45 : b a = 45
    · exact st_45 hC hM hT hU hb hF hn x3 m8 m11 q hfu (by rw [hs, e45])
    by_cases e60 : b a = 60
    · exact st_60 hC hM hT hU hb hF hn x3 m8 m11 q hfu (by rw [hs, e60])
    by_cases e61 : b a = 61
    · exact st_61 hC hM hT hU hb hF hn x3 m8 m11 q hfu (by rw [hs, e61])
    by_cases e97 : b a = 97
    · exact st_97 hC hM hT hU hb hF hn x3 m8 m11 q hfu (by rw [hs, e97])
    by_cases e98 : b a = 98
    · exact st_98 hC hM hT hU hb hF hn x3 m8 m11 q hfu (by rw [hs, e98])
    by_cases e103 : b a = 103
    · exact st_103 hC hM hT hU hb hF hn x3 m8 m11 q hfu (by rw [hs, e103])
    by_cases e104 : b a = 104
    · exact st_104 hC hM hT hU hb hF hn x3 m8 m11 q hfu (by rw [hs, e104])
    by_cases e106 : b a = 106
    · exact st_106 hC hM hT hU hb hF hn x3 m8 m11 q hfu (by rw [hs, e106])
    by_cases e108 : b a = 108
    · exact st_108 hC hM hT hU hb hF hn x3 m8 m11 q hfu (by rw [hs, e108])
    by_cases e111 : b a = 111
    · exact st_111 hC hM hT hU hb hF hn x3 m8 m11 q hfu (by rw [hs, e111])
    by_cases e112 : b a = 112
    · exact st_112 hC hM hT hU hb hF hn x3 m8 m11 q hfu (by rw [hs, e112])
    by_cases e115 : b a = 115
    · exact st_115 hC hM hT hU hb hF hn x3 m8 m11 q hfu (by rw [hs, e115])
    exact st_no hC hM hT hU hF hn x3 m8 ha hs (n_ne (b := 42) (by omega) (by decide) e42) (n_ne (b := 43) (by omega) (by decide) e43) (n_ne (b := 45) (by omega) (by decide) e45) (n_ne (b := 60) (by omega) (by decide) e60) (n_ne (b := 61) (by omega) (by decide) e61) (n_ne (b := 97) (by omega) (by decide) e97) (n_ne (b := 98) (by omega) (by decide) e98) (n_ne (b := 103) (by omega) (by decide) e103) (n_ne (b := 104) (by omega) (by decide) e104) (n_ne (b := 106) (by omega) (by decide) e106) (n_ne (b := 108) (by omega) (by decide) e108) (n_ne (b := 111) (by omega) (by decide) e111) (n_ne (b := 112) (by omega) (by decide) e112) (n_ne (b := 115) (by omega) (by decide) e115)
  · exact st_no hC hM hT hU hF hn x3 m8 ha (if_neg q) (by decide) (by decide) (by decide) (by decide) (by decide) (by decide) (by decide) (by decide) (by decide) (by decide) (by decide) (by decide) (by decide) (by decide)
end Step
