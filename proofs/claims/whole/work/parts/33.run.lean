/-! Pure part 4: a letter runs a program, on both sides alike -/
/-- what a run may change in the class's heap: the machine's scratch, the cells of the service n -/
def frX (x0 : hs_T) (n : Nat) (x : hs_T) : Prop := x.1 = x0.1 ∧ x.2.2.1 = x0.2.2.1 ∧ x.2.2.2.2 = x0.2.2.2.2 ∧ (∀ k q, q ≠ 9 → hs_F x k q = hs_F x0 k q) ∧ ∀ q, q ≠ 10 → q ≠ 11 → q ≠ n + 1 → hs_R x q = hs_R x0 q
def frM (m0 : hs_T) (p : Nat) (m : hs_T) : Prop := m.1 = m0.1 ∧ m.2.2.1 = m0.2.2.1 ∧ m.2.2.2.2 = m0.2.2.2.2 ∧ (∀ k, k ≠ 19 → k ≠ 20 → k ≠ 21 → hs_F m k 0 = hs_F m0 k 0) ∧ (∀ a, a ≠ 8 → a ≠ 9 → a ≠ 14 → hs_R m a = hs_R m0 a) ∧ ∀ i, (i < 8 * p ∨ 8 * p + 8 ≤ i) → hs_R m 8 i = hs_R m0 8 i
theorem cS_of {x x0 : hs_T} (h1 : x.1 = x0.1) (h2 : x.2.2.1 = x0.2.2.1) (h : cS x0) : cS x := by
  obtain ⟨T, F, G, R, O⟩ := x
  dsimp only at h1 h2
  subst h1 h2
  exact h
theorem mS_of {x x0 : hs_T} (h1 : x.1 = x0.1) (h2 : x.2.2.1 = x0.2.2.1) (h : mS x0) : mS x := by
  obtain ⟨T, F, G, R, O⟩ := x
  dsimp only at h1 h2
  subst h1 h2
  exact h
theorem sB_of {x x0 : hs_T} {n p : Nat} (h1 : x.1 = x0.1) (h2 : x.2.2.1 = x0.2.2.1) (h3 : ∀ k, hs_F x k n = hs_F x0 k n) (h : sB x0 n p) : sB x n p := by
  obtain ⟨T, F, G, R, O⟩ := x
  dsimp only at h1 h2
  subst h1 h2
  obtain ⟨a1, a2, a3, a4, a5, a6, a7, a8⟩ := h
  exact ⟨a1, a2, a3, a4, a5, a6, (h3 0).trans a7, (h3 1).trans a8⟩
theorem hs_K_of {x x0 : hs_T} (h : x.1 = x0.1) : hs_K x = hs_K x0 := congrArg (fun q => q.2.1) h
theorem hs_L_of {x x0 : hs_T} (h : x.1 = x0.1) : hs_L x = hs_L x0 := congrArg (fun q => q.2.2) h
theorem hs_N_of {x x0 : hs_T} (h : x.1 = x0.1) : hs_N x = hs_N x0 := congrArg (fun q => q.1) h
theorem frX_rf {x : hs_T} {n : Nat} : frX x n x := ⟨rfl, rfl, rfl, fun _ _ _ => rfl, fun _ _ _ _ => rfl⟩
theorem frM_rf {m : hs_T} {p : Nat} : frM m p m := ⟨rfl, rfl, rfl, fun _ _ _ _ => rfl, fun _ _ _ _ => rfl, fun _ _ => rfl⟩
theorem frX_F {x0 x : hs_T} {n k : Nat} {v : Int32} (h : frX x0 n x) : frX x0 n (hs_wF x k 9 v) := by
  refine ⟨h.1, h.2.1, h.2.2.1, fun k' q hq => ?_, h.2.2.2.2⟩
  rw [pb_F_wF, if_neg (fun z => hq z.2)]
  exact h.2.2.2.1 k' q hq
theorem frX_R {x0 x : hs_T} {n a i : Nat} {v : Int32} (h : frX x0 n x) (ha : a = 10 ∨ a = 11 ∨ a = n + 1) : frX x0 n (hs_wR x a i v) := by
  refine ⟨h.1, h.2.1, h.2.2.1, h.2.2.2.1, fun q h1 h2 h3 => ?_⟩
  have hne : q ≠ a := by
    rcases ha with r | r | r
    · rw [r]; exact h1
    · rw [r]; exact h2
    · rw [r]; exact h3
  exact (hs_up_row_ne hne).trans (h.2.2.2.2 q h1 h2 h3)
theorem frX_Row {x0 x : hs_T} {n a : Nat} {f : Nat → Int32} (h : frX x0 n x) (ha : a = 10 ∨ a = 11 ∨ a = n + 1) : frX x0 n (hs_wRow x a f) := by
  refine ⟨h.1, h.2.1, h.2.2.1, h.2.2.2.1, fun q h1 h2 h3 => ?_⟩
  have hne : q ≠ a := by
    rcases ha with r | r | r
    · rw [r]; exact h1
    · rw [r]; exact h2
    · rw [r]; exact h3
  exact (if_neg hne).trans (h.2.2.2.2 q h1 h2 h3)
theorem frM_F {m0 m : hs_T} {p k : Nat} {v : Int32} (h : frM m0 p m) (hk : k = 19 ∨ k = 20 ∨ k = 21) : frM m0 p (hs_wF m k 0 v) := by
  refine ⟨h.1, h.2.1, h.2.2.1, fun k' h1 h2 h3 => ?_, h.2.2.2.2⟩
  rw [pb_F_wF, if_neg (by intro z; obtain ⟨z, -⟩ := z; omega)]
  exact h.2.2.2.1 k' h1 h2 h3
theorem frM_R {m0 m : hs_T} {p a i : Nat} {v : Int32} (h : frM m0 p m) (ha : a = 9 ∨ a = 14) : frM m0 p (hs_wR m a i v) := by
  refine ⟨h.1, h.2.1, h.2.2.1, h.2.2.2.1, fun q h1 h2 h3 => ?_, fun j hj => ?_⟩
  · exact (hs_up_row_ne (by omega)).trans (h.2.2.2.2.1 q h1 h2 h3)
  · rw [pb_R_wR, if_neg (by omega)]
    exact h.2.2.2.2.2 j hj
theorem frM_R8 {m0 m : hs_T} {p c : Nat} {v : Int32} (h : frM m0 p m) (hc : c < 8) : frM m0 p (hs_wR m 8 (8 * p + c) v) := by
  refine ⟨h.1, h.2.1, h.2.2.1, h.2.2.2.1, fun q h1 h2 h3 => ?_, fun j hj => ?_⟩
  · exact (hs_up_row_ne (by omega)).trans (h.2.2.2.2.1 q h1 h2 h3)
  · rw [pb_R_wR, if_neg (by omega)]
    exact h.2.2.2.2.2 j hj
/-- the class's side of a run: height h, pile pl, cells cl (c0 ahead of the letter), fuel used fa -/
def cR (x0 : hs_T) (n : Nat) (c0 : Nat → Nat) (a b : Int32) (x : hs_T) (h : Nat) (pl cl : Nat → Nat) (fa : Nat) : Prop :=
  frX x0 n x ∧ hs_F x 2 9 = nI h ∧ hs_F x 3 9 = a ∧ hs_F x 4 9 = b ∧ hs_F x 5 9 = nI fa ∧ (∀ i, i < h → hs_R x 10 i = nI (pl i)) ∧ (∀ c, c < 8 → hs_R x (n + 1) c = nI (cl c)) ∧ ∀ c, c < 8 → hs_R x 11 c = nI (c0 c)
/-- the reference's side -/
def mR (m0 : hs_T) (p : Nat) (c0 : Nat → Nat) (m : hs_T) (h nx : Nat) (pl cl : Nat → Nat) (fa : Nat) : Prop :=
  frM m0 p m ∧ hs_F m 19 0 = nI h ∧ hs_F m 20 0 = nI nx ∧ hs_F m 21 0 = nI fa ∧ (∀ i, i < h → hs_R m 14 i = nI (pl i)) ∧ (∀ c, c < 8 → hs_R m 8 (8 * p + c) = nI (cl c)) ∧ ∀ c, c < 8 → hs_R m 9 c = nI (c0 c)
section Run
variable {fu : Nat} {x0 m0 x m : hs_T} {n p h nx fa : Nat} {c0 pl cl : Nat → Nat} {a b : Int32}
theorem cR_cS (hC : cS x0) (hx : cR x0 n c0 a b x h pl cl fa) : cS x := cS_of hx.1.1 hx.1.2.1 hC
theorem mR_mS (hM : mS m0) (hm : mR m0 p c0 m h nx pl cl fa) : mS m := mS_of hm.1.1 hm.1.2.1 hM
/-- the class's machine -/
theorem c_pull (hC : cS x) {k : Nat} (hk : k < 8) (hF : hs_F x 2 9 = nI (k + 1)) : fX1_pull fu x 9 = some (hs_R x 10 k, hs_wF x 2 9 (nI k)) := by
  unfold fX1_pull
  have e : hs_F (hs_wF x 2 9 (nI k)) 2 9 = nI k := by rw [pb_F_wF, if_pos ⟨rfl, rfl⟩]
  rw [c_gI9 hC, pb_bind, hF, if_pos (show (1 : Int32) ≤ nI (k + 1) from nI_le (a := 1) (by omega) (by omega)), pb_bind, nI_pred, c_pI9 hC, pb_bind, c_g0_9 (σ := hs_wF x 2 9 (nI k)) hC, pb_bind, c_gI9 (σ := hs_wF x 2 9 (nI k)) hC, pb_bind, e, c_ld10 (σ := hs_wF x 2 9 (nI k)) hC hk, pb_bind]
  rfl
theorem c_push (hC : cS x) {k : Nat} {v : Int32} (hk : k < 8) (hF : hs_F x 2 9 = nI k) : fX1_push fu x 9 v = some ((), hs_wF (hs_wR x 10 k v) 2 9 (nI (k + 1))) := by
  unfold fX1_push
  rw [c_gI9 hC, pb_bind, hF, if_neg (show ¬ (8 : Int32) ≤ nI k from nI_ge (b := 8) hk (by decide)), c_g0_9 hC, pb_bind, pb_bind, c_st10 hC hk, pb_bind, c_gI9 (σ := hs_wR x 10 k v) hC, pb_bind, show hs_F (hs_wR x 10 k v) 2 9 = nI k from hF, nI_1, c_pI9 (σ := hs_wR x 10 k v) hC, pb_bind]
theorem m_pushes (hM : mS m) {k : Nat} {v : Int32} (hk : k < 9) (hF : hs_F m 19 0 = nI k) : fX8_pushes fu m 0 v = some ((), hs_wF (hs_wR m 14 k v) 19 0 (nI (k + 1))) := by
  unfold fX8_pushes
  rw [m_g18 hM, pb_bind, m_gI hM, pb_bind, hF, m_st14 hM hk, pb_bind, m_gI (σ := hs_wR m 14 k v) hM, pb_bind, show hs_F (hs_wR m 14 k v) 19 0 = nI k from hF, nI_1, m_pI (σ := hs_wR m 14 k v) hM, pb_bind]
/-- what a push leaves -/
theorem cR_push (hn : 17 ≤ n) (hx : cR x0 n c0 a b x h pl cl fa) {v : Nat} : cR x0 n c0 a b (hs_wF (hs_wR x 10 h (nI v)) 2 9 (nI (h + 1))) (h + 1) (fun i => if i = h then v else pl i) cl fa := by
  obtain ⟨h1, h2, h3, h4, h5, h6, h7, h8⟩ := hx
  refine ⟨frX_F (frX_R h1 (Or.inl rfl)), ?_, ?_, ?_, ?_, fun i hi => ?_, fun c hc => ?_, fun c hc => ?_⟩
  · rw [pb_F_wF, if_pos ⟨rfl, rfl⟩]
  · rw [pb_F_wF, if_neg (by decide)]; exact h3
  · rw [pb_F_wF, if_neg (by decide)]; exact h4
  · rw [pb_F_wF, if_neg (by decide)]; exact h5
  · rw [pb_R_wF, pb_R_wR]
    by_cases hi2 : i = h
    · rw [if_pos ⟨rfl, hi2⟩]; simp only [if_pos hi2]
    · rw [if_neg (fun z => hi2 z.2)]; simp only [if_neg hi2]; exact h6 i (by omega)
  · rw [pb_R_wF, pb_R_wR, if_neg (by omega)]; exact h7 c hc
  · rw [pb_R_wF, pb_R_wR, if_neg (by omega)]; exact h8 c hc
theorem mR_push (hm : mR m0 p c0 m h nx pl cl fa) {v : Nat} : mR m0 p c0 (hs_wF (hs_wR m 14 h (nI v)) 19 0 (nI (h + 1))) (h + 1) nx (fun i => if i = h then v else pl i) cl fa := by
  obtain ⟨h1, h2, h3, h4, h6, h7, h8⟩ := hm
  refine ⟨frM_F (frM_R h1 (Or.inr rfl)) (Or.inl rfl), ?_, ?_, ?_, fun i hi => ?_, fun c hc => ?_, fun c hc => ?_⟩
  · rw [pb_F_wF, if_pos ⟨rfl, rfl⟩]
  · rw [pb_F_wF, if_neg (by decide)]; exact h3
  · rw [pb_F_wF, if_neg (by decide)]; exact h4
  · rw [pb_R_wF, pb_R_wR]
    by_cases hi2 : i = h
    · rw [if_pos ⟨rfl, hi2⟩]; simp only [if_pos hi2]
    · rw [if_neg (fun z => hi2 z.2)]; simp only [if_neg hi2]; exact h6 i (by omega)
  · rw [pb_R_wF, pb_R_wR, if_neg (by omega)]; exact h7 c hc
  · rw [pb_R_wF, pb_R_wR, if_neg (by omega)]; exact h8 c hc
/-- the top goes -/
theorem cR_pop (hx : cR x0 n c0 a b x (h + 1) pl cl fa) : cR x0 n c0 a b (hs_wF x 2 9 (nI h)) h pl cl fa := by
  obtain ⟨h1, h2, h3, h4, h5, h6, h7, h8⟩ := hx
  refine ⟨frX_F h1, ?_, ?_, ?_, ?_, fun i hi => h6 i (by omega), h7, h8⟩
  · rw [pb_F_wF, if_pos ⟨rfl, rfl⟩]
  · rw [pb_F_wF, if_neg (by decide)]; exact h3
  · rw [pb_F_wF, if_neg (by decide)]; exact h4
  · rw [pb_F_wF, if_neg (by decide)]; exact h5
theorem mR_pop (hm : mR m0 p c0 m (h + 1) nx pl cl fa) : mR m0 p c0 (hs_wF m 19 0 (nI h)) h nx pl cl fa := by
  obtain ⟨h1, h2, h3, h4, h6, h7, h8⟩ := hm
  refine ⟨frM_F h1 (Or.inl rfl), ?_, ?_, ?_, fun i hi => h6 i (by omega), h7, h8⟩
  · rw [pb_F_wF, if_pos ⟨rfl, rfl⟩]
  · rw [pb_F_wF, if_neg (by decide)]; exact h3
  · rw [pb_F_wF, if_neg (by decide)]; exact h4
theorem mR_next (hm : mR m0 p c0 m h nx pl cl fa) (k : Nat) : mR m0 p c0 (hs_wF m 20 0 (nI k)) h k pl cl fa := by
  obtain ⟨h1, h2, h3, h4, h6, h7, h8⟩ := hm
  refine ⟨frM_F h1 (Or.inr (Or.inl rfl)), ?_, ?_, ?_, h6, h7, h8⟩
  · rw [pb_F_wF, if_neg (by decide)]; exact h2
  · rw [pb_F_wF, if_pos ⟨rfl, rfl⟩]
  · rw [pb_F_wF, if_neg (by decide)]; exact h4
theorem cR_fuel (hx : cR x0 n c0 a b x h pl cl fa) (k : Nat) : cR x0 n c0 a b (hs_wF x 5 9 (nI k)) h pl cl k := by
  obtain ⟨h1, h2, h3, h4, h5, h6, h7, h8⟩ := hx
  refine ⟨frX_F h1, ?_, ?_, ?_, ?_, h6, h7, h8⟩
  · rw [pb_F_wF, if_neg (by decide)]; exact h2
  · rw [pb_F_wF, if_neg (by decide)]; exact h3
  · rw [pb_F_wF, if_neg (by decide)]; exact h4
  · rw [pb_F_wF, if_pos ⟨rfl, rfl⟩]
theorem mR_fuel (hm : mR m0 p c0 m h nx pl cl fa) (k : Nat) : mR m0 p c0 (hs_wF m 21 0 (nI k)) h nx pl cl k := by
  obtain ⟨h1, h2, h3, h4, h6, h7, h8⟩ := hm
  refine ⟨frM_F h1 (Or.inr (Or.inr rfl)), ?_, ?_, ?_, h6, h7, h8⟩
  · rw [pb_F_wF, if_neg (by decide)]; exact h2
  · rw [pb_F_wF, if_neg (by decide)]; exact h3
  · rw [pb_F_wF, if_pos ⟨rfl, rfl⟩]
theorem cR_cell (hn : 17 ≤ n) (hx : cR x0 n c0 a b x h pl cl fa) {d v : Nat} (hd : d < 8) : cR x0 n c0 a b (hs_wR x (n + 1) d (nI v)) h pl (fun c => if c = d then v else cl c) fa := by
  obtain ⟨h1, h2, h3, h4, h5, h6, h7, h8⟩ := hx
  refine ⟨frX_R h1 (Or.inr (Or.inr rfl)), h2, h3, h4, h5, fun i hi => ?_, fun c hc => ?_, fun c hc => ?_⟩
  · rw [pb_R_wR, if_neg (by omega)]; exact h6 i hi
  · rw [pb_R_wR]
    by_cases hc2 : c = d
    · rw [if_pos ⟨rfl, hc2⟩]; simp only [if_pos hc2]
    · rw [if_neg (fun z => hc2 z.2)]; simp only [if_neg hc2]; exact h7 c hc
  · rw [pb_R_wR, if_neg (by omega)]; exact h8 c hc
theorem mR_cell (hm : mR m0 p c0 m h nx pl cl fa) {d v : Nat} (hd : d < 8) : mR m0 p c0 (hs_wR m 8 (8 * p + d) (nI v)) h nx pl (fun c => if c = d then v else cl c) fa := by
  obtain ⟨h1, h2, h3, h4, h6, h7, h8⟩ := hm
  refine ⟨frM_R8 h1 hd, h2, h3, h4, fun i hi => ?_, fun c hc => ?_, fun c hc => ?_⟩
  · rw [pb_R_wR, if_neg (by omega)]; exact h6 i hi
  · rw [pb_R_wR]
    by_cases hc2 : c = d
    · rw [if_pos ⟨rfl, by omega⟩]; simp only [if_pos hc2]
    · rw [if_neg (by omega)]; simp only [if_neg hc2]; exact h7 c hc
  · rw [pb_R_wR, if_neg (by omega)]; exact h8 c hc
theorem mR_top (hm : mR m0 p c0 m h nx pl cl fa) {d v : Nat} : mR m0 p c0 (hs_wR m 14 d (nI v)) h nx (fun i => if i = d then v else pl i) cl fa := by
  obtain ⟨h1, h2, h3, h4, h6, h7, h8⟩ := hm
  refine ⟨frM_R h1 (Or.inr rfl), h2, h3, h4, fun i hi => ?_, fun c hc => ?_, fun c hc => ?_⟩
  · rw [pb_R_wR]
    by_cases hi2 : i = d
    · rw [if_pos ⟨rfl, hi2⟩]; simp only [if_pos hi2]
    · rw [if_neg (fun z => hi2 z.2)]; simp only [if_neg hi2]; exact h6 i hi
  · rw [pb_R_wR, if_neg (by omega)]; exact h7 c hc
  · rw [pb_R_wR, if_neg (by omega)]; exact h8 c hc
/-- two become one -/
def opN (sg u w : Nat) : Nat := if sg = 42 then u * w % 10000 else if sg = 43 then (u + w) % 10000 else if sg = 45 then (u + 10000 - w) % 10000 else if sg = 61 then (if u = w then 1 else 0) else (if u < w then 1 else 0)
theorem opN_lt {sg u w : Nat} : opN sg u w < 10000 := by
  unfold opN
  repeat' split
  all_goals first | exact Nat.mod_lt _ (by decide) | decide
theorem n_sub10 {u w : Nat} (hw : w < 10000) : nI u - nI w + nI 10000 = nI (u + 10000 - w) := by
  have e : nI u - nI w + nI 10000 = nI (u + 10000) - nI w := by
    rw [← nI_add]
    rw [Int32.sub_eq_add_neg, Int32.sub_eq_add_neg, Int32.add_assoc, Int32.add_assoc, Int32.add_comm (-nI w)]
  rw [e, pk_sub (by omega)]
theorem n_if {α : Type} {sg k : Nat} (hs : sg < 1000) (hk : k < 1000) {A B : α} : (if nI sg = nI k then A else B) = if sg = k then A else B := by
  by_cases h : sg = k
  · rw [if_pos h, if_pos (by rw [h])]
  · rw [if_neg h, if_neg (n_ne (by omega) (by omega) h)]
theorem c_joined {sg u w : Nat} (hs : sg < 1000) (hu : u < 10000) (hw : w < 10000) : fX1_joined fu x (nI sg) (nI u) (nI w) = some (nI (opN sg u w), x) := by
  unfold fX1_joined opN
  have hm : u * w < 2 ^ 31 := Nat.lt_of_le_of_lt (Nat.mul_le_mul (Nat.le_of_lt hu) (Nat.le_of_lt hw)) (by decide)
  simp only [show (42 : Int32) = nI 42 from rfl, show (43 : Int32) = nI 43 from rfl, show (45 : Int32) = nI 45 from rfl, show (61 : Int32) = nI 61 from rfl, show (10000 : Int32) = nI 10000 from rfl, n_if hs (show 42 < 1000 by decide), n_if hs (show 43 < 1000 by decide), n_if hs (show 45 < 1000 by decide), n_if hs (show 61 < 1000 by decide), n_sub10 hw, pk_mul, nI_add]
  by_cases e1 : sg = 42
  · rw [if_pos e1, if_pos e1, n_rem (by omega) (by decide) (by decide)]
  rw [if_neg e1, if_neg e1]
  by_cases e2 : sg = 43
  · rw [if_pos e2, if_pos e2, n_rem (by omega) (by decide) (by decide)]
  rw [if_neg e2, if_neg e2]
  by_cases e3 : sg = 45
  · rw [if_pos e3, if_pos e3, n_rem (by omega) (by decide) (by decide)]
  rw [if_neg e3, if_neg e3]
  by_cases e4 : sg = 61
  · rw [if_pos e4, if_pos e4]
    by_cases h : u = w
    · rw [if_pos (show nI u = nI w by rw [h]), if_pos h]; rfl
    · rw [if_neg (n_ne (by omega) (by omega) h), if_neg h]; rfl
  rw [if_neg e4, if_neg e4]
  by_cases h : u < w
  · rw [if_neg (nI_ge h (by omega)), if_pos h]; rfl
  · rw [if_pos (nI_le (Nat.le_of_not_lt h) (by omega)), if_neg h]; rfl
theorem m_of {sg u w : Nat} (hs : sg < 1000) (hu : u < 10000) (hw : w < 10000) : fX8_of fu m (nI u) (nI w) (nI sg) = some (nI (opN sg u w), m) := by
  unfold fX8_of opN
  have hm : u * w < 2 ^ 31 := Nat.lt_of_le_of_lt (Nat.mul_le_mul (Nat.le_of_lt hu) (Nat.le_of_lt hw)) (by decide)
  simp only [show (42 : Int32) = nI 42 from rfl, show (43 : Int32) = nI 43 from rfl, show (45 : Int32) = nI 45 from rfl, show (61 : Int32) = nI 61 from rfl, show (10000 : Int32) = nI 10000 from rfl, n_if hs (show 42 < 1000 by decide), n_if hs (show 43 < 1000 by decide), n_if hs (show 45 < 1000 by decide), n_if hs (show 61 < 1000 by decide), n_sub10 hw, nI_add]
  by_cases e1 : sg = 42
  · rw [if_pos e1, if_pos e1, nI_l (by omega), nI_l (by omega), lN_mul, show (10000 : Int64) = lN 10000 from rfl, pk_lRem (by omega) (by decide) (by decide), lN_i]
  rw [if_neg e1, if_neg e1]
  by_cases e2 : sg = 43
  · rw [if_pos e2, if_pos e2, n_rem (by omega) (by decide) (by decide)]
  rw [if_neg e2, if_neg e2]
  by_cases e3 : sg = 45
  · rw [if_pos e3, if_pos e3, n_rem (by omega) (by decide) (by decide)]
  rw [if_neg e3, if_neg e3]
  by_cases e4 : sg = 61
  · rw [if_pos e4, if_pos e4]
    by_cases h : u = w
    · rw [if_pos (show nI u = nI w by rw [h]), if_pos h]; rfl
    · rw [if_neg (n_ne (by omega) (by omega) h), if_neg h]; rfl
  rw [if_neg e4, if_neg e4]
  by_cases h : u < w
  · rw [if_neg (nI_ge h (by omega)), if_pos h]; rfl
  · rw [if_pos (nI_le (Nat.le_of_not_lt h) (by omega)), if_neg h]; rfl
end Run
