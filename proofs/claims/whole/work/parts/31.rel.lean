/-! Pure part 2: the relation between the class's heap x and the reference's heap m -/
/-- the number of a service's block: its object n, then seven rows -/
def sB (x : hs_T) (n p : Nat) : Prop := 17 ≤ n ∧ n + 8 ≤ hs_N x ∧ hs_K x n = 7 ∧ (hs_K x (n + 1) = 11 ∧ hs_K x (n + 2) = 11 ∧ hs_K x (n + 3) = 11 ∧ hs_K x (n + 4) = 11 ∧ hs_K x (n + 5) = 11 ∧ hs_K x (n + 6) = 11 ∧ hs_K x (n + 7) = 11) ∧
  (hs_L x (n + 1) = 8 ∧ hs_L x (n + 2) = 101 ∧ hs_L x (n + 3) = 500 ∧ hs_L x (n + 4) = 3 ∧ hs_L x (n + 5) = 3 ∧ hs_L x (n + 6) = 3 ∧ hs_L x (n + 7) = 3) ∧
  (hs_G x 2 n = some (n + 1) ∧ hs_G x 3 n = some (n + 2) ∧ hs_G x 4 n = some (n + 3) ∧ hs_G x 5 n = some (n + 4) ∧ hs_G x 6 n = some (n + 5) ∧ hs_G x 7 n = some (n + 6) ∧ hs_G x 8 n = some (n + 7)) ∧
  hs_F x 0 n = nI (p / 3) ∧ hs_F x 1 n = nI (p % 3)
/-- the services' list -/
def capOK (c : Nat) : Prop := c = 10 ∨ c = 15 ∨ c = 22 ∨ c = 33 ∨ c = 49 ∨ c = 73 ∨ c = 109 ∨ c = 163 ∨ c = 244 ∨ c = 366 ∨ c = 549
/-- a list l of c elements -/
def lS (x : hs_T) (l c : Nat) (el : Nat → Nat) : Prop := hs_F x 2 l = nI c ∧ ((c = 0 ∧ hs_G x 1 l = some hs_em) ∨ ∃ ed, hs_G x 1 l = some ed ∧ hs_K x ed = 13 ∧ 17 ≤ ed ∧ ed < hs_N x ∧ c ≤ hs_L x ed ∧ capOK (hs_L x ed) ∧ ∀ i, i < c → hs_O x ed i = some (el i))
def rV (T : Nat) (sv : Nat → Nat) (x : hs_T) : Prop := (∀ p, p < 3 * T → sB x (sv p) p) ∧ lS x 2 (3 * T) sv
def rN (T Rd nh : Nat) (x m : hs_T) : Prop := T ≤ 5 ∧ Rd ≤ 100 ∧ hs_F m 0 0 = nI T ∧ hs_F m 1 0 = nI Rd ∧ hs_F x 8 0 = nI Rd ∧ hs_F x 2 2 = nI (3 * T) ∧ hs_F x 9 0 = hs_F m 30 0 ∧ hs_F x 5 9 = hs_F m 21 0 ∧ hs_F x 2 3 = nI nh ∧ hs_F m 38 0 = nI nh ∧ (0 < Rd → 0 < T) ∧ ∃ fa, fa < 1000000 ∧ hs_F m 21 0 = nI fa
def rS (st : Nat → Nat) (x m : hs_T) : Prop := (∀ w, w < 7 → hs_R x 1 w = nI (st w) ∧ hs_R m 13 w = nI (st w)) ∧ 1 ≤ st 0 ∧ st 0 ≤ 500 ∧ st 1 ≤ 999 ∧ 1 ≤ st 2 ∧ st 2 ≤ 9 ∧ st 3 ≤ 100 ∧ st 4 ≤ 9999 ∧ st 5 ≤ 9999 ∧ st 6 ≤ 9999
def rT (x m : hs_T) : Prop := ∃ tp, tp ≤ 120 ∧ hs_F x 1 4 = nI tp ∧ hs_F m 7 0 = nI tp ∧ ∀ i, i < tp → ∃ b, b < 256 ∧ hs_R x 5 i = nI b ∧ hs_R m 1 i = nI b
def rL (T : Nat) (x m : hs_T) : Prop := ∃ lt, lt ≤ 400 ∧ hs_F x 3 12 = nI lt ∧ hs_F m 28 0 = nI lt ∧ ∀ i, i < lt → (∃ p, p < 3 * T ∧ hs_R x 13 i = nI p ∧ hs_R m 15 i = nI p) ∧ hs_R x 14 i = hs_R m 16 i ∧ hs_R x 15 i = hs_R m 17 i
/-- a step of a program of n steps -/
def okS (n sg nm : Nat) : Prop := (sg = 97 ∨ sg = 98 ∨ sg = 111 ∨ sg = 104 ∨ sg = 43 ∨ sg = 45 ∨ sg = 42 ∨ sg = 61 ∨ sg = 60) ∨ (sg = 112 ∧ nm ≤ 9999) ∨ ((sg = 106 ∨ sg = 103) ∧ nm < n) ∨ ((sg = 108 ∨ sg = 115) ∧ nm < 8)
/-- a program object g of n steps (signs sg, numbers nm) is what the reference holds in its place i -/
def pQ (x m : hs_T) (g i n : Nat) (sg nm : Nat → Nat) : Prop := 17 ≤ g ∧ g + 3 ≤ hs_N x ∧ hs_K x g = 5 ∧ hs_K x (g + 1) = 11 ∧ hs_K x (g + 2) = 11 ∧ hs_G x 1 g = some (g + 1) ∧ hs_G x 2 g = some (g + 2) ∧ 1 ≤ n ∧ n ≤ 24 ∧ hs_F x 0 g = nI n ∧ hs_R m 4 i = nI n ∧ hs_L x (g + 1) = n ∧ hs_L x (g + 2) = n ∧ ∀ k, k < n → okS n (sg k) (nm k) ∧ hs_R x (g + 1) k = nI (sg k) ∧ hs_R m 2 (24 * i + k) = nI (sg k) ∧ hs_R x (g + 2) k = nI (nm k) ∧ hs_R m 3 (24 * i + k) = nI (nm k)
def pG (x m : hs_T) (g i : Nat) : Prop := ∃ n sg nm, pQ x m g i n sg nm
def rP (T : Nat) (sv : Nat → Nat) (x m : hs_T) : Prop := ∀ p, p < 3 * T → ((hs_G x 9 (sv p) = none ∧ hs_R m 4 p = nI 0) ∨ ∃ g, hs_G x 9 (sv p) = some g ∧ pG x m g p) ∧ ((hs_G x 10 (sv p) = none ∧ hs_R m 5 p = nI 0) ∨ ∃ g, hs_G x 10 (sv p) = some g ∧ hs_R m 5 p = nI 1 ∧ pG x m g (p + 15))
/-- cells, counts -/
def rC (T Rd : Nat) (sv : Nat → Nat) (x m : hs_T) : Prop := ∀ p, p < 3 * T → (∀ c, c < 8 → ∃ v, v < 10000 ∧ hs_R x (sv p + 1) c = nI v ∧ hs_R m 8 (8 * p + c) = nI v) ∧ hs_F x 11 (sv p) = hs_R m 10 p ∧ hs_F x 12 (sv p) = hs_R m 11 p ∧
  hs_R x (sv p + 2) Rd = hs_R m 12 p ∧ hs_R x (sv p + 2) 0 = nI 0 ∧ (∀ r, r < Rd → ∃ u, u < 2 ∧ hs_R m 21 (15 * r + p) = nI u ∧ hs_R x (sv p + 2) (r + 1) = hs_R x (sv p + 2) r + nI u)
/-- the latest checks -/
def rK (T Rd : Nat) (sv : Nat → Nat) (x m : hs_T) : Prop := 0 < Rd → ∀ p, p < 3 * T → ∀ i, i < 3 → hs_R x (sv p + 4) i = hs_R m 22 (3 * p + i) ∧ hs_R x (sv p + 5) i = hs_R m 23 (3 * p + i) ∧ hs_R x (sv p + 6) i = hs_R m 24 (3 * p + i) ∧ hs_R x (sv p + 7) i = hs_R m 25 (3 * p + i)
def sm (f : Nat → Int32) : Nat → Int32
  | 0 => 0
  | n + 1 => sm f n + f n
/-- a letter of the reference's older ones is like a check of service p -/
def lkM (m : hs_T) (p k : Nat) : Prop := hs_R m 18 k = nI p ∧ ((hs_R m 19 k = hs_R m 22 (3 * p) + 1 ∧ hs_R m 20 k = hs_R m 23 (3 * p)) ∨ (hs_R m 19 k = hs_R m 22 (3 * p + 1) + 1 ∧ hs_R m 20 k = hs_R m 23 (3 * p + 1)) ∨ (hs_R m 19 k = hs_R m 22 (3 * p + 2) + 1 ∧ hs_R m 20 k = hs_R m 23 (3 * p + 2)))
def rA (T Rd : Nat) (sv : Nat → Nat) (x m : hs_T) : Prop := 0 < Rd → ∃ ah, ah ≤ 400 ∧ hs_F m 29 0 = nI ah ∧ ∀ p, p < 3 * T → ∃ cn : Nat → Int32, (∀ k, k < ah → (lkM m p k → cn k = 1) ∧ (¬ lkM m p k → cn k = 0)) ∧ hs_F x 13 (sv p) = sm cn ah
/-- which flags were handed in, and when -/
def rH (T Rd : Nat) (sv : Nat → Nat) (x m : hs_T) : Prop := ∀ p, p < 3 * T → ∀ b, b < 5 → ∀ r, r < 100 → ∃ v, v ≤ Rd ∧ hs_R x (sv p + 3) (b * 100 + r) = nI v ∧ hs_R m 27 (75 * r + 5 * p + b) = nI v ∧ (v ≠ 0 → r < Rd ∧ b < T ∧ b ≠ p / 3)
/-- the sum over all flags that were handed in -/
def smH (T Rd : Nat) (m : hs_T) (φ : Nat → Nat → Nat → Int32) : Int32 := sm (fun r => sm (fun p => sm (fun b => if hs_R m 27 (75 * r + 5 * p + b) = 0 then 0 else φ b p r) T) (3 * T)) Rd
/-- the log: hn: the objects; by hb, of the service hp, the flag of the round hr -/
def rG (T Rd nh : Nat) (sv hn hb hp hr : Nat → Nat) (x m : hs_T) : Prop := lS x 3 nh hn ∧ (∀ e, hs_G x 1 2 = some e → hs_G x 1 3 = some e → e = hs_em) ∧ (∀ j, j < nh → hs_K x (hn j) = 2 ∧ 17 ≤ hn j ∧ hn j < hs_N x ∧ hs_F x 0 (hn j) = nI (hb j) ∧ hs_G x 1 (hn j) = some (sv (hp j)) ∧ hs_F x 2 (hn j) = nI (hr j) ∧ hb j < T ∧ hp j < 3 * T ∧ hr j < Rd) ∧ ∀ φ : Nat → Nat → Nat → Int32, sm (fun j => φ (hb j) (hp j) (hr j)) nh = smH T Rd m φ
/-- the reference's places that no team has yet -/
def rZ (T : Nat) (m : hs_T) : Prop := (∀ i, 3 * T ≤ i → i < 15 → hs_R m 4 i = nI 0 ∧ hs_R m 5 i = nI 0 ∧ hs_R m 10 i = nI 0 ∧ hs_R m 11 i = nI 0 ∧ hs_R m 12 i = nI 0) ∧ (∀ i, 24 * T ≤ i → i < 120 → hs_R m 8 i = nI 0) ∧ ∀ p, 3 * T ≤ p → p < 15 → ∀ r, r < 100 → ∀ b, b < 5 → hs_R m 27 (75 * r + 5 * p + b) = nI 0
def rO (T Rd : Nat) (m : hs_T) : Prop := (∀ i, i < 18 → hs_R m 26 i = hs_t3 i) ∧ (Rd = 0 → rZ T m)
/-- the two heaps are of one game, after at most c calls -/
def Rl (c T Rd nh : Nat) (st sv hn hb hp hr : Nat → Nat) (x m : hs_T) : Prop := mS m ∧ cS x ∧ hs_N x ≤ 17 + 30 * c ∧ nh ≤ c ∧ rN T Rd nh x m ∧ rS st x m ∧ rT x m ∧ rL T x m ∧ rV T sv x ∧ rP T sv x m ∧ rC T Rd sv x m ∧ rK T Rd sv x m ∧ rA T Rd sv x m ∧ rH T Rd sv x m ∧ rG T Rd nh sv hn hb hp hr x m ∧ rO T Rd m
def Rel (c : Nat) (x m : hs_T) : Prop := ∃ (T Rd nh : Nat) (st sv hn hb hp hr : Nat → Nat), Rl c T Rd nh st sv hn hb hp hr x m
/-! small things about numbers -/
theorem fa_lt (a b : Int32) : a < b ↔ a.toInt < b.toInt := Int32.lt_iff_toInt_lt
theorem fa_le (a b : Int32) : a ≤ b ↔ a.toInt ≤ b.toInt := Int32.le_iff_toInt_le
theorem fa_wide_lt (a b : Int32) : a.toInt64 < b.toInt64 ↔ a < b := by
  rw [Int64.lt_iff_toInt_lt, fa_lt, Int32.toInt_toInt64, Int32.toInt_toInt64]
theorem n_ne {a b : Nat} (ha : a < 2 ^ 31) (hb : b < 2 ^ 31) (h : a ≠ b) : ¬ nI a = nI b := fun e => h ((nI_eq ha hb).mp e)
theorem n_nlt {a b : Int32} (h : b ≤ a) : ¬ a < b := by
  rw [fa_lt]
  rw [fa_le] at h
  omega
theorem n_nlt3 {a : Int32} (h : nI 3 ≤ a) : ¬ a < 3 := n_nlt h
theorem n_z {a : Nat} (h0 : 0 < a) (ha : a < 2 ^ 31) : ¬ nI a = 0 := nI_ne0 h0 ha
theorem pl_cases (T : Nat) (hT : T ≤ 5) (t s : Int32) : (∃ a b, a < T ∧ b < 3 ∧ t = nI a ∧ s = nI b) ∨ ((t < 0 ∨ nI T ≤ t) ∨ ((∃ a, a < T ∧ t = nI a) ∧ (s < 0 ∨ nI 3 ≤ s))) := by
  rcases pk_ix t (n := T) (by omega) with h | h | ⟨a, ha, rfl⟩
  · exact Or.inr (Or.inl (Or.inl h))
  · exact Or.inr (Or.inl (Or.inr h))
  · rcases pk_ix s (n := 3) (by omega) with h | h | ⟨b, hb, rfl⟩
    · exact Or.inr (Or.inr ⟨⟨a, ha, rfl⟩, Or.inl h⟩)
    · exact Or.inr (Or.inr ⟨⟨a, ha, rfl⟩, Or.inr h⟩)
    · exact Or.inl ⟨a, b, ha, hb, rfl, rfl⟩
/-- no place -/
def noP (T : Nat) (t s : Int32) : Prop := (t < 0 ∨ nI T ≤ t) ∨ ((∃ a, a < T ∧ t = nI a) ∧ (s < 0 ∨ nI 3 ≤ s))
/-! the reference's small methods -/
theorem m_isIn {fu : Nat} {σ : hs_T} (v l h : Int64) : fX8_isIn fu σ v l h = some (if v < l ∨ h < v then 0 else 1, σ) := by
  unfold fX8_isIn
  by_cases h1 : v < l
  · rw [if_pos ((lg_cmp_lt v l).mpr h1), if_pos (Or.inl h1)]
  · rw [if_neg (fun z => h1 ((lg_cmp_lt v l).mp z))]
    by_cases h2 : h < v
    · rw [if_pos ((lg_cmp_gt v h).mpr h2), if_pos (Or.inr h2)]
    · rw [if_neg (fun z => h2 ((lg_cmp_gt v h).mp z)), if_neg (by intro z; rcases z with z | z; exact h1 z; exact h2 z)]
theorem m_isIn_y {fu : Nat} {σ : hs_T} {a b : Int32} {l h : Int64} (hl : l = (nI 0).toInt64) (hh : h = b.toInt64) (h1 : ¬ a < 0) (h2 : ¬ b < a) : fX8_isIn fu σ a.toInt64 l h = some (1, σ) := by
  rw [m_isIn, hl, hh, if_neg]
  intro z
  rcases z with z | z
  · exact h1 ((fa_wide_lt a (nI 0)).mp z)
  · exact h2 ((fa_wide_lt b a).mp z)
theorem m_isIn_n {fu : Nat} {σ : hs_T} {a b : Int32} {l h : Int64} (hl : l = (nI 0).toInt64) (hh : h = b.toInt64) (h1 : a < 0 ∨ b < a) : fX8_isIn fu σ a.toInt64 l h = some (0, σ) := by
  rw [m_isIn, hl, hh, if_pos]
  rcases h1 with z | z
  · exact Or.inl ((fa_wide_lt a (nI 0)).mpr z)
  · exact Or.inr ((fa_wide_lt b a).mpr z)
/-- 0 .. n - 1, as the reference asks it -/
theorem m_rng_y {fu : Nat} {σ : hs_T} {j n : Nat} {l h : Int64} (hl : l = (nI 0).toInt64) (hh : h = (nI (n - 1)).toInt64) (hj : j < n) (hn : n < 100000) : fX8_isIn fu σ (nI j).toInt64 l h = some (1, σ) := m_isIn_y hl hh (nI_pos (by omega)) (nI_nlt (by omega) (by omega))
theorem m_rng_n {fu : Nat} {σ : hs_T} {a : Int32} {n : Nat} {l h : Int64} (hl : l = (nI 0).toInt64) (hh : h = (nI (n - 1)).toInt64) (hn0 : 0 < n) (hn : n < 100000) (ha : a < 0 ∨ nI n ≤ a) : fX8_isIn fu σ a.toInt64 l h = some (0, σ) := m_isIn_n hl hh (ha.imp id (fun z => by
  rw [fa_lt]
  rw [fa_le, nI_toInt (by omega)] at z
  rw [nI_toInt (by omega)]
  omega))
theorem m_isTeam_y {fu : Nat} {σ : hs_T} (hM : mS σ) {T j : Nat} (hT : hs_F σ 0 0 = nI T) (h5 : T ≤ 5) (hj : j < T) : fX8_isTeam fu σ 0 (nI j) = some (1, σ) := by
  unfold fX8_isTeam
  rw [if_neg (nI_pos (by omega)), m_gI hM, pb_bind, hT, if_neg (nI_ge hj (by omega))]
theorem m_isTeam_n {fu : Nat} {σ : hs_T} (hM : mS σ) {T : Nat} {t : Int32} (hT : hs_F σ 0 0 = nI T) (h : t < 0 ∨ nI T ≤ t) : fX8_isTeam fu σ 0 t = some (0, σ) := by
  unfold fX8_isTeam
  by_cases h1 : t < 0
  · rw [if_pos h1]
  · rw [if_neg h1, m_gI hM, pb_bind, hT, if_pos (h.resolve_left h1)]
theorem m_isPlace_y {fu : Nat} {σ : hs_T} (hM : mS σ) {T a b : Nat} (hT : hs_F σ 0 0 = nI T) (h5 : T ≤ 5) (ha : a < T) (hb : b < 3) : fX8_isPlace fu σ 0 (nI a) (nI b) = some (1, σ) := by
  unfold fX8_isPlace
  rw [m_ck hM, pb_bind, m_isTeam_y hM hT h5 ha, pb_b2, if_neg (by decide), m_rng_y (n := 3) (l := 0) (h := 2) rfl rfl hb (by decide), pb_b2, if_neg (by decide)]
theorem m_isPlace_n {fu : Nat} {σ : hs_T} (hM : mS σ) {T : Nat} {t s : Int32} (hT : hs_F σ 0 0 = nI T) (h5 : T ≤ 5) (h : noP T t s) : fX8_isPlace fu σ 0 t s = some (0, σ) := by
  unfold fX8_isPlace
  rcases h with h | ⟨⟨a, ha, rfl⟩, h⟩
  · rw [m_ck hM, pb_bind, m_isTeam_n hM hT h, pb_b2, if_pos rfl]
  · rw [m_ck hM, pb_bind, m_isTeam_y hM hT h5 ha, pb_b2, if_neg (by decide), m_rng_n (n := 3) (l := 0) (h := 2) rfl rfl (by decide) (by decide) h, pb_b2, if_pos rfl]
/-! the class's small methods -/
theorem c_size {fu : Nat} {σ : hs_T} {n : Nat} (h : hs_K σ n = 1) (h2 : n < hs_N σ) : fJx4a65c_size_8abf5 fu σ n = some (hs_F σ 2 n, σ) := by
  unfold fJx4a65c_size_8abf5
  rw [pb_gI h h2, pb_bind]
theorem c_teams {fu : Nat} {σ : hs_T} (hC : cS σ) {T : Nat} (hT : hs_F σ 2 2 = nI (3 * T)) (h5 : T ≤ 5) : fX7_teams fu σ 0 = some (nI T, σ) := by
  unfold fX7_teams
  rw [c_g1_0 hC, pb_bind, c_ck2 hC, pb_bind]
  unfold fJx4a65c_size_8abf5
  rw [c_gI2 hC, pb_bind, pb_b2, hT, show (3 : Int32) = nI 3 from rfl, pb_div (by omega) (by decide) (by decide), Nat.mul_div_cancel_left T (by decide)]
theorem c_isTeam_y {fu : Nat} {σ : hs_T} (hC : cS σ) {T j : Nat} (hT : hs_F σ 2 2 = nI (3 * T)) (h5 : T ≤ 5) (hj : j < T) : fX7_isTeam fu σ 0 (nI j) = some (1, σ) := by
  unfold fX7_isTeam
  rw [if_neg (nI_pos (by omega)), c_ck0 hC, pb_bind, c_teams hC hT h5, pb_b2, if_neg (nI_ge hj (by omega))]
theorem c_isTeam_n {fu : Nat} {σ : hs_T} (hC : cS σ) {T : Nat} {t : Int32} (hT : hs_F σ 2 2 = nI (3 * T)) (h5 : T ≤ 5) (h : t < 0 ∨ nI T ≤ t) : fX7_isTeam fu σ 0 t = some (0, σ) := by
  unfold fX7_isTeam
  by_cases h1 : t < 0
  · rw [if_pos h1]
  · rw [if_neg h1, c_ck0 hC, pb_bind, c_teams hC hT h5, pb_b2, if_pos (h.resolve_left h1)]
/-- an element of a list -/
theorem c_get {fu : Nat} {σ : hs_T} {n i c : Nat} {el : Nat → Nat} (h : hs_K σ n = 1) (h2 : n < hs_N σ) (hl : lS σ n c el) (hi : i < c) : fJx4a65c_get_915e3 fu σ n (nI i) = some (some (el i), σ) := by
  obtain ⟨hsz, h0 | ⟨ed, hed, h3, -, h4, hc, hcap, hq⟩⟩ := hl
  · omega
  · have hL : hs_L σ ed < 1000 := by unfold capOK at hcap; omega
    unfold fJx4a65c_get_915e3
    rw [pb_gI h h2, pb_bind, hsz]
    unfold fJ15_checkIndex_7cf53 fJ3_checkIndex_8e157
    rw [if_neg (nI_pos (by omega)), if_pos (nI_lt hi (by omega)), pb_b2, pb_b2, pb_ck h h2, pb_bind]
    unfold fJx4a65c_elementData_915e3
    rw [pb_gN h h2 hed, pb_bind, pb_la h3 h4 (by omega) (by omega), pb_bind, hq i hi, pb_ms, pb_b2, pb_ms]
theorem c_svc {fu : Nat} {σ : hs_T} (hC : cS σ) {T p : Nat} {sv : Nat → Nat} (hV : rV T sv σ) (hp : p < 3 * T) : fJx4a65c_get_915e3 fu σ 2 (nI p) = some (some (sv p), σ) := c_get hC.2.2.2.1 (Nat.lt_of_lt_of_le (by decide) hC.1) hV.2 hp
theorem c_find_y {fu : Nat} {σ : hs_T} (hC : cS σ) {T a b : Nat} {sv : Nat → Nat} (hT : hs_F σ 2 2 = nI (3 * T)) (h5 : T ≤ 5) (hV : rV T sv σ) (ha : a < T) (hb : b < 3) : fX7_find fu σ 0 (nI a) (nI b) = some (some (sv (3 * a + b)), σ) := by
  unfold fX7_find
  rw [c_ck0 hC, pb_bind, c_isTeam_y hC hT h5 ha, pb_b2, if_neg (by decide), if_neg (nI_pos (by omega)), if_pos (show nI b < 3 from nI_lt (b := 3) hb (by decide)), c_g1_0 hC, pb_bind, c_ck2 hC, pb_bind, show (3 : Int32) = nI 3 from rfl, pk_mul, nI_add, show a * 3 + b = 3 * a + b by omega, c_svc hC hV (by omega), pb_b2, pb_ms]
  obtain ⟨h1, h2, h3, -⟩ := hV.1 (3 * a + b) (by omega)
  rw [pb_ck h3 (by omega), pb_bind]
theorem c_find_n {fu : Nat} {σ : hs_T} (hC : cS σ) {T : Nat} {t s : Int32} (hT : hs_F σ 2 2 = nI (3 * T)) (h5 : T ≤ 5) (h : noP T t s) : fX7_find fu σ 0 t s = some (none, σ) := by
  unfold fX7_find
  rcases h with h | ⟨⟨a, ha, rfl⟩, h⟩
  · rw [c_ck0 hC, pb_bind, c_isTeam_n hC hT h5 h, pb_b2, if_pos rfl]
  · rw [c_ck0 hC, pb_bind, c_isTeam_y hC hT h5 ha, pb_b2, if_neg (by decide)]
    by_cases h1 : s < 0
    · rw [if_pos h1]
    · rw [if_neg h1, if_neg]
      exact n_nlt3 (h.resolve_left h1)
/-! a service's cells -/
section Svc
variable {x : hs_T} {n p : Nat}
theorem s_lt (h : sB x n p) {j : Nat} (hj : j < 8) : n + j < hs_N x := Nat.lt_of_lt_of_le (Nat.add_lt_add_left hj n) h.2.1
theorem s_ck (h : sB x n p) : hs_ck x 7 n = some () := pb_ck h.2.2.1 (s_lt h (j := 0) (by decide))
theorem s_gI (h : sB x n p) {k : Nat} : hs_gI x 7 n k = some (hs_F x k n) := pb_gI h.2.2.1 (s_lt h (j := 0) (by decide))
theorem s_gR (h : sB x n p) {k : Nat} : hs_gR x 7 n k = some (hs_G x k n) := pb_gR h.2.2.1 (s_lt h (j := 0) (by decide))
theorem s_pI (h : sB x n p) {k : Nat} {v : Int32} : hs_pI x 7 n k v = some (hs_wF x k n v) := pb_pI h.2.2.1 (s_lt h (j := 0) (by decide))
theorem s_pN (h : sB x n p) {k : Nat} : hs_pR x 7 n k none = some (hs_wG x k n none) := if_pos ⟨⟨h.2.2.1, s_lt h (j := 0) (by decide)⟩, rfl⟩
theorem s_pS (h : sB x n p) {k q : Nat} (hq : q < hs_N x) : hs_pR x 7 n k (some q) = some (hs_wG x k n (some q)) := if_pos ⟨⟨h.2.2.1, s_lt h (j := 0) (by decide)⟩, decide_eq_true (Or.inl hq)⟩
theorem s_g2 (h : sB x n p) : hs_gN x 7 n 2 = some (n + 1) := pb_gN h.2.2.1 (s_lt h (j := 0) (by decide)) h.2.2.2.2.2.1.1
theorem s_ld1 (h : sB x n p) {i : Nat} (hi : i < 8) : hs_ld x 11 (n + 1) (nI i) = some (hs_R x (n + 1) i) := pb_ld h.2.2.2.1.1 (s_lt h (by decide)) h.2.2.2.2.1.1 hi (by decide)
theorem s_st1 (h : sB x n p) {i : Nat} {v : Int32} (hi : i < 8) : hs_st x 11 (n + 1) (nI i) v = some (hs_wR x (n + 1) i v) := pb_st h.2.2.2.1.1 (s_lt h (by decide)) h.2.2.2.2.1.1 hi (by decide)
theorem s_g3 (h : sB x n p) : hs_gN x 7 n 3 = some (n + 2) := pb_gN h.2.2.1 (s_lt h (j := 0) (by decide)) h.2.2.2.2.2.1.2.1
theorem s_ld2 (h : sB x n p) {i : Nat} (hi : i < 101) : hs_ld x 11 (n + 2) (nI i) = some (hs_R x (n + 2) i) := pb_ld h.2.2.2.1.2.1 (s_lt h (by decide)) h.2.2.2.2.1.2.1 hi (by decide)
theorem s_st2 (h : sB x n p) {i : Nat} {v : Int32} (hi : i < 101) : hs_st x 11 (n + 2) (nI i) v = some (hs_wR x (n + 2) i v) := pb_st h.2.2.2.1.2.1 (s_lt h (by decide)) h.2.2.2.2.1.2.1 hi (by decide)
theorem s_g4 (h : sB x n p) : hs_gN x 7 n 4 = some (n + 3) := pb_gN h.2.2.1 (s_lt h (j := 0) (by decide)) h.2.2.2.2.2.1.2.2.1
theorem s_ld3 (h : sB x n p) {i : Nat} (hi : i < 500) : hs_ld x 11 (n + 3) (nI i) = some (hs_R x (n + 3) i) := pb_ld h.2.2.2.1.2.2.1 (s_lt h (by decide)) h.2.2.2.2.1.2.2.1 hi (by decide)
theorem s_st3 (h : sB x n p) {i : Nat} {v : Int32} (hi : i < 500) : hs_st x 11 (n + 3) (nI i) v = some (hs_wR x (n + 3) i v) := pb_st h.2.2.2.1.2.2.1 (s_lt h (by decide)) h.2.2.2.2.1.2.2.1 hi (by decide)
theorem s_g5 (h : sB x n p) : hs_gN x 7 n 5 = some (n + 4) := pb_gN h.2.2.1 (s_lt h (j := 0) (by decide)) h.2.2.2.2.2.1.2.2.2.1
theorem s_ld4 (h : sB x n p) {i : Nat} (hi : i < 3) : hs_ld x 11 (n + 4) (nI i) = some (hs_R x (n + 4) i) := pb_ld h.2.2.2.1.2.2.2.1 (s_lt h (by decide)) h.2.2.2.2.1.2.2.2.1 hi (by decide)
theorem s_st4 (h : sB x n p) {i : Nat} {v : Int32} (hi : i < 3) : hs_st x 11 (n + 4) (nI i) v = some (hs_wR x (n + 4) i v) := pb_st h.2.2.2.1.2.2.2.1 (s_lt h (by decide)) h.2.2.2.2.1.2.2.2.1 hi (by decide)
theorem s_g6 (h : sB x n p) : hs_gN x 7 n 6 = some (n + 5) := pb_gN h.2.2.1 (s_lt h (j := 0) (by decide)) h.2.2.2.2.2.1.2.2.2.2.1
theorem s_ld5 (h : sB x n p) {i : Nat} (hi : i < 3) : hs_ld x 11 (n + 5) (nI i) = some (hs_R x (n + 5) i) := pb_ld h.2.2.2.1.2.2.2.2.1 (s_lt h (by decide)) h.2.2.2.2.1.2.2.2.2.1 hi (by decide)
theorem s_st5 (h : sB x n p) {i : Nat} {v : Int32} (hi : i < 3) : hs_st x 11 (n + 5) (nI i) v = some (hs_wR x (n + 5) i v) := pb_st h.2.2.2.1.2.2.2.2.1 (s_lt h (by decide)) h.2.2.2.2.1.2.2.2.2.1 hi (by decide)
theorem s_g7 (h : sB x n p) : hs_gN x 7 n 7 = some (n + 6) := pb_gN h.2.2.1 (s_lt h (j := 0) (by decide)) h.2.2.2.2.2.1.2.2.2.2.2.1
theorem s_ld6 (h : sB x n p) {i : Nat} (hi : i < 3) : hs_ld x 11 (n + 6) (nI i) = some (hs_R x (n + 6) i) := pb_ld h.2.2.2.1.2.2.2.2.2.1 (s_lt h (by decide)) h.2.2.2.2.1.2.2.2.2.2.1 hi (by decide)
theorem s_st6 (h : sB x n p) {i : Nat} {v : Int32} (hi : i < 3) : hs_st x 11 (n + 6) (nI i) v = some (hs_wR x (n + 6) i v) := pb_st h.2.2.2.1.2.2.2.2.2.1 (s_lt h (by decide)) h.2.2.2.2.1.2.2.2.2.2.1 hi (by decide)
theorem s_g8 (h : sB x n p) : hs_gN x 7 n 8 = some (n + 7) := pb_gN h.2.2.1 (s_lt h (j := 0) (by decide)) h.2.2.2.2.2.1.2.2.2.2.2.2
theorem s_ld7 (h : sB x n p) {i : Nat} (hi : i < 3) : hs_ld x 11 (n + 7) (nI i) = some (hs_R x (n + 7) i) := pb_ld h.2.2.2.1.2.2.2.2.2.2 (s_lt h (by decide)) h.2.2.2.2.1.2.2.2.2.2.2 hi (by decide)
theorem s_st7 (h : sB x n p) {i : Nat} {v : Int32} (hi : i < 3) : hs_st x 11 (n + 7) (nI i) v = some (hs_wR x (n + 7) i v) := pb_st h.2.2.2.1.2.2.2.2.2.2 (s_lt h (by decide)) h.2.2.2.2.1.2.2.2.2.2.2 hi (by decide)
end Svc
