/-! Pure part 25: sums -/
theorem sm_add {f g : Nat → Int32} {n : Nat} : sm (fun i => f i + g i) n = sm f n + sm g n := by
  induction n with
  | zero => rfl
  | succ n ih =>
    show sm (fun i => f i + g i) n + (f n + g n) = (sm f n + f n) + (sm g n + g n)
    rw [ih]
    ac_rfl
theorem sm_sub {f g : Nat → Int32} {n : Nat} : sm (fun i => f i - g i) n = sm f n - sm g n := by
  induction n with
  | zero => exact (Int32.sub_self 0).symm
  | succ n ih =>
    show sm (fun i => f i - g i) n + (f n - g n) = (sm f n + f n) - (sm g n + g n)
    rw [ih, Int32.sub_eq_add_neg, Int32.sub_eq_add_neg, Int32.sub_eq_add_neg, Int32.neg_add, Int32.sub_eq_add_neg]
    ac_rfl
theorem sm_swap {f : Nat → Nat → Int32} {a b : Nat} : sm (fun i => sm (fun j => f i j) b) a = sm (fun j => sm (fun i => f i j) a) b := by
  induction a with
  | zero =>
    show 0 = sm (fun j => (0 : Int32)) b
    exact (sm_zero (fun _ _ => rfl)).symm
  | succ a ih =>
    show sm (fun i => sm (fun j => f i j) b) a + sm (fun j => f a j) b = sm (fun j => sm (fun i => f i j) a + f a j) b
    rw [ih, sm_add]
theorem sm_mul {f : Nat → Int32} {c : Int32} {n : Nat} : c * sm f n = sm (fun i => c * f i) n := by
  induction n with
  | zero => exact Int32.mul_zero
  | succ n ih =>
    show c * (sm f n + f n) = sm (fun i => c * f i) n + c * f n
    rw [Int32.mul_add, ih]
theorem sm_pick {g : Nat → Int32} {t n : Nat} (ht : t < n) : sm (fun b => if b = t then g b else 0) n = g t := by
  have h := sm_upd (f := fun b => if b = t then g b else 0) (g := fun _ => 0) (j := t) (n := n) (d := g t) ht (fun i _ hne => if_neg hne) (by
    show (if t = t then g t else 0) = 0 + g t
    rw [if_pos rfl, Int32.zero_add])
  rw [h, sm_zero (fun _ _ => rfl), Int32.zero_add]
/-- what lies ahead of a -/
theorem sm_cut {f : Nat → Int32} {a n : Nat} (h : a ≤ n) : sm (fun r => if r < a then f r else 0) n = sm f a := by
  induction n with
  | zero =>
    have e : a = 0 := by omega
    subst e
    rfl
  | succ n ih =>
    show sm (fun r => if r < a then f r else 0) n + (if n < a then f n else 0) = _
    by_cases q : a = n + 1
    · subst q
      rw [if_pos (by omega)]
      show _ = sm f n + f n
      congr 1
      exact sm_ext (fun i hi => if_pos (by omega))
    · rw [ih (by omega), if_neg (by omega), Int32.add_zero]
theorem sm_more {f : Nat → Int32} {a n : Nat} (h : a ≤ n) (hz : ∀ i, a ≤ i → i < n → f i = 0) : sm f n = sm f a := by
  rw [← sm_cut h]
  exact sm_ext (fun i hi => by
    by_cases q : i < a
    · exact (if_pos q).symm
    · exact (hz i (by omega) hi).trans (if_neg q).symm)
def smN (f : Nat → Nat) : Nat → Nat
  | 0 => 0
  | n + 1 => smN f n + f n
theorem smN_nI {f : Nat → Nat} {n : Nat} : nI (smN f n) = sm (fun i => nI (f i)) n := by
  induction n with
  | zero => rfl
  | succ n ih =>
    show nI (smN f n + f n) = sm (fun i => nI (f i)) n + nI (f n)
    rw [← ih, nI_add]
theorem smN_le {f : Nat → Nat} {n : Nat} (h : ∀ i, i < n → f i ≤ 1) : smN f n ≤ n := by
  induction n with
  | zero => exact Nat.le_refl _
  | succ n ih =>
    show smN f n + f n ≤ n + 1
    have := ih (fun i hi => h i (by omega))
    have := h n (by omega)
    omega
theorem smN_ext {f g : Nat → Nat} {n : Nat} (h : ∀ i, i < n → f i = g i) : smN f n = smN g n := by
  induction n with
  | zero => rfl
  | succ n ih =>
    show smN f n + f n = smN g n + g n
    rw [ih (fun i hi => h i (by omega)), h n (by omega)]
theorem smN_add {f g : Nat → Nat} {n : Nat} : smN (fun i => f i + g i) n = smN f n + smN g n := by
  induction n with
  | zero => rfl
  | succ n ih =>
    show smN (fun i => f i + g i) n + (f n + g n) = (smN f n + f n) + (smN g n + g n)
    rw [ih]
    omega
theorem smN_more {f : Nat → Nat} {a n : Nat} (h : a ≤ n) (hz : ∀ i, a ≤ i → i < n → f i = 0) : smN f n = smN f a := by
  induction n with
  | zero =>
    have e : a = 0 := by omega
    subst e
    rfl
  | succ n ih =>
    by_cases q : a = n + 1
    · subst q; rfl
    · show smN f n + f n = _
      rw [ih (by omega) (fun i h1 h2 => hz i h1 (by omega)), hz n (by omega) (by omega)]
      rfl
theorem smN_pos {f : Nat → Nat} {i n : Nat} (hi : i < n) (h : 0 < f i) : 0 < smN f n := by
  induction n with
  | zero => omega
  | succ n ih =>
    show 0 < smN f n + f n
    by_cases q : i = n
    · subst q; omega
    · have := ih (by omega)
      omega
/-- a share for each that counts -/
theorem sm_ind {f : Nat → Nat} {a : Int32} {n : Nat} (h : ∀ i, i < n → f i ≤ 1) : sm (fun i => if f i = 0 then 0 else a) n = nI (smN f n) * a := by
  induction n with
  | zero => exact Int32.zero_mul.symm
  | succ n ih =>
    show sm (fun i => if f i = 0 then 0 else a) n + (if f n = 0 then 0 else a) = nI (smN f n + f n) * a
    rw [ih (fun i hi => h i (by omega)), ← nI_add, Int32.add_mul]
    congr 1
    by_cases q : f n = 0
    · rw [if_pos q, q]
      exact Int32.zero_mul.symm
    · rw [if_neg q, show f n = 1 by have := h n (by omega); omega]
      exact (Int32.one_mul a).symm
/-- taken, ahead of a limit -/
def tkN (v lim : Nat) : Nat := if v = 0 ∨ lim < v then 0 else 1
theorem tkN_le {v lim : Nat} : tkN v lim ≤ 1 := by
  unfold tkN
  by_cases h : v = 0 ∨ lim < v
  · rw [if_pos h]; omega
  · rw [if_neg h]; omega
theorem tkN_i {v lim : Nat} : (if v = 0 ∨ lim < v then (0 : Int32) else 1) = nI (tkN v lim) := by
  unfold tkN
  by_cases h : v = 0 ∨ lim < v
  · rw [if_pos h, if_pos h]; rfl
  · rw [if_neg h, if_neg h]; rfl
theorem tkN_0 {lim : Nat} : tkN 0 lim = 0 := if_pos (Or.inl rfl)
def shN (k : Nat) : Int32 := if k = 0 then 0 else 60 / nI k
/-- the value that a flag's cell holds -/
def hVn (m : hs_T) (r p b : Nat) : Nat := (hs_R m 27 (75 * r + 5 * p + b)).toNatClampNeg
theorem hVn_of {m : hs_T} {r p b v : Nat} (h : hs_R m 27 (75 * r + 5 * p + b) = nI v) (hv : v < 2 ^ 31) : hVn m r p b = v := by
  unfold hVn
  rw [h, nI_clamp hv]
/-- how many have taken it -/
def kNm (m : hs_T) (n lim r p : Nat) : Nat := smN (fun b => tkN (hVn m r p b) lim) n
theorem kNm_le {m : hs_T} {n lim r p : Nat} : kNm m n lim r p ≤ n := smN_le (fun _ _ => tkN_le)
