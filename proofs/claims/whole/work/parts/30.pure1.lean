/-! Pure part 1: the steps over the two shapes -/
theorem pb_bind {α β : Type} (a : α) (f : α → Option β) : (some a).bind f = f a := rfl
theorem pb_b2 {α β γ : Type} (a : α) (b : β) (f : α → β → Option γ) : hs_b2 (some (a, b)) f = f a b := rfl
theorem pb_mn {β : Type} (A : Option β) (B : Nat → Option β) : hs_mt none A B = A := rfl
theorem pb_ms {β : Type} (n : Nat) (A : Option β) (B : Nat → Option β) : hs_mt (some n) A B = B n := rfl
theorem pb_N_wF (σ : hs_T) (k n : Nat) (v : Int32) : hs_N (hs_wF σ k n v) = hs_N σ := rfl
theorem pb_N_wG (σ : hs_T) (k n : Nat) (v : Option Nat) : hs_N (hs_wG σ k n v) = hs_N σ := rfl
theorem pb_N_wR (σ : hs_T) (n i : Nat) (v : Int32) : hs_N (hs_wR σ n i v) = hs_N σ := rfl
theorem pb_N_wRow (σ : hs_T) (n : Nat) (f : Nat → Int32) : hs_N (hs_wRow σ n f) = hs_N σ := rfl
theorem pb_K_wF (σ : hs_T) (k n : Nat) (v : Int32) : hs_K (hs_wF σ k n v) = hs_K σ := rfl
theorem pb_K_wG (σ : hs_T) (k n : Nat) (v : Option Nat) : hs_K (hs_wG σ k n v) = hs_K σ := rfl
theorem pb_K_wR (σ : hs_T) (n i : Nat) (v : Int32) : hs_K (hs_wR σ n i v) = hs_K σ := rfl
theorem pb_K_wRow (σ : hs_T) (n : Nat) (f : Nat → Int32) : hs_K (hs_wRow σ n f) = hs_K σ := rfl
theorem pb_L_wF (σ : hs_T) (k n : Nat) (v : Int32) : hs_L (hs_wF σ k n v) = hs_L σ := rfl
theorem pb_L_wG (σ : hs_T) (k n : Nat) (v : Option Nat) : hs_L (hs_wG σ k n v) = hs_L σ := rfl
theorem pb_L_wR (σ : hs_T) (n i : Nat) (v : Int32) : hs_L (hs_wR σ n i v) = hs_L σ := rfl
theorem pb_L_wRow (σ : hs_T) (n : Nat) (f : Nat → Int32) : hs_L (hs_wRow σ n f) = hs_L σ := rfl
theorem pb_F_wG (σ : hs_T) (k n : Nat) (v : Option Nat) : hs_F (hs_wG σ k n v) = hs_F σ := rfl
theorem pb_F_wR (σ : hs_T) (n i : Nat) (v : Int32) : hs_F (hs_wR σ n i v) = hs_F σ := rfl
theorem pb_F_wRow (σ : hs_T) (n : Nat) (f : Nat → Int32) : hs_F (hs_wRow σ n f) = hs_F σ := rfl
theorem pb_G_wF (σ : hs_T) (k n : Nat) (v : Int32) : hs_G (hs_wF σ k n v) = hs_G σ := rfl
theorem pb_G_wR (σ : hs_T) (n i : Nat) (v : Int32) : hs_G (hs_wR σ n i v) = hs_G σ := rfl
theorem pb_G_wRow (σ : hs_T) (n : Nat) (f : Nat → Int32) : hs_G (hs_wRow σ n f) = hs_G σ := rfl
theorem pb_R_wF (σ : hs_T) (k n : Nat) (v : Int32) : hs_R (hs_wF σ k n v) = hs_R σ := rfl
theorem pb_R_wG (σ : hs_T) (k n : Nat) (v : Option Nat) : hs_R (hs_wG σ k n v) = hs_R σ := rfl
theorem pb_O_wF (σ : hs_T) (k n : Nat) (v : Int32) : hs_O (hs_wF σ k n v) = hs_O σ := rfl
theorem pb_O_wG (σ : hs_T) (k n : Nat) (v : Option Nat) : hs_O (hs_wG σ k n v) = hs_O σ := rfl
theorem pb_O_wR (σ : hs_T) (n i : Nat) (v : Int32) : hs_O (hs_wR σ n i v) = hs_O σ := rfl
theorem pb_O_wRow (σ : hs_T) (n : Nat) (f : Nat → Int32) : hs_O (hs_wRow σ n f) = hs_O σ := rfl
theorem pb_F_wF (σ : hs_T) (k n : Nat) (v : Int32) (k' n' : Nat) : hs_F (hs_wF σ k n v) k' n' = if k' = k ∧ n' = n then v else hs_F σ k' n' := rfl
theorem pb_G_wG (σ : hs_T) (k n : Nat) (v : Option Nat) (k' n' : Nat) : hs_G (hs_wG σ k n v) k' n' = if k' = k ∧ n' = n then v else hs_G σ k' n' := rfl
theorem pb_R_wR (σ : hs_T) (n i : Nat) (v : Int32) (n' i' : Nat) : hs_R (hs_wR σ n i v) n' i' = if n' = n ∧ i' = i then v else hs_R σ n' i' := rfl
theorem pb_R_wRow (σ : hs_T) (n : Nat) (f : Nat → Int32) (n' i' : Nat) : hs_R (hs_wRow σ n f) n' i' = if n' = n then f i' else hs_R σ n' i' := by
  show (if n' = n then f else hs_R σ n') i' = _
  by_cases h : n' = n
  · rw [if_pos h, if_pos h]
  · rw [if_neg h, if_neg h]
theorem pb_ck {σ : hs_T} {kd n : Nat} (h : hs_K σ n = kd) (h2 : n < hs_N σ) : hs_ck σ kd n = some () := if_pos ⟨h, h2⟩
theorem pb_gI {σ : hs_T} {kd n k : Nat} (h : hs_K σ n = kd) (h2 : n < hs_N σ) : hs_gI σ kd n k = some (hs_F σ k n) := if_pos ⟨h, h2⟩
theorem pb_gR {σ : hs_T} {kd n k : Nat} (h : hs_K σ n = kd) (h2 : n < hs_N σ) : hs_gR σ kd n k = some (hs_G σ k n) := if_pos ⟨h, h2⟩
theorem pb_gN {σ : hs_T} {kd n k m : Nat} (h : hs_K σ n = kd) (h2 : n < hs_N σ) (h3 : hs_G σ k n = some m) : hs_gN σ kd n k = some m := (if_pos ⟨h, h2⟩).trans h3
theorem pb_pI {σ : hs_T} {kd n k : Nat} {v : Int32} (h : hs_K σ n = kd) (h2 : n < hs_N σ) : hs_pI σ kd n k v = some (hs_wF σ k n v) := if_pos ⟨h, h2⟩
theorem pb_in {i n : Nat} (h : i < n) (hn : n < 2 ^ 31) : ¬ (nI i < 0 ∨ n ≤ (nI i).toNatClampNeg) := nI_in h hn
theorem pb_ld {σ : hs_T} {kd n i N : Nat} (h : hs_K σ n = kd) (h2 : n < hs_N σ) (hL : hs_L σ n = N) (hi : i < N) (hN : N < 100000) : hs_ld σ kd n (nI i) = some (hs_R σ n i) := by
  unfold hs_ld
  rw [hL, if_pos ⟨⟨h, h2⟩, pb_in hi (by omega)⟩, nI_clamp (by omega)]
theorem pb_st {σ : hs_T} {kd n i N : Nat} {v : Int32} (h : hs_K σ n = kd) (h2 : n < hs_N σ) (hL : hs_L σ n = N) (hi : i < N) (hN : N < 100000) : hs_st σ kd n (nI i) v = some (hs_wR σ n i v) := by
  unfold hs_st
  rw [hL, if_pos ⟨⟨h, h2⟩, pb_in hi (by omega)⟩, nI_clamp (by omega)]
theorem pb_la {σ : hs_T} {n i : Nat} (h : hs_K σ n = 13) (h2 : n < hs_N σ) (hi : i < hs_L σ n) (hN : hs_L σ n < 100000) : hs_la σ n (nI i) = some (hs_O σ n i) := by
  unfold hs_la
  rw [if_pos ⟨⟨h, h2⟩, pb_in hi (by omega)⟩, nI_clamp (by omega)]
theorem pb_tb {N : Nat} {f : Nat → Int32} {i : Nat} (hi : i < N) (hN : N < 100000) : hs_tb N f (nI i) = some (f i) := by
  unfold hs_tb
  rw [if_pos (pb_in hi (by omega)), nI_clamp (by omega)]
theorem pb_cp {σ : hs_T} {n0 n1 N0 N1 sp dp k : Nat} (h0 : hs_K σ n0 = 11) (h0' : n0 < hs_N σ) (h1 : hs_K σ n1 = 11) (h1' : n1 < hs_N σ) (hL0 : hs_L σ n0 = N0) (hL1 : hs_L σ n1 = N1) (hs : sp + k ≤ N0) (hd : dp + k ≤ N1) (hN0 : N0 < 100000) (hN1 : N1 < 100000) : hs_cp σ n0 (nI sp) n1 (nI dp) (nI k) = some (hs_wRow σ n1 (va_cpy (hs_R σ n0) (hs_R σ n1) sp dp k)) := by
  unfold hs_cp
  rw [nI_clamp (by omega), nI_clamp (by omega), nI_clamp (by omega), hL0, hL1, if_pos ⟨⟨h0, h0'⟩, ⟨h1, h1'⟩, nI_pos (by omega), nI_pos (by omega), nI_pos (by omega), hs, hd⟩]
theorem pb_nz {y : Int32} (h : ¬ y = 0) : hs_nz y = some () := if_neg h
theorem pb_bz0 : hs_bz 0 = some () := if_pos (by decide)
theorem pb_bz1 : hs_bz 1 = some () := if_pos (by decide)
theorem il (n : Nat) : (OfNat.ofNat n : Int32) = nI n := rfl
theorem pb_lp0 {α β : Type} {B : (α → Option β) → α → Option β} {n : Nat} {a : α} : hs_lp B (n + 1) a = B (hs_lp B n) a := rfl
/-- a loop whose n rounds are known -/
theorem pb_lp {α β : Type} {B : (α → Option β) → α → Option β} {st : Nat → α} {n : Nat} {E : Option β} (hs : ∀ k i, i < n → B k (st i) = k (st (i + 1))) (he : ∀ k, B k (st n) = E) : ∀ fuel, n < fuel → hs_lp B fuel (st 0) = E := by
  have key : ∀ d i fuel, i + d = n → d < fuel → hs_lp B fuel (st i) = E := by
    intro d
    induction d with
    | zero =>
      intro i fuel hi hf
      have : i = n := by omega
      subst this
      obtain ⟨f, rfl⟩ : ∃ f, fuel = f + 1 := ⟨fuel - 1, by omega⟩
      exact he _
    | succ d ih =>
      intro i fuel hi hf
      obtain ⟨f, rfl⟩ : ∃ f, fuel = f + 1 := ⟨fuel - 1, by omega⟩
      exact (hs _ i (by omega)).trans (ih (i + 1) f (by omega) (by omega))
  intro fuel hf
  exact key n 0 fuel (by omega) hf
theorem pb_up_up {α : Type} (f : Nat → Nat → α) (k n : Nat) (v w : α) : hs_up (hs_up f k n v) k n w = hs_up f k n w := by
  funext a b
  unfold hs_up
  by_cases h : a = k ∧ b = n
  · rw [if_pos h, if_pos h]
  · rw [if_neg h, if_neg h, if_neg h]
theorem pb_FF (σ : hs_T) (k n : Nat) (v w : Int32) : hs_wF (hs_wF σ k n v) k n w = hs_wF σ k n w := by
  unfold hs_wF
  rw [pb_up_up]
theorem pb_div {a d : Nat} (ha : a < 2 ^ 31) (h0 : 0 < d) (hd : d < 2 ^ 31) : nI a / nI d = nI (a / d) := pk_div ha h0 hd
/-- the shape of the reference's heap -/
def mS (σ : hs_T) : Prop := hs_N σ = 32 ∧ hs_K σ 0 = 10 ∧ hs_K σ 1 = 11 ∧ hs_K σ 2 = 11 ∧ hs_K σ 3 = 11 ∧ hs_K σ 4 = 11 ∧ hs_K σ 5 = 12 ∧ hs_K σ 6 = 11 ∧ hs_K σ 7 = 11 ∧ hs_K σ 8 = 11 ∧ hs_K σ 9 = 11 ∧ hs_K σ 10 = 11 ∧ hs_K σ 11 = 11 ∧ hs_K σ 12 = 11 ∧ hs_K σ 13 = 11 ∧ hs_K σ 14 = 11 ∧ hs_K σ 15 = 11 ∧ hs_K σ 16 = 11 ∧ hs_K σ 17 = 11 ∧ hs_K σ 18 = 11 ∧ hs_K σ 19 = 11 ∧ hs_K σ 20 = 11 ∧ hs_K σ 21 = 12 ∧ hs_K σ 22 = 11 ∧ hs_K σ 23 = 11 ∧ hs_K σ 24 = 11 ∧ hs_K σ 25 = 11 ∧ hs_K σ 26 = 11 ∧ hs_K σ 27 = 11 ∧ hs_K σ 28 = 11 ∧ hs_K σ 29 = 11 ∧ hs_K σ 30 = 11 ∧ hs_K σ 31 = 11 ∧ hs_L σ 1 = 120 ∧ hs_L σ 2 = 720 ∧ hs_L σ 3 = 720 ∧ hs_L σ 4 = 30 ∧ hs_L σ 5 = 15 ∧ hs_L σ 6 = 24 ∧ hs_L σ 7 = 24 ∧ hs_L σ 8 = 120 ∧ hs_L σ 9 = 8 ∧ hs_L σ 10 = 15 ∧ hs_L σ 11 = 15 ∧ hs_L σ 12 = 15 ∧ hs_L σ 13 = 7 ∧ hs_L σ 14 = 9 ∧ hs_L σ 15 = 400 ∧ hs_L σ 16 = 400 ∧ hs_L σ 17 = 400 ∧ hs_L σ 18 = 400 ∧ hs_L σ 19 = 400 ∧ hs_L σ 20 = 400 ∧ hs_L σ 21 = 1500 ∧ hs_L σ 22 = 45 ∧ hs_L σ 23 = 45 ∧ hs_L σ 24 = 45 ∧ hs_L σ 25 = 45 ∧ hs_L σ 26 = 18 ∧ hs_L σ 27 = 7500 ∧ hs_L σ 28 = 5 ∧ hs_L σ 29 = 5 ∧ hs_L σ 30 = 5 ∧ hs_L σ 31 = 5 ∧ hs_G σ 2 0 = some 1 ∧ hs_G σ 3 0 = some 2 ∧ hs_G σ 4 0 = some 3 ∧ hs_G σ 5 0 = some 4 ∧ hs_G σ 6 0 = some 5 ∧ hs_G σ 9 0 = some 6 ∧ hs_G σ 10 0 = some 7 ∧ hs_G σ 12 0 = some 8 ∧ hs_G σ 13 0 = some 9 ∧ hs_G σ 14 0 = some 10 ∧ hs_G σ 15 0 = some 11 ∧ hs_G σ 16 0 = some 12 ∧ hs_G σ 17 0 = some 13 ∧ hs_G σ 18 0 = some 14 ∧ hs_G σ 22 0 = some 15 ∧ hs_G σ 23 0 = some 16 ∧ hs_G σ 24 0 = some 17 ∧ hs_G σ 25 0 = some 18 ∧ hs_G σ 26 0 = some 19 ∧ hs_G σ 27 0 = some 20 ∧ hs_G σ 31 0 = some 21 ∧ hs_G σ 32 0 = some 22 ∧ hs_G σ 33 0 = some 23 ∧ hs_G σ 34 0 = some 24 ∧ hs_G σ 35 0 = some 25 ∧ hs_G σ 36 0 = some 26 ∧ hs_G σ 37 0 = some 27 ∧ hs_G σ 39 0 = some 28 ∧ hs_G σ 40 0 = some 29 ∧ hs_G σ 41 0 = some 30 ∧ hs_G σ 42 0 = some 31
theorem m_ck {σ : hs_T} (h : mS σ) : hs_ck σ 10 0 = some () := pb_ck h.2.1 (by rw [h.1]; decide)
theorem m_gI {σ : hs_T} (h : mS σ) {k : Nat} : hs_gI σ 10 0 k = some (hs_F σ k 0) := pb_gI h.2.1 (by rw [h.1]; decide)
theorem m_pI {σ : hs_T} (h : mS σ) {k : Nat} {v : Int32} : hs_pI σ 10 0 k v = some (hs_wF σ k 0 v) := pb_pI h.2.1 (by rw [h.1]; decide)
theorem m_g2 {σ : hs_T} (h : mS σ) : hs_gN σ 10 0 2 = some 1 := pb_gN h.2.1 (by rw [h.1]; decide) h.2.2.2.2.2.2.2.2.2.2.2.2.2.2.2.2.2.2.2.2.2.2.2.2.2.2.2.2.2.2.2.2.2.2.2.2.2.2.2.2.2.2.2.2.2.2.2.2.2.2.2.2.2.2.2.2.2.2.2.2.2.2.2.2.1
theorem m_g3 {σ : hs_T} (h : mS σ) : hs_gN σ 10 0 3 = some 2 := pb_gN h.2.1 (by rw [h.1]; decide) h.2.2.2.2.2.2.2.2.2.2.2.2.2.2.2.2.2.2.2.2.2.2.2.2.2.2.2.2.2.2.2.2.2.2.2.2.2.2.2.2.2.2.2.2.2.2.2.2.2.2.2.2.2.2.2.2.2.2.2.2.2.2.2.2.2.1
theorem m_g4 {σ : hs_T} (h : mS σ) : hs_gN σ 10 0 4 = some 3 := pb_gN h.2.1 (by rw [h.1]; decide) h.2.2.2.2.2.2.2.2.2.2.2.2.2.2.2.2.2.2.2.2.2.2.2.2.2.2.2.2.2.2.2.2.2.2.2.2.2.2.2.2.2.2.2.2.2.2.2.2.2.2.2.2.2.2.2.2.2.2.2.2.2.2.2.2.2.2.1
theorem m_g5 {σ : hs_T} (h : mS σ) : hs_gN σ 10 0 5 = some 4 := pb_gN h.2.1 (by rw [h.1]; decide) h.2.2.2.2.2.2.2.2.2.2.2.2.2.2.2.2.2.2.2.2.2.2.2.2.2.2.2.2.2.2.2.2.2.2.2.2.2.2.2.2.2.2.2.2.2.2.2.2.2.2.2.2.2.2.2.2.2.2.2.2.2.2.2.2.2.2.2.1
theorem m_g6 {σ : hs_T} (h : mS σ) : hs_gN σ 10 0 6 = some 5 := pb_gN h.2.1 (by rw [h.1]; decide) h.2.2.2.2.2.2.2.2.2.2.2.2.2.2.2.2.2.2.2.2.2.2.2.2.2.2.2.2.2.2.2.2.2.2.2.2.2.2.2.2.2.2.2.2.2.2.2.2.2.2.2.2.2.2.2.2.2.2.2.2.2.2.2.2.2.2.2.2.1
theorem m_g9 {σ : hs_T} (h : mS σ) : hs_gN σ 10 0 9 = some 6 := pb_gN h.2.1 (by rw [h.1]; decide) h.2.2.2.2.2.2.2.2.2.2.2.2.2.2.2.2.2.2.2.2.2.2.2.2.2.2.2.2.2.2.2.2.2.2.2.2.2.2.2.2.2.2.2.2.2.2.2.2.2.2.2.2.2.2.2.2.2.2.2.2.2.2.2.2.2.2.2.2.2.1
theorem m_g10 {σ : hs_T} (h : mS σ) : hs_gN σ 10 0 10 = some 7 := pb_gN h.2.1 (by rw [h.1]; decide) h.2.2.2.2.2.2.2.2.2.2.2.2.2.2.2.2.2.2.2.2.2.2.2.2.2.2.2.2.2.2.2.2.2.2.2.2.2.2.2.2.2.2.2.2.2.2.2.2.2.2.2.2.2.2.2.2.2.2.2.2.2.2.2.2.2.2.2.2.2.2.1
theorem m_g12 {σ : hs_T} (h : mS σ) : hs_gN σ 10 0 12 = some 8 := pb_gN h.2.1 (by rw [h.1]; decide) h.2.2.2.2.2.2.2.2.2.2.2.2.2.2.2.2.2.2.2.2.2.2.2.2.2.2.2.2.2.2.2.2.2.2.2.2.2.2.2.2.2.2.2.2.2.2.2.2.2.2.2.2.2.2.2.2.2.2.2.2.2.2.2.2.2.2.2.2.2.2.2.1
theorem m_g13 {σ : hs_T} (h : mS σ) : hs_gN σ 10 0 13 = some 9 := pb_gN h.2.1 (by rw [h.1]; decide) h.2.2.2.2.2.2.2.2.2.2.2.2.2.2.2.2.2.2.2.2.2.2.2.2.2.2.2.2.2.2.2.2.2.2.2.2.2.2.2.2.2.2.2.2.2.2.2.2.2.2.2.2.2.2.2.2.2.2.2.2.2.2.2.2.2.2.2.2.2.2.2.2.1
theorem m_g14 {σ : hs_T} (h : mS σ) : hs_gN σ 10 0 14 = some 10 := pb_gN h.2.1 (by rw [h.1]; decide) h.2.2.2.2.2.2.2.2.2.2.2.2.2.2.2.2.2.2.2.2.2.2.2.2.2.2.2.2.2.2.2.2.2.2.2.2.2.2.2.2.2.2.2.2.2.2.2.2.2.2.2.2.2.2.2.2.2.2.2.2.2.2.2.2.2.2.2.2.2.2.2.2.2.1
theorem m_g15 {σ : hs_T} (h : mS σ) : hs_gN σ 10 0 15 = some 11 := pb_gN h.2.1 (by rw [h.1]; decide) h.2.2.2.2.2.2.2.2.2.2.2.2.2.2.2.2.2.2.2.2.2.2.2.2.2.2.2.2.2.2.2.2.2.2.2.2.2.2.2.2.2.2.2.2.2.2.2.2.2.2.2.2.2.2.2.2.2.2.2.2.2.2.2.2.2.2.2.2.2.2.2.2.2.2.1
theorem m_g16 {σ : hs_T} (h : mS σ) : hs_gN σ 10 0 16 = some 12 := pb_gN h.2.1 (by rw [h.1]; decide) h.2.2.2.2.2.2.2.2.2.2.2.2.2.2.2.2.2.2.2.2.2.2.2.2.2.2.2.2.2.2.2.2.2.2.2.2.2.2.2.2.2.2.2.2.2.2.2.2.2.2.2.2.2.2.2.2.2.2.2.2.2.2.2.2.2.2.2.2.2.2.2.2.2.2.2.1
theorem m_g17 {σ : hs_T} (h : mS σ) : hs_gN σ 10 0 17 = some 13 := pb_gN h.2.1 (by rw [h.1]; decide) h.2.2.2.2.2.2.2.2.2.2.2.2.2.2.2.2.2.2.2.2.2.2.2.2.2.2.2.2.2.2.2.2.2.2.2.2.2.2.2.2.2.2.2.2.2.2.2.2.2.2.2.2.2.2.2.2.2.2.2.2.2.2.2.2.2.2.2.2.2.2.2.2.2.2.2.2.1
theorem m_g18 {σ : hs_T} (h : mS σ) : hs_gN σ 10 0 18 = some 14 := pb_gN h.2.1 (by rw [h.1]; decide) h.2.2.2.2.2.2.2.2.2.2.2.2.2.2.2.2.2.2.2.2.2.2.2.2.2.2.2.2.2.2.2.2.2.2.2.2.2.2.2.2.2.2.2.2.2.2.2.2.2.2.2.2.2.2.2.2.2.2.2.2.2.2.2.2.2.2.2.2.2.2.2.2.2.2.2.2.2.1
theorem m_g22 {σ : hs_T} (h : mS σ) : hs_gN σ 10 0 22 = some 15 := pb_gN h.2.1 (by rw [h.1]; decide) h.2.2.2.2.2.2.2.2.2.2.2.2.2.2.2.2.2.2.2.2.2.2.2.2.2.2.2.2.2.2.2.2.2.2.2.2.2.2.2.2.2.2.2.2.2.2.2.2.2.2.2.2.2.2.2.2.2.2.2.2.2.2.2.2.2.2.2.2.2.2.2.2.2.2.2.2.2.2.1
theorem m_g23 {σ : hs_T} (h : mS σ) : hs_gN σ 10 0 23 = some 16 := pb_gN h.2.1 (by rw [h.1]; decide) h.2.2.2.2.2.2.2.2.2.2.2.2.2.2.2.2.2.2.2.2.2.2.2.2.2.2.2.2.2.2.2.2.2.2.2.2.2.2.2.2.2.2.2.2.2.2.2.2.2.2.2.2.2.2.2.2.2.2.2.2.2.2.2.2.2.2.2.2.2.2.2.2.2.2.2.2.2.2.2.1
theorem m_g24 {σ : hs_T} (h : mS σ) : hs_gN σ 10 0 24 = some 17 := pb_gN h.2.1 (by rw [h.1]; decide) h.2.2.2.2.2.2.2.2.2.2.2.2.2.2.2.2.2.2.2.2.2.2.2.2.2.2.2.2.2.2.2.2.2.2.2.2.2.2.2.2.2.2.2.2.2.2.2.2.2.2.2.2.2.2.2.2.2.2.2.2.2.2.2.2.2.2.2.2.2.2.2.2.2.2.2.2.2.2.2.2.1
theorem m_g25 {σ : hs_T} (h : mS σ) : hs_gN σ 10 0 25 = some 18 := pb_gN h.2.1 (by rw [h.1]; decide) h.2.2.2.2.2.2.2.2.2.2.2.2.2.2.2.2.2.2.2.2.2.2.2.2.2.2.2.2.2.2.2.2.2.2.2.2.2.2.2.2.2.2.2.2.2.2.2.2.2.2.2.2.2.2.2.2.2.2.2.2.2.2.2.2.2.2.2.2.2.2.2.2.2.2.2.2.2.2.2.2.2.1
theorem m_g26 {σ : hs_T} (h : mS σ) : hs_gN σ 10 0 26 = some 19 := pb_gN h.2.1 (by rw [h.1]; decide) h.2.2.2.2.2.2.2.2.2.2.2.2.2.2.2.2.2.2.2.2.2.2.2.2.2.2.2.2.2.2.2.2.2.2.2.2.2.2.2.2.2.2.2.2.2.2.2.2.2.2.2.2.2.2.2.2.2.2.2.2.2.2.2.2.2.2.2.2.2.2.2.2.2.2.2.2.2.2.2.2.2.2.1
theorem m_g27 {σ : hs_T} (h : mS σ) : hs_gN σ 10 0 27 = some 20 := pb_gN h.2.1 (by rw [h.1]; decide) h.2.2.2.2.2.2.2.2.2.2.2.2.2.2.2.2.2.2.2.2.2.2.2.2.2.2.2.2.2.2.2.2.2.2.2.2.2.2.2.2.2.2.2.2.2.2.2.2.2.2.2.2.2.2.2.2.2.2.2.2.2.2.2.2.2.2.2.2.2.2.2.2.2.2.2.2.2.2.2.2.2.2.2.1
theorem m_g31 {σ : hs_T} (h : mS σ) : hs_gN σ 10 0 31 = some 21 := pb_gN h.2.1 (by rw [h.1]; decide) h.2.2.2.2.2.2.2.2.2.2.2.2.2.2.2.2.2.2.2.2.2.2.2.2.2.2.2.2.2.2.2.2.2.2.2.2.2.2.2.2.2.2.2.2.2.2.2.2.2.2.2.2.2.2.2.2.2.2.2.2.2.2.2.2.2.2.2.2.2.2.2.2.2.2.2.2.2.2.2.2.2.2.2.2.1
theorem m_g32 {σ : hs_T} (h : mS σ) : hs_gN σ 10 0 32 = some 22 := pb_gN h.2.1 (by rw [h.1]; decide) h.2.2.2.2.2.2.2.2.2.2.2.2.2.2.2.2.2.2.2.2.2.2.2.2.2.2.2.2.2.2.2.2.2.2.2.2.2.2.2.2.2.2.2.2.2.2.2.2.2.2.2.2.2.2.2.2.2.2.2.2.2.2.2.2.2.2.2.2.2.2.2.2.2.2.2.2.2.2.2.2.2.2.2.2.2.1
theorem m_g33 {σ : hs_T} (h : mS σ) : hs_gN σ 10 0 33 = some 23 := pb_gN h.2.1 (by rw [h.1]; decide) h.2.2.2.2.2.2.2.2.2.2.2.2.2.2.2.2.2.2.2.2.2.2.2.2.2.2.2.2.2.2.2.2.2.2.2.2.2.2.2.2.2.2.2.2.2.2.2.2.2.2.2.2.2.2.2.2.2.2.2.2.2.2.2.2.2.2.2.2.2.2.2.2.2.2.2.2.2.2.2.2.2.2.2.2.2.2.1
theorem m_g34 {σ : hs_T} (h : mS σ) : hs_gN σ 10 0 34 = some 24 := pb_gN h.2.1 (by rw [h.1]; decide) h.2.2.2.2.2.2.2.2.2.2.2.2.2.2.2.2.2.2.2.2.2.2.2.2.2.2.2.2.2.2.2.2.2.2.2.2.2.2.2.2.2.2.2.2.2.2.2.2.2.2.2.2.2.2.2.2.2.2.2.2.2.2.2.2.2.2.2.2.2.2.2.2.2.2.2.2.2.2.2.2.2.2.2.2.2.2.2.1
theorem m_g35 {σ : hs_T} (h : mS σ) : hs_gN σ 10 0 35 = some 25 := pb_gN h.2.1 (by rw [h.1]; decide) h.2.2.2.2.2.2.2.2.2.2.2.2.2.2.2.2.2.2.2.2.2.2.2.2.2.2.2.2.2.2.2.2.2.2.2.2.2.2.2.2.2.2.2.2.2.2.2.2.2.2.2.2.2.2.2.2.2.2.2.2.2.2.2.2.2.2.2.2.2.2.2.2.2.2.2.2.2.2.2.2.2.2.2.2.2.2.2.2.1
theorem m_g36 {σ : hs_T} (h : mS σ) : hs_gN σ 10 0 36 = some 26 := pb_gN h.2.1 (by rw [h.1]; decide) h.2.2.2.2.2.2.2.2.2.2.2.2.2.2.2.2.2.2.2.2.2.2.2.2.2.2.2.2.2.2.2.2.2.2.2.2.2.2.2.2.2.2.2.2.2.2.2.2.2.2.2.2.2.2.2.2.2.2.2.2.2.2.2.2.2.2.2.2.2.2.2.2.2.2.2.2.2.2.2.2.2.2.2.2.2.2.2.2.2.1
theorem m_g37 {σ : hs_T} (h : mS σ) : hs_gN σ 10 0 37 = some 27 := pb_gN h.2.1 (by rw [h.1]; decide) h.2.2.2.2.2.2.2.2.2.2.2.2.2.2.2.2.2.2.2.2.2.2.2.2.2.2.2.2.2.2.2.2.2.2.2.2.2.2.2.2.2.2.2.2.2.2.2.2.2.2.2.2.2.2.2.2.2.2.2.2.2.2.2.2.2.2.2.2.2.2.2.2.2.2.2.2.2.2.2.2.2.2.2.2.2.2.2.2.2.2.1
theorem m_g39 {σ : hs_T} (h : mS σ) : hs_gN σ 10 0 39 = some 28 := pb_gN h.2.1 (by rw [h.1]; decide) h.2.2.2.2.2.2.2.2.2.2.2.2.2.2.2.2.2.2.2.2.2.2.2.2.2.2.2.2.2.2.2.2.2.2.2.2.2.2.2.2.2.2.2.2.2.2.2.2.2.2.2.2.2.2.2.2.2.2.2.2.2.2.2.2.2.2.2.2.2.2.2.2.2.2.2.2.2.2.2.2.2.2.2.2.2.2.2.2.2.2.2.1
theorem m_g40 {σ : hs_T} (h : mS σ) : hs_gN σ 10 0 40 = some 29 := pb_gN h.2.1 (by rw [h.1]; decide) h.2.2.2.2.2.2.2.2.2.2.2.2.2.2.2.2.2.2.2.2.2.2.2.2.2.2.2.2.2.2.2.2.2.2.2.2.2.2.2.2.2.2.2.2.2.2.2.2.2.2.2.2.2.2.2.2.2.2.2.2.2.2.2.2.2.2.2.2.2.2.2.2.2.2.2.2.2.2.2.2.2.2.2.2.2.2.2.2.2.2.2.2.1
theorem m_g41 {σ : hs_T} (h : mS σ) : hs_gN σ 10 0 41 = some 30 := pb_gN h.2.1 (by rw [h.1]; decide) h.2.2.2.2.2.2.2.2.2.2.2.2.2.2.2.2.2.2.2.2.2.2.2.2.2.2.2.2.2.2.2.2.2.2.2.2.2.2.2.2.2.2.2.2.2.2.2.2.2.2.2.2.2.2.2.2.2.2.2.2.2.2.2.2.2.2.2.2.2.2.2.2.2.2.2.2.2.2.2.2.2.2.2.2.2.2.2.2.2.2.2.2.2.1
theorem m_g42 {σ : hs_T} (h : mS σ) : hs_gN σ 10 0 42 = some 31 := pb_gN h.2.1 (by rw [h.1]; decide) h.2.2.2.2.2.2.2.2.2.2.2.2.2.2.2.2.2.2.2.2.2.2.2.2.2.2.2.2.2.2.2.2.2.2.2.2.2.2.2.2.2.2.2.2.2.2.2.2.2.2.2.2.2.2.2.2.2.2.2.2.2.2.2.2.2.2.2.2.2.2.2.2.2.2.2.2.2.2.2.2.2.2.2.2.2.2.2.2.2.2.2.2.2.2
theorem m_ld1 {σ : hs_T} (h : mS σ) {i : Nat} (hi : i < 120) : hs_ld σ 11 1 (nI i) = some (hs_R σ 1 i) := pb_ld h.2.2.1 (by rw [h.1]; decide) h.2.2.2.2.2.2.2.2.2.2.2.2.2.2.2.2.2.2.2.2.2.2.2.2.2.2.2.2.2.2.2.2.2.1 hi (by decide)
theorem m_st1 {σ : hs_T} (h : mS σ) {i : Nat} {v : Int32} (hi : i < 120) : hs_st σ 11 1 (nI i) v = some (hs_wR σ 1 i v) := pb_st h.2.2.1 (by rw [h.1]; decide) h.2.2.2.2.2.2.2.2.2.2.2.2.2.2.2.2.2.2.2.2.2.2.2.2.2.2.2.2.2.2.2.2.2.1 hi (by decide)
theorem m_ld2 {σ : hs_T} (h : mS σ) {i : Nat} (hi : i < 720) : hs_ld σ 11 2 (nI i) = some (hs_R σ 2 i) := pb_ld h.2.2.2.1 (by rw [h.1]; decide) h.2.2.2.2.2.2.2.2.2.2.2.2.2.2.2.2.2.2.2.2.2.2.2.2.2.2.2.2.2.2.2.2.2.2.1 hi (by decide)
theorem m_st2 {σ : hs_T} (h : mS σ) {i : Nat} {v : Int32} (hi : i < 720) : hs_st σ 11 2 (nI i) v = some (hs_wR σ 2 i v) := pb_st h.2.2.2.1 (by rw [h.1]; decide) h.2.2.2.2.2.2.2.2.2.2.2.2.2.2.2.2.2.2.2.2.2.2.2.2.2.2.2.2.2.2.2.2.2.2.1 hi (by decide)
theorem m_ld3 {σ : hs_T} (h : mS σ) {i : Nat} (hi : i < 720) : hs_ld σ 11 3 (nI i) = some (hs_R σ 3 i) := pb_ld h.2.2.2.2.1 (by rw [h.1]; decide) h.2.2.2.2.2.2.2.2.2.2.2.2.2.2.2.2.2.2.2.2.2.2.2.2.2.2.2.2.2.2.2.2.2.2.2.1 hi (by decide)
theorem m_st3 {σ : hs_T} (h : mS σ) {i : Nat} {v : Int32} (hi : i < 720) : hs_st σ 11 3 (nI i) v = some (hs_wR σ 3 i v) := pb_st h.2.2.2.2.1 (by rw [h.1]; decide) h.2.2.2.2.2.2.2.2.2.2.2.2.2.2.2.2.2.2.2.2.2.2.2.2.2.2.2.2.2.2.2.2.2.2.2.1 hi (by decide)
theorem m_ld4 {σ : hs_T} (h : mS σ) {i : Nat} (hi : i < 30) : hs_ld σ 11 4 (nI i) = some (hs_R σ 4 i) := pb_ld h.2.2.2.2.2.1 (by rw [h.1]; decide) h.2.2.2.2.2.2.2.2.2.2.2.2.2.2.2.2.2.2.2.2.2.2.2.2.2.2.2.2.2.2.2.2.2.2.2.2.1 hi (by decide)
theorem m_st4 {σ : hs_T} (h : mS σ) {i : Nat} {v : Int32} (hi : i < 30) : hs_st σ 11 4 (nI i) v = some (hs_wR σ 4 i v) := pb_st h.2.2.2.2.2.1 (by rw [h.1]; decide) h.2.2.2.2.2.2.2.2.2.2.2.2.2.2.2.2.2.2.2.2.2.2.2.2.2.2.2.2.2.2.2.2.2.2.2.2.1 hi (by decide)
theorem m_ld5 {σ : hs_T} (h : mS σ) {i : Nat} (hi : i < 15) : hs_ld σ 12 5 (nI i) = some (hs_R σ 5 i) := pb_ld h.2.2.2.2.2.2.1 (by rw [h.1]; decide) h.2.2.2.2.2.2.2.2.2.2.2.2.2.2.2.2.2.2.2.2.2.2.2.2.2.2.2.2.2.2.2.2.2.2.2.2.2.1 hi (by decide)
theorem m_st5 {σ : hs_T} (h : mS σ) {i : Nat} {v : Int32} (hi : i < 15) : hs_st σ 12 5 (nI i) v = some (hs_wR σ 5 i v) := pb_st h.2.2.2.2.2.2.1 (by rw [h.1]; decide) h.2.2.2.2.2.2.2.2.2.2.2.2.2.2.2.2.2.2.2.2.2.2.2.2.2.2.2.2.2.2.2.2.2.2.2.2.2.1 hi (by decide)
theorem m_ld6 {σ : hs_T} (h : mS σ) {i : Nat} (hi : i < 24) : hs_ld σ 11 6 (nI i) = some (hs_R σ 6 i) := pb_ld h.2.2.2.2.2.2.2.1 (by rw [h.1]; decide) h.2.2.2.2.2.2.2.2.2.2.2.2.2.2.2.2.2.2.2.2.2.2.2.2.2.2.2.2.2.2.2.2.2.2.2.2.2.2.1 hi (by decide)
theorem m_st6 {σ : hs_T} (h : mS σ) {i : Nat} {v : Int32} (hi : i < 24) : hs_st σ 11 6 (nI i) v = some (hs_wR σ 6 i v) := pb_st h.2.2.2.2.2.2.2.1 (by rw [h.1]; decide) h.2.2.2.2.2.2.2.2.2.2.2.2.2.2.2.2.2.2.2.2.2.2.2.2.2.2.2.2.2.2.2.2.2.2.2.2.2.2.1 hi (by decide)
theorem m_ld7 {σ : hs_T} (h : mS σ) {i : Nat} (hi : i < 24) : hs_ld σ 11 7 (nI i) = some (hs_R σ 7 i) := pb_ld h.2.2.2.2.2.2.2.2.1 (by rw [h.1]; decide) h.2.2.2.2.2.2.2.2.2.2.2.2.2.2.2.2.2.2.2.2.2.2.2.2.2.2.2.2.2.2.2.2.2.2.2.2.2.2.2.1 hi (by decide)
theorem m_st7 {σ : hs_T} (h : mS σ) {i : Nat} {v : Int32} (hi : i < 24) : hs_st σ 11 7 (nI i) v = some (hs_wR σ 7 i v) := pb_st h.2.2.2.2.2.2.2.2.1 (by rw [h.1]; decide) h.2.2.2.2.2.2.2.2.2.2.2.2.2.2.2.2.2.2.2.2.2.2.2.2.2.2.2.2.2.2.2.2.2.2.2.2.2.2.2.1 hi (by decide)
theorem m_ld8 {σ : hs_T} (h : mS σ) {i : Nat} (hi : i < 120) : hs_ld σ 11 8 (nI i) = some (hs_R σ 8 i) := pb_ld h.2.2.2.2.2.2.2.2.2.1 (by rw [h.1]; decide) h.2.2.2.2.2.2.2.2.2.2.2.2.2.2.2.2.2.2.2.2.2.2.2.2.2.2.2.2.2.2.2.2.2.2.2.2.2.2.2.2.1 hi (by decide)
theorem m_st8 {σ : hs_T} (h : mS σ) {i : Nat} {v : Int32} (hi : i < 120) : hs_st σ 11 8 (nI i) v = some (hs_wR σ 8 i v) := pb_st h.2.2.2.2.2.2.2.2.2.1 (by rw [h.1]; decide) h.2.2.2.2.2.2.2.2.2.2.2.2.2.2.2.2.2.2.2.2.2.2.2.2.2.2.2.2.2.2.2.2.2.2.2.2.2.2.2.2.1 hi (by decide)
theorem m_ld9 {σ : hs_T} (h : mS σ) {i : Nat} (hi : i < 8) : hs_ld σ 11 9 (nI i) = some (hs_R σ 9 i) := pb_ld h.2.2.2.2.2.2.2.2.2.2.1 (by rw [h.1]; decide) h.2.2.2.2.2.2.2.2.2.2.2.2.2.2.2.2.2.2.2.2.2.2.2.2.2.2.2.2.2.2.2.2.2.2.2.2.2.2.2.2.2.1 hi (by decide)
theorem m_st9 {σ : hs_T} (h : mS σ) {i : Nat} {v : Int32} (hi : i < 8) : hs_st σ 11 9 (nI i) v = some (hs_wR σ 9 i v) := pb_st h.2.2.2.2.2.2.2.2.2.2.1 (by rw [h.1]; decide) h.2.2.2.2.2.2.2.2.2.2.2.2.2.2.2.2.2.2.2.2.2.2.2.2.2.2.2.2.2.2.2.2.2.2.2.2.2.2.2.2.2.1 hi (by decide)
theorem m_ld10 {σ : hs_T} (h : mS σ) {i : Nat} (hi : i < 15) : hs_ld σ 11 10 (nI i) = some (hs_R σ 10 i) := pb_ld h.2.2.2.2.2.2.2.2.2.2.2.1 (by rw [h.1]; decide) h.2.2.2.2.2.2.2.2.2.2.2.2.2.2.2.2.2.2.2.2.2.2.2.2.2.2.2.2.2.2.2.2.2.2.2.2.2.2.2.2.2.2.1 hi (by decide)
theorem m_st10 {σ : hs_T} (h : mS σ) {i : Nat} {v : Int32} (hi : i < 15) : hs_st σ 11 10 (nI i) v = some (hs_wR σ 10 i v) := pb_st h.2.2.2.2.2.2.2.2.2.2.2.1 (by rw [h.1]; decide) h.2.2.2.2.2.2.2.2.2.2.2.2.2.2.2.2.2.2.2.2.2.2.2.2.2.2.2.2.2.2.2.2.2.2.2.2.2.2.2.2.2.2.1 hi (by decide)
theorem m_ld11 {σ : hs_T} (h : mS σ) {i : Nat} (hi : i < 15) : hs_ld σ 11 11 (nI i) = some (hs_R σ 11 i) := pb_ld h.2.2.2.2.2.2.2.2.2.2.2.2.1 (by rw [h.1]; decide) h.2.2.2.2.2.2.2.2.2.2.2.2.2.2.2.2.2.2.2.2.2.2.2.2.2.2.2.2.2.2.2.2.2.2.2.2.2.2.2.2.2.2.2.1 hi (by decide)
theorem m_st11 {σ : hs_T} (h : mS σ) {i : Nat} {v : Int32} (hi : i < 15) : hs_st σ 11 11 (nI i) v = some (hs_wR σ 11 i v) := pb_st h.2.2.2.2.2.2.2.2.2.2.2.2.1 (by rw [h.1]; decide) h.2.2.2.2.2.2.2.2.2.2.2.2.2.2.2.2.2.2.2.2.2.2.2.2.2.2.2.2.2.2.2.2.2.2.2.2.2.2.2.2.2.2.2.1 hi (by decide)
theorem m_ld12 {σ : hs_T} (h : mS σ) {i : Nat} (hi : i < 15) : hs_ld σ 11 12 (nI i) = some (hs_R σ 12 i) := pb_ld h.2.2.2.2.2.2.2.2.2.2.2.2.2.1 (by rw [h.1]; decide) h.2.2.2.2.2.2.2.2.2.2.2.2.2.2.2.2.2.2.2.2.2.2.2.2.2.2.2.2.2.2.2.2.2.2.2.2.2.2.2.2.2.2.2.2.1 hi (by decide)
theorem m_st12 {σ : hs_T} (h : mS σ) {i : Nat} {v : Int32} (hi : i < 15) : hs_st σ 11 12 (nI i) v = some (hs_wR σ 12 i v) := pb_st h.2.2.2.2.2.2.2.2.2.2.2.2.2.1 (by rw [h.1]; decide) h.2.2.2.2.2.2.2.2.2.2.2.2.2.2.2.2.2.2.2.2.2.2.2.2.2.2.2.2.2.2.2.2.2.2.2.2.2.2.2.2.2.2.2.2.1 hi (by decide)
theorem m_ld13 {σ : hs_T} (h : mS σ) {i : Nat} (hi : i < 7) : hs_ld σ 11 13 (nI i) = some (hs_R σ 13 i) := pb_ld h.2.2.2.2.2.2.2.2.2.2.2.2.2.2.1 (by rw [h.1]; decide) h.2.2.2.2.2.2.2.2.2.2.2.2.2.2.2.2.2.2.2.2.2.2.2.2.2.2.2.2.2.2.2.2.2.2.2.2.2.2.2.2.2.2.2.2.2.1 hi (by decide)
theorem m_st13 {σ : hs_T} (h : mS σ) {i : Nat} {v : Int32} (hi : i < 7) : hs_st σ 11 13 (nI i) v = some (hs_wR σ 13 i v) := pb_st h.2.2.2.2.2.2.2.2.2.2.2.2.2.2.1 (by rw [h.1]; decide) h.2.2.2.2.2.2.2.2.2.2.2.2.2.2.2.2.2.2.2.2.2.2.2.2.2.2.2.2.2.2.2.2.2.2.2.2.2.2.2.2.2.2.2.2.2.1 hi (by decide)
theorem m_ld14 {σ : hs_T} (h : mS σ) {i : Nat} (hi : i < 9) : hs_ld σ 11 14 (nI i) = some (hs_R σ 14 i) := pb_ld h.2.2.2.2.2.2.2.2.2.2.2.2.2.2.2.1 (by rw [h.1]; decide) h.2.2.2.2.2.2.2.2.2.2.2.2.2.2.2.2.2.2.2.2.2.2.2.2.2.2.2.2.2.2.2.2.2.2.2.2.2.2.2.2.2.2.2.2.2.2.1 hi (by decide)
theorem m_st14 {σ : hs_T} (h : mS σ) {i : Nat} {v : Int32} (hi : i < 9) : hs_st σ 11 14 (nI i) v = some (hs_wR σ 14 i v) := pb_st h.2.2.2.2.2.2.2.2.2.2.2.2.2.2.2.1 (by rw [h.1]; decide) h.2.2.2.2.2.2.2.2.2.2.2.2.2.2.2.2.2.2.2.2.2.2.2.2.2.2.2.2.2.2.2.2.2.2.2.2.2.2.2.2.2.2.2.2.2.2.1 hi (by decide)
theorem m_ld15 {σ : hs_T} (h : mS σ) {i : Nat} (hi : i < 400) : hs_ld σ 11 15 (nI i) = some (hs_R σ 15 i) := pb_ld h.2.2.2.2.2.2.2.2.2.2.2.2.2.2.2.2.1 (by rw [h.1]; decide) h.2.2.2.2.2.2.2.2.2.2.2.2.2.2.2.2.2.2.2.2.2.2.2.2.2.2.2.2.2.2.2.2.2.2.2.2.2.2.2.2.2.2.2.2.2.2.2.1 hi (by decide)
theorem m_st15 {σ : hs_T} (h : mS σ) {i : Nat} {v : Int32} (hi : i < 400) : hs_st σ 11 15 (nI i) v = some (hs_wR σ 15 i v) := pb_st h.2.2.2.2.2.2.2.2.2.2.2.2.2.2.2.2.1 (by rw [h.1]; decide) h.2.2.2.2.2.2.2.2.2.2.2.2.2.2.2.2.2.2.2.2.2.2.2.2.2.2.2.2.2.2.2.2.2.2.2.2.2.2.2.2.2.2.2.2.2.2.2.1 hi (by decide)
theorem m_ld16 {σ : hs_T} (h : mS σ) {i : Nat} (hi : i < 400) : hs_ld σ 11 16 (nI i) = some (hs_R σ 16 i) := pb_ld h.2.2.2.2.2.2.2.2.2.2.2.2.2.2.2.2.2.1 (by rw [h.1]; decide) h.2.2.2.2.2.2.2.2.2.2.2.2.2.2.2.2.2.2.2.2.2.2.2.2.2.2.2.2.2.2.2.2.2.2.2.2.2.2.2.2.2.2.2.2.2.2.2.2.1 hi (by decide)
theorem m_st16 {σ : hs_T} (h : mS σ) {i : Nat} {v : Int32} (hi : i < 400) : hs_st σ 11 16 (nI i) v = some (hs_wR σ 16 i v) := pb_st h.2.2.2.2.2.2.2.2.2.2.2.2.2.2.2.2.2.1 (by rw [h.1]; decide) h.2.2.2.2.2.2.2.2.2.2.2.2.2.2.2.2.2.2.2.2.2.2.2.2.2.2.2.2.2.2.2.2.2.2.2.2.2.2.2.2.2.2.2.2.2.2.2.2.1 hi (by decide)
theorem m_ld17 {σ : hs_T} (h : mS σ) {i : Nat} (hi : i < 400) : hs_ld σ 11 17 (nI i) = some (hs_R σ 17 i) := pb_ld h.2.2.2.2.2.2.2.2.2.2.2.2.2.2.2.2.2.2.1 (by rw [h.1]; decide) h.2.2.2.2.2.2.2.2.2.2.2.2.2.2.2.2.2.2.2.2.2.2.2.2.2.2.2.2.2.2.2.2.2.2.2.2.2.2.2.2.2.2.2.2.2.2.2.2.2.1 hi (by decide)
theorem m_st17 {σ : hs_T} (h : mS σ) {i : Nat} {v : Int32} (hi : i < 400) : hs_st σ 11 17 (nI i) v = some (hs_wR σ 17 i v) := pb_st h.2.2.2.2.2.2.2.2.2.2.2.2.2.2.2.2.2.2.1 (by rw [h.1]; decide) h.2.2.2.2.2.2.2.2.2.2.2.2.2.2.2.2.2.2.2.2.2.2.2.2.2.2.2.2.2.2.2.2.2.2.2.2.2.2.2.2.2.2.2.2.2.2.2.2.2.1 hi (by decide)
theorem m_ld18 {σ : hs_T} (h : mS σ) {i : Nat} (hi : i < 400) : hs_ld σ 11 18 (nI i) = some (hs_R σ 18 i) := pb_ld h.2.2.2.2.2.2.2.2.2.2.2.2.2.2.2.2.2.2.2.1 (by rw [h.1]; decide) h.2.2.2.2.2.2.2.2.2.2.2.2.2.2.2.2.2.2.2.2.2.2.2.2.2.2.2.2.2.2.2.2.2.2.2.2.2.2.2.2.2.2.2.2.2.2.2.2.2.2.1 hi (by decide)
theorem m_st18 {σ : hs_T} (h : mS σ) {i : Nat} {v : Int32} (hi : i < 400) : hs_st σ 11 18 (nI i) v = some (hs_wR σ 18 i v) := pb_st h.2.2.2.2.2.2.2.2.2.2.2.2.2.2.2.2.2.2.2.1 (by rw [h.1]; decide) h.2.2.2.2.2.2.2.2.2.2.2.2.2.2.2.2.2.2.2.2.2.2.2.2.2.2.2.2.2.2.2.2.2.2.2.2.2.2.2.2.2.2.2.2.2.2.2.2.2.2.1 hi (by decide)
theorem m_ld19 {σ : hs_T} (h : mS σ) {i : Nat} (hi : i < 400) : hs_ld σ 11 19 (nI i) = some (hs_R σ 19 i) := pb_ld h.2.2.2.2.2.2.2.2.2.2.2.2.2.2.2.2.2.2.2.2.1 (by rw [h.1]; decide) h.2.2.2.2.2.2.2.2.2.2.2.2.2.2.2.2.2.2.2.2.2.2.2.2.2.2.2.2.2.2.2.2.2.2.2.2.2.2.2.2.2.2.2.2.2.2.2.2.2.2.2.1 hi (by decide)
theorem m_st19 {σ : hs_T} (h : mS σ) {i : Nat} {v : Int32} (hi : i < 400) : hs_st σ 11 19 (nI i) v = some (hs_wR σ 19 i v) := pb_st h.2.2.2.2.2.2.2.2.2.2.2.2.2.2.2.2.2.2.2.2.1 (by rw [h.1]; decide) h.2.2.2.2.2.2.2.2.2.2.2.2.2.2.2.2.2.2.2.2.2.2.2.2.2.2.2.2.2.2.2.2.2.2.2.2.2.2.2.2.2.2.2.2.2.2.2.2.2.2.2.1 hi (by decide)
theorem m_ld20 {σ : hs_T} (h : mS σ) {i : Nat} (hi : i < 400) : hs_ld σ 11 20 (nI i) = some (hs_R σ 20 i) := pb_ld h.2.2.2.2.2.2.2.2.2.2.2.2.2.2.2.2.2.2.2.2.2.1 (by rw [h.1]; decide) h.2.2.2.2.2.2.2.2.2.2.2.2.2.2.2.2.2.2.2.2.2.2.2.2.2.2.2.2.2.2.2.2.2.2.2.2.2.2.2.2.2.2.2.2.2.2.2.2.2.2.2.2.1 hi (by decide)
theorem m_st20 {σ : hs_T} (h : mS σ) {i : Nat} {v : Int32} (hi : i < 400) : hs_st σ 11 20 (nI i) v = some (hs_wR σ 20 i v) := pb_st h.2.2.2.2.2.2.2.2.2.2.2.2.2.2.2.2.2.2.2.2.2.1 (by rw [h.1]; decide) h.2.2.2.2.2.2.2.2.2.2.2.2.2.2.2.2.2.2.2.2.2.2.2.2.2.2.2.2.2.2.2.2.2.2.2.2.2.2.2.2.2.2.2.2.2.2.2.2.2.2.2.2.1 hi (by decide)
theorem m_ld21 {σ : hs_T} (h : mS σ) {i : Nat} (hi : i < 1500) : hs_ld σ 12 21 (nI i) = some (hs_R σ 21 i) := pb_ld h.2.2.2.2.2.2.2.2.2.2.2.2.2.2.2.2.2.2.2.2.2.2.1 (by rw [h.1]; decide) h.2.2.2.2.2.2.2.2.2.2.2.2.2.2.2.2.2.2.2.2.2.2.2.2.2.2.2.2.2.2.2.2.2.2.2.2.2.2.2.2.2.2.2.2.2.2.2.2.2.2.2.2.2.1 hi (by decide)
theorem m_st21 {σ : hs_T} (h : mS σ) {i : Nat} {v : Int32} (hi : i < 1500) : hs_st σ 12 21 (nI i) v = some (hs_wR σ 21 i v) := pb_st h.2.2.2.2.2.2.2.2.2.2.2.2.2.2.2.2.2.2.2.2.2.2.1 (by rw [h.1]; decide) h.2.2.2.2.2.2.2.2.2.2.2.2.2.2.2.2.2.2.2.2.2.2.2.2.2.2.2.2.2.2.2.2.2.2.2.2.2.2.2.2.2.2.2.2.2.2.2.2.2.2.2.2.2.1 hi (by decide)
theorem m_ld22 {σ : hs_T} (h : mS σ) {i : Nat} (hi : i < 45) : hs_ld σ 11 22 (nI i) = some (hs_R σ 22 i) := pb_ld h.2.2.2.2.2.2.2.2.2.2.2.2.2.2.2.2.2.2.2.2.2.2.2.1 (by rw [h.1]; decide) h.2.2.2.2.2.2.2.2.2.2.2.2.2.2.2.2.2.2.2.2.2.2.2.2.2.2.2.2.2.2.2.2.2.2.2.2.2.2.2.2.2.2.2.2.2.2.2.2.2.2.2.2.2.2.1 hi (by decide)
theorem m_st22 {σ : hs_T} (h : mS σ) {i : Nat} {v : Int32} (hi : i < 45) : hs_st σ 11 22 (nI i) v = some (hs_wR σ 22 i v) := pb_st h.2.2.2.2.2.2.2.2.2.2.2.2.2.2.2.2.2.2.2.2.2.2.2.1 (by rw [h.1]; decide) h.2.2.2.2.2.2.2.2.2.2.2.2.2.2.2.2.2.2.2.2.2.2.2.2.2.2.2.2.2.2.2.2.2.2.2.2.2.2.2.2.2.2.2.2.2.2.2.2.2.2.2.2.2.2.1 hi (by decide)
theorem m_ld23 {σ : hs_T} (h : mS σ) {i : Nat} (hi : i < 45) : hs_ld σ 11 23 (nI i) = some (hs_R σ 23 i) := pb_ld h.2.2.2.2.2.2.2.2.2.2.2.2.2.2.2.2.2.2.2.2.2.2.2.2.1 (by rw [h.1]; decide) h.2.2.2.2.2.2.2.2.2.2.2.2.2.2.2.2.2.2.2.2.2.2.2.2.2.2.2.2.2.2.2.2.2.2.2.2.2.2.2.2.2.2.2.2.2.2.2.2.2.2.2.2.2.2.2.1 hi (by decide)
theorem m_st23 {σ : hs_T} (h : mS σ) {i : Nat} {v : Int32} (hi : i < 45) : hs_st σ 11 23 (nI i) v = some (hs_wR σ 23 i v) := pb_st h.2.2.2.2.2.2.2.2.2.2.2.2.2.2.2.2.2.2.2.2.2.2.2.2.1 (by rw [h.1]; decide) h.2.2.2.2.2.2.2.2.2.2.2.2.2.2.2.2.2.2.2.2.2.2.2.2.2.2.2.2.2.2.2.2.2.2.2.2.2.2.2.2.2.2.2.2.2.2.2.2.2.2.2.2.2.2.2.1 hi (by decide)
theorem m_ld24 {σ : hs_T} (h : mS σ) {i : Nat} (hi : i < 45) : hs_ld σ 11 24 (nI i) = some (hs_R σ 24 i) := pb_ld h.2.2.2.2.2.2.2.2.2.2.2.2.2.2.2.2.2.2.2.2.2.2.2.2.2.1 (by rw [h.1]; decide) h.2.2.2.2.2.2.2.2.2.2.2.2.2.2.2.2.2.2.2.2.2.2.2.2.2.2.2.2.2.2.2.2.2.2.2.2.2.2.2.2.2.2.2.2.2.2.2.2.2.2.2.2.2.2.2.2.1 hi (by decide)
theorem m_st24 {σ : hs_T} (h : mS σ) {i : Nat} {v : Int32} (hi : i < 45) : hs_st σ 11 24 (nI i) v = some (hs_wR σ 24 i v) := pb_st h.2.2.2.2.2.2.2.2.2.2.2.2.2.2.2.2.2.2.2.2.2.2.2.2.2.1 (by rw [h.1]; decide) h.2.2.2.2.2.2.2.2.2.2.2.2.2.2.2.2.2.2.2.2.2.2.2.2.2.2.2.2.2.2.2.2.2.2.2.2.2.2.2.2.2.2.2.2.2.2.2.2.2.2.2.2.2.2.2.2.1 hi (by decide)
theorem m_ld25 {σ : hs_T} (h : mS σ) {i : Nat} (hi : i < 45) : hs_ld σ 11 25 (nI i) = some (hs_R σ 25 i) := pb_ld h.2.2.2.2.2.2.2.2.2.2.2.2.2.2.2.2.2.2.2.2.2.2.2.2.2.2.1 (by rw [h.1]; decide) h.2.2.2.2.2.2.2.2.2.2.2.2.2.2.2.2.2.2.2.2.2.2.2.2.2.2.2.2.2.2.2.2.2.2.2.2.2.2.2.2.2.2.2.2.2.2.2.2.2.2.2.2.2.2.2.2.2.1 hi (by decide)
theorem m_st25 {σ : hs_T} (h : mS σ) {i : Nat} {v : Int32} (hi : i < 45) : hs_st σ 11 25 (nI i) v = some (hs_wR σ 25 i v) := pb_st h.2.2.2.2.2.2.2.2.2.2.2.2.2.2.2.2.2.2.2.2.2.2.2.2.2.2.1 (by rw [h.1]; decide) h.2.2.2.2.2.2.2.2.2.2.2.2.2.2.2.2.2.2.2.2.2.2.2.2.2.2.2.2.2.2.2.2.2.2.2.2.2.2.2.2.2.2.2.2.2.2.2.2.2.2.2.2.2.2.2.2.2.1 hi (by decide)
theorem m_ld26 {σ : hs_T} (h : mS σ) {i : Nat} (hi : i < 18) : hs_ld σ 11 26 (nI i) = some (hs_R σ 26 i) := pb_ld h.2.2.2.2.2.2.2.2.2.2.2.2.2.2.2.2.2.2.2.2.2.2.2.2.2.2.2.1 (by rw [h.1]; decide) h.2.2.2.2.2.2.2.2.2.2.2.2.2.2.2.2.2.2.2.2.2.2.2.2.2.2.2.2.2.2.2.2.2.2.2.2.2.2.2.2.2.2.2.2.2.2.2.2.2.2.2.2.2.2.2.2.2.2.1 hi (by decide)
theorem m_st26 {σ : hs_T} (h : mS σ) {i : Nat} {v : Int32} (hi : i < 18) : hs_st σ 11 26 (nI i) v = some (hs_wR σ 26 i v) := pb_st h.2.2.2.2.2.2.2.2.2.2.2.2.2.2.2.2.2.2.2.2.2.2.2.2.2.2.2.1 (by rw [h.1]; decide) h.2.2.2.2.2.2.2.2.2.2.2.2.2.2.2.2.2.2.2.2.2.2.2.2.2.2.2.2.2.2.2.2.2.2.2.2.2.2.2.2.2.2.2.2.2.2.2.2.2.2.2.2.2.2.2.2.2.2.1 hi (by decide)
theorem m_ld27 {σ : hs_T} (h : mS σ) {i : Nat} (hi : i < 7500) : hs_ld σ 11 27 (nI i) = some (hs_R σ 27 i) := pb_ld h.2.2.2.2.2.2.2.2.2.2.2.2.2.2.2.2.2.2.2.2.2.2.2.2.2.2.2.2.1 (by rw [h.1]; decide) h.2.2.2.2.2.2.2.2.2.2.2.2.2.2.2.2.2.2.2.2.2.2.2.2.2.2.2.2.2.2.2.2.2.2.2.2.2.2.2.2.2.2.2.2.2.2.2.2.2.2.2.2.2.2.2.2.2.2.2.1 hi (by decide)
theorem m_st27 {σ : hs_T} (h : mS σ) {i : Nat} {v : Int32} (hi : i < 7500) : hs_st σ 11 27 (nI i) v = some (hs_wR σ 27 i v) := pb_st h.2.2.2.2.2.2.2.2.2.2.2.2.2.2.2.2.2.2.2.2.2.2.2.2.2.2.2.2.1 (by rw [h.1]; decide) h.2.2.2.2.2.2.2.2.2.2.2.2.2.2.2.2.2.2.2.2.2.2.2.2.2.2.2.2.2.2.2.2.2.2.2.2.2.2.2.2.2.2.2.2.2.2.2.2.2.2.2.2.2.2.2.2.2.2.2.1 hi (by decide)
theorem m_ld28 {σ : hs_T} (h : mS σ) {i : Nat} (hi : i < 5) : hs_ld σ 11 28 (nI i) = some (hs_R σ 28 i) := pb_ld h.2.2.2.2.2.2.2.2.2.2.2.2.2.2.2.2.2.2.2.2.2.2.2.2.2.2.2.2.2.1 (by rw [h.1]; decide) h.2.2.2.2.2.2.2.2.2.2.2.2.2.2.2.2.2.2.2.2.2.2.2.2.2.2.2.2.2.2.2.2.2.2.2.2.2.2.2.2.2.2.2.2.2.2.2.2.2.2.2.2.2.2.2.2.2.2.2.2.1 hi (by decide)
theorem m_st28 {σ : hs_T} (h : mS σ) {i : Nat} {v : Int32} (hi : i < 5) : hs_st σ 11 28 (nI i) v = some (hs_wR σ 28 i v) := pb_st h.2.2.2.2.2.2.2.2.2.2.2.2.2.2.2.2.2.2.2.2.2.2.2.2.2.2.2.2.2.1 (by rw [h.1]; decide) h.2.2.2.2.2.2.2.2.2.2.2.2.2.2.2.2.2.2.2.2.2.2.2.2.2.2.2.2.2.2.2.2.2.2.2.2.2.2.2.2.2.2.2.2.2.2.2.2.2.2.2.2.2.2.2.2.2.2.2.2.1 hi (by decide)
theorem m_ld29 {σ : hs_T} (h : mS σ) {i : Nat} (hi : i < 5) : hs_ld σ 11 29 (nI i) = some (hs_R σ 29 i) := pb_ld h.2.2.2.2.2.2.2.2.2.2.2.2.2.2.2.2.2.2.2.2.2.2.2.2.2.2.2.2.2.2.1 (by rw [h.1]; decide) h.2.2.2.2.2.2.2.2.2.2.2.2.2.2.2.2.2.2.2.2.2.2.2.2.2.2.2.2.2.2.2.2.2.2.2.2.2.2.2.2.2.2.2.2.2.2.2.2.2.2.2.2.2.2.2.2.2.2.2.2.2.1 hi (by decide)
theorem m_st29 {σ : hs_T} (h : mS σ) {i : Nat} {v : Int32} (hi : i < 5) : hs_st σ 11 29 (nI i) v = some (hs_wR σ 29 i v) := pb_st h.2.2.2.2.2.2.2.2.2.2.2.2.2.2.2.2.2.2.2.2.2.2.2.2.2.2.2.2.2.2.1 (by rw [h.1]; decide) h.2.2.2.2.2.2.2.2.2.2.2.2.2.2.2.2.2.2.2.2.2.2.2.2.2.2.2.2.2.2.2.2.2.2.2.2.2.2.2.2.2.2.2.2.2.2.2.2.2.2.2.2.2.2.2.2.2.2.2.2.2.1 hi (by decide)
theorem m_ld30 {σ : hs_T} (h : mS σ) {i : Nat} (hi : i < 5) : hs_ld σ 11 30 (nI i) = some (hs_R σ 30 i) := pb_ld h.2.2.2.2.2.2.2.2.2.2.2.2.2.2.2.2.2.2.2.2.2.2.2.2.2.2.2.2.2.2.2.1 (by rw [h.1]; decide) h.2.2.2.2.2.2.2.2.2.2.2.2.2.2.2.2.2.2.2.2.2.2.2.2.2.2.2.2.2.2.2.2.2.2.2.2.2.2.2.2.2.2.2.2.2.2.2.2.2.2.2.2.2.2.2.2.2.2.2.2.2.2.1 hi (by decide)
theorem m_st30 {σ : hs_T} (h : mS σ) {i : Nat} {v : Int32} (hi : i < 5) : hs_st σ 11 30 (nI i) v = some (hs_wR σ 30 i v) := pb_st h.2.2.2.2.2.2.2.2.2.2.2.2.2.2.2.2.2.2.2.2.2.2.2.2.2.2.2.2.2.2.2.1 (by rw [h.1]; decide) h.2.2.2.2.2.2.2.2.2.2.2.2.2.2.2.2.2.2.2.2.2.2.2.2.2.2.2.2.2.2.2.2.2.2.2.2.2.2.2.2.2.2.2.2.2.2.2.2.2.2.2.2.2.2.2.2.2.2.2.2.2.2.1 hi (by decide)
theorem m_ld31 {σ : hs_T} (h : mS σ) {i : Nat} (hi : i < 5) : hs_ld σ 11 31 (nI i) = some (hs_R σ 31 i) := pb_ld h.2.2.2.2.2.2.2.2.2.2.2.2.2.2.2.2.2.2.2.2.2.2.2.2.2.2.2.2.2.2.2.2.1 (by rw [h.1]; decide) h.2.2.2.2.2.2.2.2.2.2.2.2.2.2.2.2.2.2.2.2.2.2.2.2.2.2.2.2.2.2.2.2.2.2.2.2.2.2.2.2.2.2.2.2.2.2.2.2.2.2.2.2.2.2.2.2.2.2.2.2.2.2.2.1 hi (by decide)
theorem m_st31 {σ : hs_T} (h : mS σ) {i : Nat} {v : Int32} (hi : i < 5) : hs_st σ 11 31 (nI i) v = some (hs_wR σ 31 i v) := pb_st h.2.2.2.2.2.2.2.2.2.2.2.2.2.2.2.2.2.2.2.2.2.2.2.2.2.2.2.2.2.2.2.2.1 (by rw [h.1]; decide) h.2.2.2.2.2.2.2.2.2.2.2.2.2.2.2.2.2.2.2.2.2.2.2.2.2.2.2.2.2.2.2.2.2.2.2.2.2.2.2.2.2.2.2.2.2.2.2.2.2.2.2.2.2.2.2.2.2.2.2.2.2.2.2.1 hi (by decide)
/-- the shape of what the class's heap holds from its constructor on -/
def cS (σ : hs_T) : Prop := 17 ≤ hs_N σ ∧ hs_K σ 0 = 9 ∧ hs_K σ 1 = 11 ∧ hs_K σ 2 = 1 ∧ hs_K σ 3 = 1 ∧ hs_K σ 4 = 8 ∧ hs_K σ 5 = 11 ∧ hs_K σ 6 = 6 ∧ hs_K σ 7 = 11 ∧ hs_K σ 8 = 11 ∧ hs_K σ 9 = 3 ∧ hs_K σ 10 = 11 ∧ hs_K σ 11 = 11 ∧ hs_K σ 12 = 4 ∧ hs_K σ 13 = 11 ∧ hs_K σ 14 = 11 ∧ hs_K σ 15 = 11 ∧ hs_K σ 16 = 11 ∧ hs_L σ 1 = 7 ∧ hs_L σ 5 = 120 ∧ hs_L σ 7 = 24 ∧ hs_L σ 8 = 24 ∧ hs_L σ 10 = 8 ∧ hs_L σ 11 = 8 ∧ hs_L σ 13 = 400 ∧ hs_L σ 14 = 400 ∧ hs_L σ 15 = 400 ∧ hs_L σ 16 = 5 ∧ hs_G σ 0 0 = some 1 ∧ hs_G σ 1 0 = some 2 ∧ hs_G σ 2 0 = some 3 ∧ hs_G σ 3 0 = some 4 ∧ hs_G σ 4 0 = some 6 ∧ hs_G σ 5 0 = some 9 ∧ hs_G σ 6 0 = some 12 ∧ hs_G σ 7 0 = some 16 ∧ hs_G σ 0 4 = some 5 ∧ hs_G σ 0 6 = some 7 ∧ hs_G σ 1 6 = some 8 ∧ hs_G σ 0 9 = some 10 ∧ hs_G σ 1 9 = some 11 ∧ hs_G σ 0 12 = some 13 ∧ hs_G σ 1 12 = some 14 ∧ hs_G σ 2 12 = some 15
theorem c_ck0 {σ : hs_T} (h : cS σ) : hs_ck σ 9 0 = some () := pb_ck h.2.1 (Nat.lt_of_lt_of_le (by decide) h.1)
theorem c_gI0 {σ : hs_T} (h : cS σ) {k : Nat} : hs_gI σ 9 0 k = some (hs_F σ k 0) := pb_gI h.2.1 (Nat.lt_of_lt_of_le (by decide) h.1)
theorem c_pI0 {σ : hs_T} (h : cS σ) {k : Nat} {v : Int32} : hs_pI σ 9 0 k v = some (hs_wF σ k 0 v) := pb_pI h.2.1 (Nat.lt_of_lt_of_le (by decide) h.1)
theorem c_ld1 {σ : hs_T} (h : cS σ) {i : Nat} (hi : i < 7) : hs_ld σ 11 1 (nI i) = some (hs_R σ 1 i) := pb_ld h.2.2.1 (Nat.lt_of_lt_of_le (by decide) h.1) h.2.2.2.2.2.2.2.2.2.2.2.2.2.2.2.2.2.2.1 hi (by decide)
theorem c_st1 {σ : hs_T} (h : cS σ) {i : Nat} {v : Int32} (hi : i < 7) : hs_st σ 11 1 (nI i) v = some (hs_wR σ 1 i v) := pb_st h.2.2.1 (Nat.lt_of_lt_of_le (by decide) h.1) h.2.2.2.2.2.2.2.2.2.2.2.2.2.2.2.2.2.2.1 hi (by decide)
theorem c_ck2 {σ : hs_T} (h : cS σ) : hs_ck σ 1 2 = some () := pb_ck h.2.2.2.1 (Nat.lt_of_lt_of_le (by decide) h.1)
theorem c_gI2 {σ : hs_T} (h : cS σ) {k : Nat} : hs_gI σ 1 2 k = some (hs_F σ k 2) := pb_gI h.2.2.2.1 (Nat.lt_of_lt_of_le (by decide) h.1)
theorem c_pI2 {σ : hs_T} (h : cS σ) {k : Nat} {v : Int32} : hs_pI σ 1 2 k v = some (hs_wF σ k 2 v) := pb_pI h.2.2.2.1 (Nat.lt_of_lt_of_le (by decide) h.1)
theorem c_ck3 {σ : hs_T} (h : cS σ) : hs_ck σ 1 3 = some () := pb_ck h.2.2.2.2.1 (Nat.lt_of_lt_of_le (by decide) h.1)
theorem c_gI3 {σ : hs_T} (h : cS σ) {k : Nat} : hs_gI σ 1 3 k = some (hs_F σ k 3) := pb_gI h.2.2.2.2.1 (Nat.lt_of_lt_of_le (by decide) h.1)
theorem c_pI3 {σ : hs_T} (h : cS σ) {k : Nat} {v : Int32} : hs_pI σ 1 3 k v = some (hs_wF σ k 3 v) := pb_pI h.2.2.2.2.1 (Nat.lt_of_lt_of_le (by decide) h.1)
theorem c_ck4 {σ : hs_T} (h : cS σ) : hs_ck σ 8 4 = some () := pb_ck h.2.2.2.2.2.1 (Nat.lt_of_lt_of_le (by decide) h.1)
theorem c_gI4 {σ : hs_T} (h : cS σ) {k : Nat} : hs_gI σ 8 4 k = some (hs_F σ k 4) := pb_gI h.2.2.2.2.2.1 (Nat.lt_of_lt_of_le (by decide) h.1)
theorem c_pI4 {σ : hs_T} (h : cS σ) {k : Nat} {v : Int32} : hs_pI σ 8 4 k v = some (hs_wF σ k 4 v) := pb_pI h.2.2.2.2.2.1 (Nat.lt_of_lt_of_le (by decide) h.1)
theorem c_ld5 {σ : hs_T} (h : cS σ) {i : Nat} (hi : i < 120) : hs_ld σ 11 5 (nI i) = some (hs_R σ 5 i) := pb_ld h.2.2.2.2.2.2.1 (Nat.lt_of_lt_of_le (by decide) h.1) h.2.2.2.2.2.2.2.2.2.2.2.2.2.2.2.2.2.2.2.1 hi (by decide)
theorem c_st5 {σ : hs_T} (h : cS σ) {i : Nat} {v : Int32} (hi : i < 120) : hs_st σ 11 5 (nI i) v = some (hs_wR σ 5 i v) := pb_st h.2.2.2.2.2.2.1 (Nat.lt_of_lt_of_le (by decide) h.1) h.2.2.2.2.2.2.2.2.2.2.2.2.2.2.2.2.2.2.2.1 hi (by decide)
theorem c_ck6 {σ : hs_T} (h : cS σ) : hs_ck σ 6 6 = some () := pb_ck h.2.2.2.2.2.2.2.1 (Nat.lt_of_lt_of_le (by decide) h.1)
theorem c_gI6 {σ : hs_T} (h : cS σ) {k : Nat} : hs_gI σ 6 6 k = some (hs_F σ k 6) := pb_gI h.2.2.2.2.2.2.2.1 (Nat.lt_of_lt_of_le (by decide) h.1)
theorem c_pI6 {σ : hs_T} (h : cS σ) {k : Nat} {v : Int32} : hs_pI σ 6 6 k v = some (hs_wF σ k 6 v) := pb_pI h.2.2.2.2.2.2.2.1 (Nat.lt_of_lt_of_le (by decide) h.1)
theorem c_ld7 {σ : hs_T} (h : cS σ) {i : Nat} (hi : i < 24) : hs_ld σ 11 7 (nI i) = some (hs_R σ 7 i) := pb_ld h.2.2.2.2.2.2.2.2.1 (Nat.lt_of_lt_of_le (by decide) h.1) h.2.2.2.2.2.2.2.2.2.2.2.2.2.2.2.2.2.2.2.2.1 hi (by decide)
theorem c_st7 {σ : hs_T} (h : cS σ) {i : Nat} {v : Int32} (hi : i < 24) : hs_st σ 11 7 (nI i) v = some (hs_wR σ 7 i v) := pb_st h.2.2.2.2.2.2.2.2.1 (Nat.lt_of_lt_of_le (by decide) h.1) h.2.2.2.2.2.2.2.2.2.2.2.2.2.2.2.2.2.2.2.2.1 hi (by decide)
theorem c_ld8 {σ : hs_T} (h : cS σ) {i : Nat} (hi : i < 24) : hs_ld σ 11 8 (nI i) = some (hs_R σ 8 i) := pb_ld h.2.2.2.2.2.2.2.2.2.1 (Nat.lt_of_lt_of_le (by decide) h.1) h.2.2.2.2.2.2.2.2.2.2.2.2.2.2.2.2.2.2.2.2.2.1 hi (by decide)
theorem c_st8 {σ : hs_T} (h : cS σ) {i : Nat} {v : Int32} (hi : i < 24) : hs_st σ 11 8 (nI i) v = some (hs_wR σ 8 i v) := pb_st h.2.2.2.2.2.2.2.2.2.1 (Nat.lt_of_lt_of_le (by decide) h.1) h.2.2.2.2.2.2.2.2.2.2.2.2.2.2.2.2.2.2.2.2.2.1 hi (by decide)
theorem c_ck9 {σ : hs_T} (h : cS σ) : hs_ck σ 3 9 = some () := pb_ck h.2.2.2.2.2.2.2.2.2.2.1 (Nat.lt_of_lt_of_le (by decide) h.1)
theorem c_gI9 {σ : hs_T} (h : cS σ) {k : Nat} : hs_gI σ 3 9 k = some (hs_F σ k 9) := pb_gI h.2.2.2.2.2.2.2.2.2.2.1 (Nat.lt_of_lt_of_le (by decide) h.1)
theorem c_pI9 {σ : hs_T} (h : cS σ) {k : Nat} {v : Int32} : hs_pI σ 3 9 k v = some (hs_wF σ k 9 v) := pb_pI h.2.2.2.2.2.2.2.2.2.2.1 (Nat.lt_of_lt_of_le (by decide) h.1)
theorem c_ld10 {σ : hs_T} (h : cS σ) {i : Nat} (hi : i < 8) : hs_ld σ 11 10 (nI i) = some (hs_R σ 10 i) := pb_ld h.2.2.2.2.2.2.2.2.2.2.2.1 (Nat.lt_of_lt_of_le (by decide) h.1) h.2.2.2.2.2.2.2.2.2.2.2.2.2.2.2.2.2.2.2.2.2.2.1 hi (by decide)
theorem c_st10 {σ : hs_T} (h : cS σ) {i : Nat} {v : Int32} (hi : i < 8) : hs_st σ 11 10 (nI i) v = some (hs_wR σ 10 i v) := pb_st h.2.2.2.2.2.2.2.2.2.2.2.1 (Nat.lt_of_lt_of_le (by decide) h.1) h.2.2.2.2.2.2.2.2.2.2.2.2.2.2.2.2.2.2.2.2.2.2.1 hi (by decide)
theorem c_ld11 {σ : hs_T} (h : cS σ) {i : Nat} (hi : i < 8) : hs_ld σ 11 11 (nI i) = some (hs_R σ 11 i) := pb_ld h.2.2.2.2.2.2.2.2.2.2.2.2.1 (Nat.lt_of_lt_of_le (by decide) h.1) h.2.2.2.2.2.2.2.2.2.2.2.2.2.2.2.2.2.2.2.2.2.2.2.1 hi (by decide)
theorem c_st11 {σ : hs_T} (h : cS σ) {i : Nat} {v : Int32} (hi : i < 8) : hs_st σ 11 11 (nI i) v = some (hs_wR σ 11 i v) := pb_st h.2.2.2.2.2.2.2.2.2.2.2.2.1 (Nat.lt_of_lt_of_le (by decide) h.1) h.2.2.2.2.2.2.2.2.2.2.2.2.2.2.2.2.2.2.2.2.2.2.2.1 hi (by decide)
theorem c_ck12 {σ : hs_T} (h : cS σ) : hs_ck σ 4 12 = some () := pb_ck h.2.2.2.2.2.2.2.2.2.2.2.2.2.1 (Nat.lt_of_lt_of_le (by decide) h.1)
theorem c_gI12 {σ : hs_T} (h : cS σ) {k : Nat} : hs_gI σ 4 12 k = some (hs_F σ k 12) := pb_gI h.2.2.2.2.2.2.2.2.2.2.2.2.2.1 (Nat.lt_of_lt_of_le (by decide) h.1)
theorem c_pI12 {σ : hs_T} (h : cS σ) {k : Nat} {v : Int32} : hs_pI σ 4 12 k v = some (hs_wF σ k 12 v) := pb_pI h.2.2.2.2.2.2.2.2.2.2.2.2.2.1 (Nat.lt_of_lt_of_le (by decide) h.1)
theorem c_ld13 {σ : hs_T} (h : cS σ) {i : Nat} (hi : i < 400) : hs_ld σ 11 13 (nI i) = some (hs_R σ 13 i) := pb_ld h.2.2.2.2.2.2.2.2.2.2.2.2.2.2.1 (Nat.lt_of_lt_of_le (by decide) h.1) h.2.2.2.2.2.2.2.2.2.2.2.2.2.2.2.2.2.2.2.2.2.2.2.2.1 hi (by decide)
theorem c_st13 {σ : hs_T} (h : cS σ) {i : Nat} {v : Int32} (hi : i < 400) : hs_st σ 11 13 (nI i) v = some (hs_wR σ 13 i v) := pb_st h.2.2.2.2.2.2.2.2.2.2.2.2.2.2.1 (Nat.lt_of_lt_of_le (by decide) h.1) h.2.2.2.2.2.2.2.2.2.2.2.2.2.2.2.2.2.2.2.2.2.2.2.2.1 hi (by decide)
theorem c_ld14 {σ : hs_T} (h : cS σ) {i : Nat} (hi : i < 400) : hs_ld σ 11 14 (nI i) = some (hs_R σ 14 i) := pb_ld h.2.2.2.2.2.2.2.2.2.2.2.2.2.2.2.1 (Nat.lt_of_lt_of_le (by decide) h.1) h.2.2.2.2.2.2.2.2.2.2.2.2.2.2.2.2.2.2.2.2.2.2.2.2.2.1 hi (by decide)
theorem c_st14 {σ : hs_T} (h : cS σ) {i : Nat} {v : Int32} (hi : i < 400) : hs_st σ 11 14 (nI i) v = some (hs_wR σ 14 i v) := pb_st h.2.2.2.2.2.2.2.2.2.2.2.2.2.2.2.1 (Nat.lt_of_lt_of_le (by decide) h.1) h.2.2.2.2.2.2.2.2.2.2.2.2.2.2.2.2.2.2.2.2.2.2.2.2.2.1 hi (by decide)
theorem c_ld15 {σ : hs_T} (h : cS σ) {i : Nat} (hi : i < 400) : hs_ld σ 11 15 (nI i) = some (hs_R σ 15 i) := pb_ld h.2.2.2.2.2.2.2.2.2.2.2.2.2.2.2.2.1 (Nat.lt_of_lt_of_le (by decide) h.1) h.2.2.2.2.2.2.2.2.2.2.2.2.2.2.2.2.2.2.2.2.2.2.2.2.2.2.1 hi (by decide)
theorem c_st15 {σ : hs_T} (h : cS σ) {i : Nat} {v : Int32} (hi : i < 400) : hs_st σ 11 15 (nI i) v = some (hs_wR σ 15 i v) := pb_st h.2.2.2.2.2.2.2.2.2.2.2.2.2.2.2.2.1 (Nat.lt_of_lt_of_le (by decide) h.1) h.2.2.2.2.2.2.2.2.2.2.2.2.2.2.2.2.2.2.2.2.2.2.2.2.2.2.1 hi (by decide)
theorem c_ld16 {σ : hs_T} (h : cS σ) {i : Nat} (hi : i < 5) : hs_ld σ 11 16 (nI i) = some (hs_R σ 16 i) := pb_ld h.2.2.2.2.2.2.2.2.2.2.2.2.2.2.2.2.2.1 (Nat.lt_of_lt_of_le (by decide) h.1) h.2.2.2.2.2.2.2.2.2.2.2.2.2.2.2.2.2.2.2.2.2.2.2.2.2.2.2.1 hi (by decide)
theorem c_st16 {σ : hs_T} (h : cS σ) {i : Nat} {v : Int32} (hi : i < 5) : hs_st σ 11 16 (nI i) v = some (hs_wR σ 16 i v) := pb_st h.2.2.2.2.2.2.2.2.2.2.2.2.2.2.2.2.2.1 (Nat.lt_of_lt_of_le (by decide) h.1) h.2.2.2.2.2.2.2.2.2.2.2.2.2.2.2.2.2.2.2.2.2.2.2.2.2.2.2.1 hi (by decide)
theorem c_g0_0 {σ : hs_T} (h : cS σ) : hs_gN σ 9 0 0 = some 1 := pb_gN h.2.1 (Nat.lt_of_lt_of_le (by decide) h.1) h.2.2.2.2.2.2.2.2.2.2.2.2.2.2.2.2.2.2.2.2.2.2.2.2.2.2.2.2.1
theorem c_g1_0 {σ : hs_T} (h : cS σ) : hs_gN σ 9 0 1 = some 2 := pb_gN h.2.1 (Nat.lt_of_lt_of_le (by decide) h.1) h.2.2.2.2.2.2.2.2.2.2.2.2.2.2.2.2.2.2.2.2.2.2.2.2.2.2.2.2.2.1
theorem c_g2_0 {σ : hs_T} (h : cS σ) : hs_gN σ 9 0 2 = some 3 := pb_gN h.2.1 (Nat.lt_of_lt_of_le (by decide) h.1) h.2.2.2.2.2.2.2.2.2.2.2.2.2.2.2.2.2.2.2.2.2.2.2.2.2.2.2.2.2.2.1
theorem c_g3_0 {σ : hs_T} (h : cS σ) : hs_gN σ 9 0 3 = some 4 := pb_gN h.2.1 (Nat.lt_of_lt_of_le (by decide) h.1) h.2.2.2.2.2.2.2.2.2.2.2.2.2.2.2.2.2.2.2.2.2.2.2.2.2.2.2.2.2.2.2.1
theorem c_g4_0 {σ : hs_T} (h : cS σ) : hs_gN σ 9 0 4 = some 6 := pb_gN h.2.1 (Nat.lt_of_lt_of_le (by decide) h.1) h.2.2.2.2.2.2.2.2.2.2.2.2.2.2.2.2.2.2.2.2.2.2.2.2.2.2.2.2.2.2.2.2.1
theorem c_g5_0 {σ : hs_T} (h : cS σ) : hs_gN σ 9 0 5 = some 9 := pb_gN h.2.1 (Nat.lt_of_lt_of_le (by decide) h.1) h.2.2.2.2.2.2.2.2.2.2.2.2.2.2.2.2.2.2.2.2.2.2.2.2.2.2.2.2.2.2.2.2.2.1
theorem c_g6_0 {σ : hs_T} (h : cS σ) : hs_gN σ 9 0 6 = some 12 := pb_gN h.2.1 (Nat.lt_of_lt_of_le (by decide) h.1) h.2.2.2.2.2.2.2.2.2.2.2.2.2.2.2.2.2.2.2.2.2.2.2.2.2.2.2.2.2.2.2.2.2.2.1
theorem c_g7_0 {σ : hs_T} (h : cS σ) : hs_gN σ 9 0 7 = some 16 := pb_gN h.2.1 (Nat.lt_of_lt_of_le (by decide) h.1) h.2.2.2.2.2.2.2.2.2.2.2.2.2.2.2.2.2.2.2.2.2.2.2.2.2.2.2.2.2.2.2.2.2.2.2.1
theorem c_g0_4 {σ : hs_T} (h : cS σ) : hs_gN σ 8 4 0 = some 5 := pb_gN h.2.2.2.2.2.1 (Nat.lt_of_lt_of_le (by decide) h.1) h.2.2.2.2.2.2.2.2.2.2.2.2.2.2.2.2.2.2.2.2.2.2.2.2.2.2.2.2.2.2.2.2.2.2.2.2.1
theorem c_g0_6 {σ : hs_T} (h : cS σ) : hs_gN σ 6 6 0 = some 7 := pb_gN h.2.2.2.2.2.2.2.1 (Nat.lt_of_lt_of_le (by decide) h.1) h.2.2.2.2.2.2.2.2.2.2.2.2.2.2.2.2.2.2.2.2.2.2.2.2.2.2.2.2.2.2.2.2.2.2.2.2.2.1
theorem c_g1_6 {σ : hs_T} (h : cS σ) : hs_gN σ 6 6 1 = some 8 := pb_gN h.2.2.2.2.2.2.2.1 (Nat.lt_of_lt_of_le (by decide) h.1) h.2.2.2.2.2.2.2.2.2.2.2.2.2.2.2.2.2.2.2.2.2.2.2.2.2.2.2.2.2.2.2.2.2.2.2.2.2.2.1
theorem c_g0_9 {σ : hs_T} (h : cS σ) : hs_gN σ 3 9 0 = some 10 := pb_gN h.2.2.2.2.2.2.2.2.2.2.1 (Nat.lt_of_lt_of_le (by decide) h.1) h.2.2.2.2.2.2.2.2.2.2.2.2.2.2.2.2.2.2.2.2.2.2.2.2.2.2.2.2.2.2.2.2.2.2.2.2.2.2.2.1
theorem c_g1_9 {σ : hs_T} (h : cS σ) : hs_gN σ 3 9 1 = some 11 := pb_gN h.2.2.2.2.2.2.2.2.2.2.1 (Nat.lt_of_lt_of_le (by decide) h.1) h.2.2.2.2.2.2.2.2.2.2.2.2.2.2.2.2.2.2.2.2.2.2.2.2.2.2.2.2.2.2.2.2.2.2.2.2.2.2.2.2.1
theorem c_g0_12 {σ : hs_T} (h : cS σ) : hs_gN σ 4 12 0 = some 13 := pb_gN h.2.2.2.2.2.2.2.2.2.2.2.2.2.1 (Nat.lt_of_lt_of_le (by decide) h.1) h.2.2.2.2.2.2.2.2.2.2.2.2.2.2.2.2.2.2.2.2.2.2.2.2.2.2.2.2.2.2.2.2.2.2.2.2.2.2.2.2.2.1
theorem c_g1_12 {σ : hs_T} (h : cS σ) : hs_gN σ 4 12 1 = some 14 := pb_gN h.2.2.2.2.2.2.2.2.2.2.2.2.2.1 (Nat.lt_of_lt_of_le (by decide) h.1) h.2.2.2.2.2.2.2.2.2.2.2.2.2.2.2.2.2.2.2.2.2.2.2.2.2.2.2.2.2.2.2.2.2.2.2.2.2.2.2.2.2.2.1
theorem c_g2_12 {σ : hs_T} (h : cS σ) : hs_gN σ 4 12 2 = some 15 := pb_gN h.2.2.2.2.2.2.2.2.2.2.2.2.2.1 (Nat.lt_of_lt_of_le (by decide) h.1) h.2.2.2.2.2.2.2.2.2.2.2.2.2.2.2.2.2.2.2.2.2.2.2.2.2.2.2.2.2.2.2.2.2.2.2.2.2.2.2.2.2.2.2
theorem c_L1 {σ : hs_T} (h : cS σ) : hs_L σ 1 = 7 := h.2.2.2.2.2.2.2.2.2.2.2.2.2.2.2.2.2.2.1
theorem c_K1 {σ : hs_T} (h : cS σ) : hs_K σ 1 = 11 := h.2.2.1
theorem c_L5 {σ : hs_T} (h : cS σ) : hs_L σ 5 = 120 := h.2.2.2.2.2.2.2.2.2.2.2.2.2.2.2.2.2.2.2.1
theorem c_K5 {σ : hs_T} (h : cS σ) : hs_K σ 5 = 11 := h.2.2.2.2.2.2.1
theorem c_L7 {σ : hs_T} (h : cS σ) : hs_L σ 7 = 24 := h.2.2.2.2.2.2.2.2.2.2.2.2.2.2.2.2.2.2.2.2.1
theorem c_K7 {σ : hs_T} (h : cS σ) : hs_K σ 7 = 11 := h.2.2.2.2.2.2.2.2.1
theorem c_L8 {σ : hs_T} (h : cS σ) : hs_L σ 8 = 24 := h.2.2.2.2.2.2.2.2.2.2.2.2.2.2.2.2.2.2.2.2.2.1
theorem c_K8 {σ : hs_T} (h : cS σ) : hs_K σ 8 = 11 := h.2.2.2.2.2.2.2.2.2.1
theorem c_L10 {σ : hs_T} (h : cS σ) : hs_L σ 10 = 8 := h.2.2.2.2.2.2.2.2.2.2.2.2.2.2.2.2.2.2.2.2.2.2.1
theorem c_K10 {σ : hs_T} (h : cS σ) : hs_K σ 10 = 11 := h.2.2.2.2.2.2.2.2.2.2.2.1
theorem c_L11 {σ : hs_T} (h : cS σ) : hs_L σ 11 = 8 := h.2.2.2.2.2.2.2.2.2.2.2.2.2.2.2.2.2.2.2.2.2.2.2.1
theorem c_K11 {σ : hs_T} (h : cS σ) : hs_K σ 11 = 11 := h.2.2.2.2.2.2.2.2.2.2.2.2.1
theorem c_L13 {σ : hs_T} (h : cS σ) : hs_L σ 13 = 400 := h.2.2.2.2.2.2.2.2.2.2.2.2.2.2.2.2.2.2.2.2.2.2.2.2.1
theorem c_K13 {σ : hs_T} (h : cS σ) : hs_K σ 13 = 11 := h.2.2.2.2.2.2.2.2.2.2.2.2.2.2.1
theorem c_L14 {σ : hs_T} (h : cS σ) : hs_L σ 14 = 400 := h.2.2.2.2.2.2.2.2.2.2.2.2.2.2.2.2.2.2.2.2.2.2.2.2.2.1
theorem c_K14 {σ : hs_T} (h : cS σ) : hs_K σ 14 = 11 := h.2.2.2.2.2.2.2.2.2.2.2.2.2.2.2.1
theorem c_L15 {σ : hs_T} (h : cS σ) : hs_L σ 15 = 400 := h.2.2.2.2.2.2.2.2.2.2.2.2.2.2.2.2.2.2.2.2.2.2.2.2.2.2.1
theorem c_K15 {σ : hs_T} (h : cS σ) : hs_K σ 15 = 11 := h.2.2.2.2.2.2.2.2.2.2.2.2.2.2.2.2.1
theorem c_L16 {σ : hs_T} (h : cS σ) : hs_L σ 16 = 5 := h.2.2.2.2.2.2.2.2.2.2.2.2.2.2.2.2.2.2.2.2.2.2.2.2.2.2.2.1
theorem c_K16 {σ : hs_T} (h : cS σ) : hs_K σ 16 = 11 := h.2.2.2.2.2.2.2.2.2.2.2.2.2.2.2.2.2.1
