/-! Pure part 13: team -/
section Team
variable {c T Rd nh fu l : Nat} {st sv hn hb hp hr : Nat → Nat} {x x' x0 m m' : hs_T}
theorem ex_cS (h : ex l x x') (hl : l = 2 ∨ l = 3) (hC : cS x) : cS x' := by
  obtain ⟨a1, a2, a3, -, -⟩ := h
  have hN := hC.1
  have eK : ∀ n, n < 17 → hs_K x' n = hs_K x n := fun n hn => (a2 n (by omega)).1
  have eL : ∀ n, n < 17 → hs_L x' n = hs_L x n := fun n hn => (a2 n (by omega)).2.1
  have eG : ∀ k n, n < 17 → n ≠ 2 → n ≠ 3 → hs_G x' k n = hs_G x k n := fun k n hn h2 h3 => (a3 n (by omega) (by omega) k).2
  unfold cS at hC ⊢
  rw [eK 0 (by decide), eK 1 (by decide), eK 2 (by decide), eK 3 (by decide), eK 4 (by decide), eK 5 (by decide), eK 6 (by decide), eK 7 (by decide), eK 8 (by decide), eK 9 (by decide), eK 10 (by decide), eK 11 (by decide), eK 12 (by decide), eK 13 (by decide), eK 14 (by decide), eK 15 (by decide), eK 16 (by decide), eL 1 (by decide), eL 5 (by decide), eL 7 (by decide), eL 8 (by decide), eL 10 (by decide), eL 11 (by decide), eL 13 (by decide), eL 14 (by decide), eL 15 (by decide), eL 16 (by decide)]
  simp only [eG _ 0 (by decide) (by decide) (by decide), eG _ 4 (by decide) (by decide) (by decide), eG _ 6 (by decide) (by decide) (by decide), eG _ 9 (by decide) (by decide) (by decide), eG _ 12 (by decide) (by decide) (by decide)]
  exact ⟨by omega, hC.2⟩
theorem ex_sB {n p : Nat} (h : ex l x x') (hl : l < 17) (hB : sB x n p) : sB x' n p := by
  obtain ⟨a1, a2, a3, -, -⟩ := h
  obtain ⟨b1, b2, b3, ⟨k1, k2, k3, k4, k5, k6, k7⟩, ⟨l1, l2, l3, l4, l5, l6, l7⟩, ⟨g1, g2, g3, g4, g5, g6, g7⟩, f1, f2⟩ := hB
  have eK : ∀ j, j < 8 → hs_K x' (n + j) = hs_K x (n + j) := fun j hj => (a2 _ (by omega)).1
  have eL : ∀ j, j < 8 → hs_L x' (n + j) = hs_L x (n + j) := fun j hj => (a2 _ (by omega)).2.1
  have eG : ∀ k, hs_G x' k n = hs_G x k n := fun k => (a3 n (by omega) (by omega) k).2
  have eF : ∀ k, hs_F x' k n = hs_F x k n := fun k => (a3 n (by omega) (by omega) k).1
  refine ⟨b1, by omega, (eK 0 (by decide)).trans b3, ⟨(eK 1 (by decide)).trans k1, (eK 2 (by decide)).trans k2, (eK 3 (by decide)).trans k3, (eK 4 (by decide)).trans k4, (eK 5 (by decide)).trans k5, (eK 6 (by decide)).trans k6, (eK 7 (by decide)).trans k7⟩, ⟨(eL 1 (by decide)).trans l1, (eL 2 (by decide)).trans l2, (eL 3 (by decide)).trans l3, (eL 4 (by decide)).trans l4, (eL 5 (by decide)).trans l5, (eL 6 (by decide)).trans l6, (eL 7 (by decide)).trans l7⟩, ⟨(eG 2).trans g1, (eG 3).trans g2, (eG 4).trans g3, (eG 5).trans g4, (eG 6).trans g5, (eG 7).trans g6, (eG 8).trans g7⟩, (eF 0).trans f1, (eF 1).trans f2⟩
theorem ex_pQ {g i len : Nat} {sg nm : Nat → Nat} (h : ex l x x') (hl : l < 17) (m4 : hs_R m' 4 i = hs_R m 4 i) (m2 : ∀ k, k < 24 → hs_R m' 2 (24 * i + k) = hs_R m 2 (24 * i + k)) (m3 : ∀ k, k < 24 → hs_R m' 3 (24 * i + k) = hs_R m 3 (24 * i + k)) (hQ : pQ x m g i len sg nm) : pQ x' m' g i len sg nm := by
  obtain ⟨a1, a2, a3, -, -⟩ := h
  obtain ⟨q1, q2, q3, q4, q5, q6, q7, q8, q9, q10, q11, q12, q13, q14⟩ := hQ
  refine ⟨q1, by omega, (a2 _ (by omega)).1.trans q3, (a2 _ (by omega)).1.trans q4, (a2 _ (by omega)).1.trans q5, (a3 g (by omega) (by omega) 1).2.trans q6, (a3 g (by omega) (by omega) 2).2.trans q7, q8, q9, (a3 g (by omega) (by omega) 0).1.trans q10, m4.trans q11, (a2 _ (by omega)).2.1.trans q12, (a2 _ (by omega)).2.1.trans q13, fun k hk => ?_⟩
  rw [(a2 (g + 1) (by omega)).2.2, (a2 (g + 2) (by omega)).2.2, m2 k (by omega), m3 k (by omega)]
  exact q14 k hk
/-- a list that another list's growth left alone -/
theorem ex_lS {l2 cn : Nat} {el : Nat → Nat} (h : ex l x x') (hl2 : l2 < hs_N x) (hne : l2 ≠ l) (hd : ∀ e, 17 ≤ e → e < hs_N x → hs_G x 1 l2 = some e → hs_G x 1 l ≠ some e) (hL : lS x l2 cn el) : lS x' l2 cn el := by
  obtain ⟨a1, a2, a3, a4, -⟩ := h
  obtain ⟨b1, b2⟩ := hL
  refine ⟨(a3 l2 hl2 hne 2).1.trans b1, ?_⟩
  rcases b2 with ⟨c1, c2⟩ | ⟨ed, c1, c2, c3, c4, c5, c6, c7⟩
  · exact Or.inl ⟨c1, (a3 l2 hl2 hne 1).2.trans c2⟩
  · refine Or.inr ⟨ed, (a3 l2 hl2 hne 1).2.trans c1, (a2 ed c4).1.trans c2, c3, by omega, by rw [(a2 ed c4).2.1]; exact c5, by rw [(a2 ed c4).2.1]; exact c6, fun i hi => ?_⟩
    rw [a4 ed c4 (hd ed c3 c4 c1)]
    exact c7 i hi
def mkS (y : hs_T) (len k n : Nat) : hs_T := hs_wG (hs_mkA y 11 len) k n (some (hs_N y))
theorem mkS_st {β : Type} {y : hs_T} {n k len : Nat} {v : Int32} {f : hs_T → Option β} (hv : v = nI len) (hlen : len < 1000) (hK : hs_K y n = 7) (hn : n < hs_N y) (hN : hs_N y < 100000) : ((hs_lv y [n]).bind fun _ => (hs_nA y 11 v len).bind fun σ1 => (hs_pR σ1 7 n k (some (hs_N y))).bind f) = f (mkS y len k n) := by
  rw [pb_lv1 hn, pb_bind, hv, pb_nA (by omega) (Nat.le_refl _) (by omega), pb_bind, pb_pS (x := hs_mkA y 11 len) ((up_n (by omega)).trans hK) (Nat.lt_succ_of_lt hn) (Nat.lt_succ_self _), pb_bind]
  rfl
theorem mkS_K {y : hs_T} {n k len : Nat} (hK : hs_K y n = 7) (hn : n < hs_N y) : hs_K (mkS y len k n) n = 7 ∧ n < hs_N (mkS y len k n) := ⟨(up_n (by omega)).trans hK, Nat.lt_succ_of_lt hn⟩
/-- a service that was just made -/
def fresh (x : hs_T) (n : Nat) : Prop := (∀ j, 1 ≤ j → j ≤ 7 → ∀ i, hs_R x (n + j) i = nI 0) ∧ hs_G x 9 n = none ∧ hs_G x 10 n = none ∧ hs_F x 11 n = nI 0 ∧ hs_F x 12 n = nI 0 ∧ hs_F x 13 n = nI 0
def mkV (y : hs_T) (n : Nat) (a b : Int32) : hs_T := hs_wF (hs_wF (mkS (mkS (mkS (mkS (mkS (mkS (mkS (hs_mkO y 7) 8 2 n) 101 3 n) 500 4 n) 3 5 n) 3 6 n) 3 7 n) 3 8 n) 0 n a) 1 n b
theorem s_init {y : hs_T} {a b : Int32} (hN : hs_N y < 90000) : fX5_init fu (hs_mkO y 7) (hs_N y) a b = some ((), mkV y (hs_N y) a b) := by
  have k0 : hs_K (hs_mkO y 7) (hs_N y) = 7 ∧ hs_N y < hs_N (hs_mkO y 7) := ⟨up_e, Nat.lt_succ_self _⟩
  have k1 := mkS_K (k := 2) (len := 8) k0.1 k0.2
  have k2 := mkS_K (k := 3) (len := 101) k1.1 k1.2
  have k3 := mkS_K (k := 4) (len := 500) k2.1 k2.2
  have k4 := mkS_K (k := 5) (len := 3) k3.1 k3.2
  have k5 := mkS_K (k := 6) (len := 3) k4.1 k4.2
  have k6 := mkS_K (k := 7) (len := 3) k5.1 k5.2
  have k7 := mkS_K (k := 8) (len := 3) k6.1 k6.2
  unfold fX5_init
  rw [mkS_st (len := 8) (v := 8) rfl (by decide) k0.1 k0.2 (show hs_N y + 1 < 100000 by omega)]
  rw [mkS_st (len := 101) (v := 101) rfl (by decide) k1.1 k1.2 (show hs_N y + 2 < 100000 by omega)]
  rw [mkS_st (len := 500) (v := 500) rfl (by decide) k2.1 k2.2 (show hs_N y + 3 < 100000 by omega)]
  rw [mkS_st (len := 3) (v := 3) rfl (by decide) k3.1 k3.2 (show hs_N y + 4 < 100000 by omega)]
  rw [mkS_st (len := 3) (v := 3) rfl (by decide) k4.1 k4.2 (show hs_N y + 5 < 100000 by omega)]
  rw [mkS_st (len := 3) (v := 3) rfl (by decide) k5.1 k5.2 (show hs_N y + 6 < 100000 by omega)]
  rw [mkS_st (len := 3) (v := 3) rfl (by decide) k6.1 k6.2 (show hs_N y + 7 < 100000 by omega)]
  have e : ∀ w : hs_T, hs_K w (hs_N y) = 7 → hs_N y < hs_N w → ((hs_pI w 7 (hs_N y) 0 a).bind fun σ51 => (hs_pI σ51 7 (hs_N y) 1 b).bind fun σ53 => some ((), σ53)) = some ((), hs_wF (hs_wF w 0 (hs_N y) a) 1 (hs_N y) b) := by
    intro w h1 h2
    rw [pb_pI h1 h2, pb_bind, pb_pI (σ := hs_wF w 0 (hs_N y) a) h1 h2, pb_bind]
  exact e _ k7.1 k7.2
theorem ex_mkS {y : hs_T} {n k len : Nat} (hn : hs_N x0 ≤ n) (hl : l < hs_N x0) (h : ex l x0 y) : ex l x0 (mkS y len k n) := ex_G hn hl (ex_mkA h)
theorem mkV_ex {y : hs_T} {a b : Int32} (hl : l < hs_N y) : ex l y (mkV y (hs_N y) a b) := ex_F (Or.inl (Nat.le_refl _)) (ex_F (Or.inl (Nat.le_refl _)) (ex_mkS (Nat.le_refl _) hl (ex_mkS (Nat.le_refl _) hl (ex_mkS (Nat.le_refl _) hl (ex_mkS (Nat.le_refl _) hl (ex_mkS (Nat.le_refl _) hl (ex_mkS (Nat.le_refl _) hl (ex_mkS (Nat.le_refl _) hl (ex_mkO hl ex_rf)))))))))
theorem mkV_sB {y : hs_T} {p : Nat} (hN : 17 ≤ hs_N y) : sB (mkV y (hs_N y) (nI (p / 3)) (nI (p % 3))) (hs_N y) p ∧ fresh (mkV y (hs_N y) (nI (p / 3)) (nI (p % 3))) (hs_N y) ∧ hs_N (mkV y (hs_N y) (nI (p / 3)) (nI (p % 3))) = hs_N y + 8 := by
  obtain ⟨⟨n, K, L⟩, F, G, R, O⟩ := y
  dsimp only [hs_N] at hN
  refine ⟨⟨hN, ?_, ?_, ⟨?_, ?_, ?_, ?_, ?_, ?_, ?_⟩, ⟨?_, ?_, ?_, ?_, ?_, ?_, ?_⟩, ⟨?_, ?_, ?_, ?_, ?_, ?_, ?_⟩, ?_, ?_⟩, ⟨fun j h1 h7 i => ?_, ?_, ?_, ?_, ?_, ?_⟩, rfl⟩
  case refine_26 =>
    rcases (show j = 1 ∨ j = 2 ∨ j = 3 ∨ j = 4 ∨ j = 5 ∨ j = 6 ∨ j = 7 by omega) with rfl | rfl | rfl | rfl | rfl | rfl | rfl <;> (simp [mkV, mkS, hs_mkA, hs_mkO, hs_wG, hs_wF, hs_R, hs_N, hs_z1]; rfl)
  all_goals first | (simp [mkV, mkS, hs_mkA, hs_mkO, hs_wG, hs_wF, hs_K, hs_L, hs_G, hs_F, hs_N, va_up, hs_z2, hs_up, Nat.add_assoc]; done) | (simp [mkV, mkS, hs_mkA, hs_mkO, hs_wG, hs_wF, hs_K, hs_L, hs_G, hs_F, hs_N, va_up, hs_z2, hs_up]; rfl)
/-- one service more -/
theorem t_one {y : hs_T} {cn : Nat} (hC : cS y) (hN : hs_N y < 80000) (hB : ∀ p, p < cn → sB y (sv p) p) (hL : lS y 2 cn sv) (hcn : cn < 15) (hs : sv cn = hs_N y) {v s : Int32} (hv : v = nI (cn / 3)) (hs2 : s = nI (cn % 3)) : ∃ y', (∀ {β : Type} (f : hs_T → Option β), ((hs_gN y 9 0 1).bind fun n13 => (hs_lv y [n13, 0]).bind fun _ => (hs_nO y 7).bind fun σ14 => (hs_ck σ14 7 (hs_N y)).bind fun _ => (hs_lv σ14 [hs_N y, n13, 0]).bind fun _ => hs_b2 (fX5_init fu σ14 (hs_N y) v s) fun _ σ20 => (hs_le (hs_N σ14) (hs_N σ20)).bind fun _ => (hs_ck σ20 1 n13).bind fun _ => (hs_lv σ20 [0]).bind fun _ => hs_b2 (fJx4a65c_add_9ea2d fu σ20 n13 (hs_N y)) fun _ σ28 => (hs_le (hs_N σ20) (hs_N σ28)).bind fun _ => f σ28) = f y') ∧ ex 2 y y' ∧ hs_N y' ≤ hs_N y + 9 ∧ cS y' ∧ (∀ p, p < cn + 1 → sB y' (sv p) p) ∧ lS y' 2 (cn + 1) sv ∧ fresh y' (sv cn) := by
  subst hv hs2
  have hN17 := hC.1
  obtain ⟨z1, z2, z3⟩ := mkV_sB (y := y) (p := cn) hN17
  have zx : ex 2 y (mkV y (hs_N y) (nI (cn / 3)) (nI (cn % 3))) := mkV_ex (by omega)
  have zx0 : ex 0 y (mkV y (hs_N y) (nI (cn / 3)) (nI (cn % 3))) := mkV_ex (by omega)
  have zi := s_init (fu := fu) (y := y) (a := nI (cn / 3)) (b := nI (cn % 3)) (by omega)
  generalize mkV y (hs_N y) (nI (cn / 3)) (nI (cn % 3)) = z at *
  have zC : cS z := ex_cS zx (Or.inl rfl) hC
  have zB : ∀ p, p < cn → sB z (sv p) p := fun p hp2 => ex_sB zx (by decide) (hB p hp2)
  have g10 : hs_G y 1 0 = some 2 := by
    have := c_g1_0 hC
    unfold hs_gN at this
    rw [if_pos ⟨hC.2.1, by omega⟩] at this
    exact this
  have zL : lS z 2 cn sv := ex_lS zx0 (by omega) (by decide) (fun e h17 _ _ h2 => by rw [g10] at h2; have := Option.some.inj h2; omega) hL
  obtain ⟨y', e1, e2, e3, e4⟩ := l_add (fu := fu) (l := 2) (q := hs_N y) (el := sv) zC.2.2.2.1 (by decide) zC.1 (by omega) zL (by omega) (fun i hi => decide_eq_true ⟨Or.inl (zB i hi).2.2.1, by have := (zB i hi).2.1; omega⟩) (decide_eq_true ⟨Or.inl z1.2.2.1, by omega⟩) hs
  have yx : ex 2 y y' := ex_tr zx e2
  refine ⟨y', fun f => ?_, yx, by omega, ex_cS yx (Or.inl rfl) hC, fun p hp2 => ?_, e4, ?_⟩
  · rw [c_g1_0 hC, pb_bind, pb_lv2 (by omega) (by omega), pb_bind, pb_nO (by omega), pb_bind, pb_ck (show hs_K (hs_mkO y 7) (hs_N y) = 7 from up_e) (Nat.lt_succ_self _), pb_bind, pb_lv3 (Nat.lt_succ_self _) (show 2 < hs_N y + 1 by omega) (show 0 < hs_N y + 1 by omega), pb_bind, zi, pb_b2, pb_le (show hs_N (hs_mkO y 7) ≤ hs_N z by show hs_N y + 1 ≤ _; omega), pb_bind, c_ck2 zC, pb_bind, pb_lv1 (by omega), pb_bind, e1, pb_b2, pb_le e2.1, pb_bind]
  · by_cases q : p = cn
    · subst q
      rw [hs]
      exact ex_sB e2 (by decide) z1
    · exact ex_sB e2 (by decide) (zB p (by omega))
  · rw [hs]
    obtain ⟨d1, d2, d3, d4, d5, d6⟩ := z2
    obtain ⟨a1, a2, a3, a4, a5⟩ := e2
    refine ⟨fun j h1 h7 i => ?_, ?_, ?_, ?_, ?_, ?_⟩
    · rw [(a2 _ (by omega)).2.2]; exact d1 j h1 h7 i
    · rw [(a3 _ (by omega) (by omega) _).2]; exact d2
    · rw [(a3 _ (by omega) (by omega) _).2]; exact d3
    · rw [(a3 _ (by omega) (by omega) _).1]; exact d4
    · rw [(a3 _ (by omega) (by omega) _).1]; exact d5
    · rw [(a3 _ (by omega) (by omega) _).1]; exact d6
theorem t_up {y : hs_T} {cn : Nat} (hC : cS y) (hN : hs_N y < 80000) (hB : ∀ p, p < cn → sB y (sv p) p) (hL : lS y 2 cn sv) (hcn : cn < 15) {v s : Int32} (hv : v = nI (cn / 3)) (hs2 : s = nI (cn % 3)) : ∃ y' sv', (∀ {β : Type} (f : hs_T → Option β), ((hs_gN y 9 0 1).bind fun n13 => (hs_lv y [n13, 0]).bind fun _ => (hs_nO y 7).bind fun σ14 => (hs_ck σ14 7 (hs_N y)).bind fun _ => (hs_lv σ14 [hs_N y, n13, 0]).bind fun _ => hs_b2 (fX5_init fu σ14 (hs_N y) v s) fun _ σ20 => (hs_le (hs_N σ14) (hs_N σ20)).bind fun _ => (hs_ck σ20 1 n13).bind fun _ => (hs_lv σ20 [0]).bind fun _ => hs_b2 (fJx4a65c_add_9ea2d fu σ20 n13 (hs_N y)) fun _ σ28 => (hs_le (hs_N σ20) (hs_N σ28)).bind fun _ => f σ28) = f y') ∧ ex 2 y y' ∧ hs_N y' ≤ hs_N y + 9 ∧ cS y' ∧ (∀ p, p < cn + 1 → sB y' (sv' p) p) ∧ lS y' 2 (cn + 1) sv' ∧ fresh y' (sv' cn) ∧ hs_N y ≤ sv' cn ∧ ∀ p, p < cn → sv' p = sv p := by
  have e : ∀ p, p < cn → (if p = cn then hs_N y else sv p) = sv p := fun p hp2 => if_neg (by omega)
  obtain ⟨y', h1, h2, h3, h4, h5, h6, h7⟩ := t_one (fu := fu) (sv := fun p => if p = cn then hs_N y else sv p) (y := y) (cn := cn) (v := v) (s := s) hC hN (fun p hp2 => by
    show sB y (if p = cn then hs_N y else sv p) p
    rw [e p hp2]
    exact hB p hp2) (by
    obtain ⟨a1, a2⟩ := hL
    refine ⟨a1, a2.imp id ?_⟩
    rintro ⟨ed, c1, c2, c3, c4, c5, c6, c7⟩
    refine ⟨ed, c1, c2, c3, c4, c5, c6, fun i hi => ?_⟩
    show _ = some (if i = cn then hs_N y else sv i)
    rw [e i hi]
    exact c7 i hi) hcn (if_pos rfl) hv hs2
  exact ⟨y', _, h1, h2, h3, h4, h5, h6, h7, by rw [if_pos rfl]; exact Nat.le_refl _, e⟩
theorem ex_fresh {n p : Nat} (h : ex 2 x x') (hB : sB x n p) (hf : fresh x n) : fresh x' n := by
  obtain ⟨d1, d2, d3, d4, d5, d6⟩ := hf
  obtain ⟨a1, a2, a3, a4, a5⟩ := h
  have h1 := hB.1
  have h2 := hB.2.1
  refine ⟨fun j h1 h7 i => ?_, ?_, ?_, ?_, ?_, ?_⟩
  · rw [(a2 _ (by omega)).2.2]; exact d1 j h1 h7 i
  · rw [(a3 _ (by omega) (by omega) _).2]; exact d2
  · rw [(a3 _ (by omega) (by omega) _).2]; exact d3
  · rw [(a3 _ (by omega) (by omega) _).1]; exact d4
  · rw [(a3 _ (by omega) (by omega) _).1]; exact d5
  · rw [(a3 _ (by omega) (by omega) _).1]; exact d6
theorem m_team (hM : mS m) (hT : hs_F m 0 0 = nI T) (h5 : T < 5) (h0 : hs_F m 1 0 = nI 0) : fX8_team fu m 0 = some (nI T, hs_wF m 0 0 (nI (T + 1))) := by
  unfold fX8_team
  rw [m_gI hM, pb_bind, h0, if_pos (show nI 0 ≤ 0 by decide), m_gI hM, pb_bind, hT, if_neg (show ¬ nI T = 5 from n_ne (b := 5) (by omega) (by decide) (by omega)), pb_bind, nI_1, m_pI hM, pb_bind, m_gI (σ := hs_wF m 0 0 (nI (T + 1))) hM, pb_bind, pb_F_wF, if_pos ⟨rfl, rfl⟩, nI_pred]
theorem op_team (hc512 : c < 512) (h : Rl c T Rd nh st sv hn hb hp hr x m) : Op c (fX7_team fu x 0) (fX8_team fu m 0) := by
  have h0 := h
  obtain ⟨hM, hC, hN, hnh, hrn, hS, ⟨tp, t0, t1, t2, t3⟩, hL, hV, hP, hc, hK, hA, hH, hG, hO⟩ := h
  obtain ⟨h5, h100, n1, n2, n3, n4, n5, n6, n7, n8, n9, fa, n10, n11⟩ := id hrn
  by_cases q : Rd = 0
  · subst q
    by_cases q5 : T = 5
    · subst q5
      refine Op_same h0 ⟨-4, ?_, ?_⟩
      · unfold fX7_team
        rw [c_gI0 hC, pb_bind, n3, if_pos (show nI 0 ≤ 0 by decide), c_ck0 hC, pb_bind, c_teams hC n4 h5, pb_b2, pb_le (Nat.le_refl _), pb_bind, if_neg (show ¬ nI 5 < 5 by decide)]
      · unfold fX8_team
        rw [m_gI hM, pb_bind, n2, if_pos (show nI 0 ≤ 0 by decide), m_gI hM, pb_bind, n1, if_pos (show nI 5 = 5 from rfl)]
    · have hT4 : T < 5 := by omega
      have nh0 : nh = 0 := by
        rcases Nat.eq_zero_or_pos nh with z | z
        · exact z
        · have := (hG.2.2.1 0 z).2.2.2.2.2.2.2.2; omega
      subst nh0
      obtain ⟨y1, s1, f1, x1, N1, C1, B1, L1, fr1, z1, w1⟩ := t_up (fu := fu) (y := x) (cn := 3 * T) (v := nI T) (s := 0) hC (by omega) hV.1 hV.2 (by omega) (by rw [Nat.mul_div_cancel_left T (by decide)]) (by rw [Nat.mul_mod_right]; rfl)
      obtain ⟨y2, s2, f2, x2, N2, C2, B2, L2, fr2, z2, w2⟩ := t_up (fu := fu) (y := y1) (cn := 3 * T + 1) (v := nI T) (s := 1) C1 (by omega) B1 L1 (by omega) (by rw [show (3 * T + 1) / 3 = T by omega]) (by rw [show (3 * T + 1) % 3 = 1 by omega]; rfl)
      obtain ⟨y3, s3, f3, x3, N3, C3, B3, L3, fr3, z3, w3⟩ := t_up (fu := fu) (y := y2) (cn := 3 * T + 1 + 1) (v := nI T) (s := 2) C2 (by omega) B2 L2 (by omega) (by rw [show (3 * T + 1 + 1) / 3 = T by omega]) (by rw [show (3 * T + 1 + 1) % 3 = 2 by omega]; rfl)
      rw [m_team hM n1 hT4 n2]
      have eX : fX7_team fu x 0 = some (nI T, y3) := by
        unfold fX7_team
        rw [c_gI0 hC, pb_bind, n3, if_pos (show nI 0 ≤ 0 by decide), c_ck0 hC, pb_bind, c_teams hC n4 h5, pb_b2, pb_le (Nat.le_refl _), pb_bind, if_pos (show nI T < 5 from nI_lt (b := 5) hT4 (by decide))]
        refine (f1 _).trans ?_
        refine (f2 _).trans ?_
        exact (f3 _)
      rw [eX]
      refine ⟨_, _, _, rfl, rfl, T + 1, 0, 0, st, s3, hn, hb, hp, hr, ?_⟩
      have X : ex 2 x y3 := ex_tr x1 (ex_tr x2 x3)
      have hN17 := hC.1
      have oldS : ∀ p, p < 3 * T → s3 p = sv p := fun p hp2 => (w3 p (by omega)).trans ((w2 p (by omega)).trans (w1 p hp2))
      have frs : ∀ p, 3 * T ≤ p → p < 3 * (T + 1) → fresh y3 (s3 p) := by
        intro p h1 h2
        rcases (show p = 3 * T ∨ p = 3 * T + 1 ∨ p = 3 * T + 1 + 1 by omega) with rfl | rfl | rfl
        · rw [w3 _ (by omega), w2 _ (by omega)]
          exact ex_fresh (ex_tr x2 x3) (B1 _ (by omega)) fr1
        · rw [w3 _ (by omega)]
          exact ex_fresh x3 (B2 _ (by omega)) fr2
        · exact fr3
      obtain ⟨a1, a2, a3, a4, a5⟩ := id X
      have xR : ∀ n, n < 17 → hs_R y3 n = hs_R x n := fun n hn2 => (a2 n (by omega)).2.2
      have xF : ∀ k n, n < 17 → n ≠ 2 → hs_F y3 k n = hs_F x k n := fun k n hn2 hn3 => (a3 n (by omega) hn3 k).1
      have mF : ∀ k, k ≠ 0 → hs_F (hs_wF m 0 0 (nI (T + 1))) k 0 = hs_F m k 0 := fun k hk => by rw [pb_F_wF, if_neg (fun z => hk z.1)]
      obtain ⟨Z1, Z2, Z3⟩ := hO.2 rfl
      refine ⟨hM, C3, by omega, by omega, ⟨by omega, by omega, by rw [pb_F_wF, if_pos ⟨rfl, rfl⟩], by rw [mF 1 (by decide)]; exact n2, by rw [xF 8 0 (by decide) (by decide)]; exact n3, L3.1, by rw [xF 9 0 (by decide) (by decide), mF 30 (by decide)]; exact n5, by rw [xF 5 9 (by decide) (by decide), mF 21 (by decide)]; exact n6, by rw [xF 2 3 (by decide) (by decide)]; exact n7, by rw [mF 38 (by decide)]; exact n8, by omega, fa, n10, by rw [mF 21 (by decide)]; exact n11⟩, ⟨fun w hw => by rw [xR 1 (by decide)]; exact hS.1 w hw, hS.2⟩, ⟨tp, t0, by rw [xF 1 4 (by decide) (by decide)]; exact t1, by rw [mF 7 (by decide)]; exact t2, fun i hi => by rw [xR 5 (by decide)]; exact t3 i hi⟩, ?_, ⟨B3, L3⟩, fun p hp2 => ?_, fun p hp2 => ?_, fun z => absurd z (by decide), fun z => absurd z (by decide), fun p hp2 b hb2 r hr2 => ?_, ⟨?_, fun e g2 g3 => ?_, fun j hj => absurd hj (by omega), fun φ => rfl⟩, hO.1, fun _ => ⟨fun i h1 h2 => Z1 i (by omega) h2, fun i h1 h2 => Z2 i (by omega) h2, fun p h1 h2 => Z3 p (by omega) h2⟩⟩
      · obtain ⟨lt, l0, l1, l2, l3⟩ := hL
        refine ⟨lt, l0, by rw [xF 3 12 (by decide) (by decide)]; exact l1, by rw [mF 28 (by decide)]; exact l2, fun i hi => ?_⟩
        rw [xR 13 (by decide), xR 14 (by decide), xR 15 (by decide)]
        obtain ⟨⟨p, q1, q2⟩, q3⟩ := l3 i hi
        exact ⟨⟨p, by omega, q2⟩, q3⟩
      · by_cases hp3 : p < 3 * T
        · rw [oldS p hp3]
          have hBp := hV.1 p hp3
          have hb1 := hBp.1
          have hb2 := hBp.2.1
          rw [(a3 (sv p) (by omega) (by omega) 9).2, (a3 (sv p) (by omega) (by omega) 10).2]
          obtain ⟨p1, p2⟩ := hP p hp3
          refine ⟨p1.imp id ?_, p2.imp id ?_⟩
          · rintro ⟨g, e, len, sg, nm, q⟩
            exact ⟨g, e, len, sg, nm, ex_pQ X (by decide) rfl (fun _ _ => rfl) (fun _ _ => rfl) q⟩
          · rintro ⟨g, e, e2, len, sg, nm, q⟩
            exact ⟨g, e, e2, len, sg, nm, ex_pQ X (by decide) rfl (fun _ _ => rfl) (fun _ _ => rfl) q⟩
        · have ff := frs p (by omega) hp2
          exact ⟨Or.inl ⟨ff.2.1, (Z1 p (by omega) (by omega)).1⟩, Or.inl ⟨ff.2.2.1, (Z1 p (by omega) (by omega)).2.1⟩⟩
      · by_cases hp3 : p < 3 * T
        · rw [oldS p hp3]
          have hBp := hV.1 p hp3
          have hb1 := hBp.1
          have hb2 := hBp.2.1
          rw [(a2 (sv p + 1) (by omega)).2.2, (a2 (sv p + 2) (by omega)).2.2, (a3 (sv p) (by omega) (by omega) 11).1, (a3 (sv p) (by omega) (by omega) 12).1]
          exact hc p hp3
        · have ff := frs p (by omega) hp2
          have zz := Z1 p (by omega) (by omega)
          exact ⟨fun c hc8 => ⟨0, by decide, ff.1 1 (by decide) (by decide) c, Z2 _ (by omega) (by omega)⟩, by rw [ff.2.2.2.1]; exact zz.2.2.1.symm, by rw [ff.2.2.2.2.1]; exact zz.2.2.2.1.symm, by rw [ff.1 2 (by decide) (by decide)]; exact zz.2.2.2.2.symm, ff.1 2 (by decide) (by decide) _, fun r hr2 => absurd hr2 (by omega)⟩
      · by_cases hp3 : p < 3 * T
        · rw [oldS p hp3]
          have hBp := hV.1 p hp3
          have hb1 := hBp.1
          have hb3 := hBp.2.1
          rw [(a2 (sv p + 3) (by omega)).2.2]
          obtain ⟨v, v1, v2, v3, v4⟩ := hH p hp3 b hb2 r hr2
          exact ⟨v, v1, v2, v3, fun z => absurd z (by omega)⟩
        · have ff := frs p (by omega) hp2
          exact ⟨0, by decide, ff.1 3 (by decide) (by decide) _, Z3 p (by omega) (by omega) r hr2 b hb2, fun z => absurd rfl z⟩
      · exact ex_lS X (by omega) (by decide) (fun e e17 eN g3 g2 => by have := hG.2.1 e g2 g3; unfold hs_em at this; omega) hG.1
      · rw [(a3 3 (by omega) (by decide) 1).2] at g3
        rcases a5 with q | ⟨e2, q1, q2⟩
        · rw [q] at g2
          exact hG.2.1 e g2 g3
        · rcases hG.1.2 with ⟨-, q3⟩ | ⟨ed, q3, -, -, q4, -⟩
          · rw [q3] at g3
            exact (Option.some.inj g3).symm
          · rw [q3] at g3
            rw [q2] at g2
            have i1 := Option.some.inj g3
            have i2 := Option.some.inj g2
            omega
  · refine Op_same h0 ⟨-3, ?_, ?_⟩
    · unfold fX7_team
      rw [c_gI0 hC, pb_bind, n3, if_neg (show ¬ nI Rd ≤ 0 from nI_nle (by omega) (by omega))]
    · unfold fX8_team
      rw [m_gI hM, pb_bind, n2, if_neg (show ¬ nI Rd ≤ 0 from nI_nle (by omega) (by omega))]
end Team
