/-! Pure part 31: the two new objects are of one game -/
theorem opt_is {o : Option (Unit × hs_T)} (h : o.isSome = true) : o = some ((), (o.map Prod.snd).getD hs_0) := by
  cases o with
  | none => cases h
  | some q =>
    obtain ⟨⟨⟩, t⟩ := q
    rfl
def x_0 : hs_T := ((fX7_init 1000 (hs_mkO hs_0 9) 0).map Prod.snd).getD hs_0
def m_0 : hs_T := ((fX8_init 1000 (hs_mkO hs_0 10) 0).map Prod.snd).getD hs_0
set_option maxRecDepth 100000 in
theorem x_0_is : fX7_init 1000 (hs_mkO hs_0 9) 0 = some ((), x_0) := opt_is (by decide +kernel)
set_option maxRecDepth 100000 in
theorem m_0_is : fX8_init 1000 (hs_mkO hs_0 10) 0 = some ((), m_0) := opt_is (by decide +kernel)
set_option maxRecDepth 100000 in
theorem x_0_cS : cS x_0 := by
  unfold cS
  decide +kernel
set_option maxRecDepth 100000 in
theorem m_0_mS : mS m_0 := by
  unfold mS
  repeat' apply And.intro
  all_goals decide +kernel
set_option maxRecDepth 100000 in
theorem m_0_z1 : ∀ i, i < 15 → hs_R m_0 4 i = nI 0 ∧ hs_R m_0 5 i = nI 0 ∧ hs_R m_0 10 i = nI 0 ∧ hs_R m_0 11 i = nI 0 ∧ hs_R m_0 12 i = nI 0 := by decide +kernel
set_option maxRecDepth 100000 in
theorem m_0_z2 : ∀ i, i < 120 → hs_R m_0 8 i = nI 0 := by decide +kernel
set_option maxRecDepth 100000 in
theorem m_0_t : ∀ i, i < 18 → hs_R m_0 26 i = hs_t3 i := by decide +kernel
def st_0 : Nat → Nat := fun w => ([60, 0, 3, 100, 1, 1, 1] : List Nat).getD w 0
set_option maxRecDepth 100000 in
theorem st_0_is : ∀ w, w < 7 → hs_R x_0 1 w = nI (st_0 w) ∧ hs_R m_0 13 w = nI (st_0 w) := by decide +kernel
set_option maxRecDepth 100000 in
theorem xm_0 : (hs_F m_0 0 0 = nI 0 ∧ hs_F m_0 1 0 = nI 0 ∧ hs_F x_0 8 0 = nI 0 ∧ hs_F x_0 2 2 = nI 0 ∧ hs_F x_0 9 0 = hs_F m_0 30 0 ∧ hs_F x_0 5 9 = hs_F m_0 21 0 ∧ hs_F x_0 2 3 = nI 0 ∧ hs_F m_0 38 0 = nI 0 ∧ hs_F m_0 21 0 = nI 0) ∧ (hs_F x_0 1 4 = nI 0 ∧ hs_F m_0 7 0 = nI 0 ∧ hs_F x_0 3 12 = nI 0 ∧ hs_F m_0 28 0 = nI 0) ∧ hs_G x_0 1 2 = some hs_em ∧ hs_G x_0 1 3 = some hs_em ∧ hs_N x_0 = 17 := by decide +kernel
set_option maxRecDepth 100000 in
theorem m_0_z3 : ∀ r, r < 100 → ∀ p, p < 15 → ∀ b, b < 5 → hs_R m_0 27 (75 * r + 5 * p + b) = nI 0 := by decide +kernel
theorem Rel_0 : Rel 0 x_0 m_0 := by
  obtain ⟨⟨f1, f2, f3, f4, f5, f6, f7, f8, f9⟩, ⟨f10, f11, f12, f13⟩, g1, g2, hN⟩ := xm_0
  refine ⟨0, 0, 0, st_0, fun _ => 0, fun _ => 0, fun _ => 0, fun _ => 0, fun _ => 0, m_0_mS, x_0_cS, by rw [hN]; omega, Nat.le_refl _, ⟨by decide, by decide, f1, f2, f3, f4, f5, f6, f7, f8, fun z => absurd z (by decide), 0, by decide, f9⟩, ⟨st_0_is, by decide, by decide, by decide, by decide, by decide, by decide, by decide, by decide, by decide⟩, ⟨0, by decide, f10, f11, fun i hi => absurd hi (by omega)⟩, ⟨0, by decide, f12, f13, fun i hi => absurd hi (by omega)⟩, ⟨fun p hp => absurd hp (by omega), f4, Or.inl ⟨rfl, g1⟩⟩, fun p hp => absurd hp (by omega), fun p hp => absurd hp (by omega), fun z => absurd z (by decide), fun z => absurd z (by decide), fun p hp => absurd hp (by omega), ⟨⟨f7, Or.inl ⟨rfl, g2⟩⟩, fun e h1 _ => ?_, fun j hj => absurd hj (by omega), fun φ => rfl⟩, m_0_t, fun _ => ⟨fun i _ hi => m_0_z1 i hi, fun i _ hi => m_0_z2 i hi, fun p _ hp r hr b hb => m_0_z3 r hr p hp b hb⟩⟩
  rw [g1] at h1
  exact (Option.some.inj h1).symm
