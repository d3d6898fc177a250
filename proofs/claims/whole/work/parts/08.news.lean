/-! What a new object holds -/
theorem hs_fs_mk {ad' : Nat → Nat} {σ : hs_T} {kd : Nat} : hs_fs ad' (hs_mkO σ kd) kd (hs_N σ) = (hs_sh kd).map (fun b => if b then Value.null else Value.int 0) := by
  have e1 : ∀ k, hs_G (hs_mkO σ kd) k (hs_N σ) = none := fun k => if_pos rfl
  have e2 : ∀ k, hs_F (hs_mkO σ kd) k (hs_N σ) = 0 := fun k => if_pos rfl
  apply List.ext_getElem?
  intro j
  simp [hs_fs, List.getElem?_mapIdx, hs_v, e1, e2, va_rf]
theorem hs_df1 (σ : hs_T) : ∀ (ad' : Nat → Nat) (j : Nat), j < 3 → defaultValue (tyJx4a65c j) = vp_V (hs_fs ad' (hs_mkO σ 1) 1 (hs_N σ)) j := by
  intro ad' j hj
  rw [hs_fs_mk]
  rcases (show j = 0 ∨ j = 1 ∨ j = 2 by omega) with rfl | rfl | rfl <;> rfl
theorem hs_df2 (σ : hs_T) : ∀ (ad' : Nat → Nat) (j : Nat), j < 3 → defaultValue (tyX0 j) = vp_V (hs_fs ad' (hs_mkO σ 2) 2 (hs_N σ)) j := by
  intro ad' j hj
  rw [hs_fs_mk]
  rcases (show j = 0 ∨ j = 1 ∨ j = 2 by omega) with rfl | rfl | rfl <;> rfl
theorem hs_df3 (σ : hs_T) : ∀ (ad' : Nat → Nat) (j : Nat), j < 6 → defaultValue (tyX1 j) = vp_V (hs_fs ad' (hs_mkO σ 3) 3 (hs_N σ)) j := by
  intro ad' j hj
  rw [hs_fs_mk]
  rcases (show j = 0 ∨ j = 1 ∨ j = 2 ∨ j = 3 ∨ j = 4 ∨ j = 5 by omega) with rfl | rfl | rfl | rfl | rfl | rfl <;> rfl
theorem hs_df4 (σ : hs_T) : ∀ (ad' : Nat → Nat) (j : Nat), j < 4 → defaultValue (tyX2 j) = vp_V (hs_fs ad' (hs_mkO σ 4) 4 (hs_N σ)) j := by
  intro ad' j hj
  rw [hs_fs_mk]
  rcases (show j = 0 ∨ j = 1 ∨ j = 2 ∨ j = 3 by omega) with rfl | rfl | rfl | rfl <;> rfl
theorem hs_df5 (σ : hs_T) : ∀ (ad' : Nat → Nat) (j : Nat), j < 3 → defaultValue (tyX3 j) = vp_V (hs_fs ad' (hs_mkO σ 5) 5 (hs_N σ)) j := by
  intro ad' j hj
  rw [hs_fs_mk]
  rcases (show j = 0 ∨ j = 1 ∨ j = 2 by omega) with rfl | rfl | rfl <;> rfl
theorem hs_df6 (σ : hs_T) : ∀ (ad' : Nat → Nat) (j : Nat), j < 4 → defaultValue (tyX4 j) = vp_V (hs_fs ad' (hs_mkO σ 6) 6 (hs_N σ)) j := by
  intro ad' j hj
  rw [hs_fs_mk]
  rcases (show j = 0 ∨ j = 1 ∨ j = 2 ∨ j = 3 by omega) with rfl | rfl | rfl | rfl <;> rfl
theorem hs_df7 (σ : hs_T) : ∀ (ad' : Nat → Nat) (j : Nat), j < 14 → defaultValue (tyX5 j) = vp_V (hs_fs ad' (hs_mkO σ 7) 7 (hs_N σ)) j := by
  intro ad' j hj
  rw [hs_fs_mk]
  rcases (show j = 0 ∨ j = 1 ∨ j = 2 ∨ j = 3 ∨ j = 4 ∨ j = 5 ∨ j = 6 ∨ j = 7 ∨ j = 8 ∨ j = 9 ∨ j = 10 ∨ j = 11 ∨ j = 12 ∨ j = 13 by omega) with rfl | rfl | rfl | rfl | rfl | rfl | rfl | rfl | rfl | rfl | rfl | rfl | rfl | rfl <;> rfl
theorem hs_df8 (σ : hs_T) : ∀ (ad' : Nat → Nat) (j : Nat), j < 2 → defaultValue (tyX6 j) = vp_V (hs_fs ad' (hs_mkO σ 8) 8 (hs_N σ)) j := by
  intro ad' j hj
  rw [hs_fs_mk]
  rcases (show j = 0 ∨ j = 1 by omega) with rfl | rfl <;> rfl
theorem hs_df9 (σ : hs_T) : ∀ (ad' : Nat → Nat) (j : Nat), j < 10 → defaultValue (tyX7 j) = vp_V (hs_fs ad' (hs_mkO σ 9) 9 (hs_N σ)) j := by
  intro ad' j hj
  rw [hs_fs_mk]
  rcases (show j = 0 ∨ j = 1 ∨ j = 2 ∨ j = 3 ∨ j = 4 ∨ j = 5 ∨ j = 6 ∨ j = 7 ∨ j = 8 ∨ j = 9 by omega) with rfl | rfl | rfl | rfl | rfl | rfl | rfl | rfl | rfl | rfl <;> rfl
theorem hs_df10 (σ : hs_T) : ∀ (ad' : Nat → Nat) (j : Nat), j < 43 → defaultValue (tyX8 j) = vp_V (hs_fs ad' (hs_mkO σ 10) 10 (hs_N σ)) j := by
  intro ad' j hj
  rw [hs_fs_mk]
  rcases (show j = 0 ∨ j = 1 ∨ j = 2 ∨ j = 3 ∨ j = 4 ∨ j = 5 ∨ j = 6 ∨ j = 7 ∨ j = 8 ∨ j = 9 ∨ j = 10 ∨ j = 11 ∨ j = 12 ∨ j = 13 ∨ j = 14 ∨ j = 15 ∨ j = 16 ∨ j = 17 ∨ j = 18 ∨ j = 19 ∨ j = 20 ∨ j = 21 ∨ j = 22 ∨ j = 23 ∨ j = 24 ∨ j = 25 ∨ j = 26 ∨ j = 27 ∨ j = 28 ∨ j = 29 ∨ j = 30 ∨ j = 31 ∨ j = 32 ∨ j = 33 ∨ j = 34 ∨ j = 35 ∨ j = 36 ∨ j = 37 ∨ j = 38 ∨ j = 39 ∨ j = 40 ∨ j = 41 ∨ j = 42 by omega) with rfl | rfl | rfl | rfl | rfl | rfl | rfl | rfl | rfl | rfl | rfl | rfl | rfl | rfl | rfl | rfl | rfl | rfl | rfl | rfl | rfl | rfl | rfl | rfl | rfl | rfl | rfl | rfl | rfl | rfl | rfl | rfl | rfl | rfl | rfl | rfl | rfl | rfl | rfl | rfl | rfl | rfl | rfl <;> rfl
