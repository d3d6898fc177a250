/-! Pure part 5: signs, one by one -/
section Signs
variable {fu : Nat} {x m : hs_T} {n p h nx : Nat} {a b : Int32}
theorem su_y42 (hC : cS x) (hF : hs_F x 2 9 = nI h) (hh : 2 ≤ h) (h8 : h ≤ 8) : fX1_pileSuits fu x 9 (nI 42) = some (1, x) := by
  unfold fX1_pileSuits fX1_pileSuits_137
  rw [if_pos (show nI 42 = 42 from rfl), c_gI9 hC, pb_bind, hF, if_neg (show ¬ nI h < 2 from nI_nlt (b := 2) hh (by omega))]
theorem su_n42 (hC : cS x) (hF : hs_F x 2 9 = nI h) (hh : h < 2) : fX1_pileSuits fu x 9 (nI 42) = some (0, x) := by
  unfold fX1_pileSuits fX1_pileSuits_137
  rw [if_pos (show nI 42 = 42 from rfl), c_gI9 hC, pb_bind, hF, if_pos (show nI h < 2 from nI_lt (b := 2) hh (by decide))]
theorem ne_42 : fX8_needs fu m (nI 42) = some (2, m) := by
  unfold fX8_needs
  rw [if_neg (show ¬ nI 42 = 115 by decide), if_neg (show ¬ nI 42 = 106 by decide), if_neg (show ¬ nI 42 = 111 by decide), if_neg (show ¬ nI 42 = 43 by decide), if_neg (show ¬ nI 42 = 45 by decide), if_pos (show nI 42 = 42 from rfl)]
theorem pu_42 : fX8_isPush fu m (nI 42) = some (0, m) := by
  unfold fX8_isPush
  rw [if_neg (show ¬ nI 42 = 112 by decide), if_neg (show ¬ nI 42 = 97 by decide), if_neg (show ¬ nI 42 = 98 by decide), if_neg (show ¬ nI 42 = 108 by decide)]
theorem su_y43 (hC : cS x) (hF : hs_F x 2 9 = nI h) (hh : 2 ≤ h) (h8 : h ≤ 8) : fX1_pileSuits fu x 9 (nI 43) = some (1, x) := by
  unfold fX1_pileSuits fX1_pileSuits_137
  rw [if_neg (show ¬ nI 43 = 42 by decide), if_pos (show nI 43 = 43 from rfl), c_gI9 hC, pb_bind, hF, if_neg (show ¬ nI h < 2 from nI_nlt (b := 2) hh (by omega))]
theorem su_n43 (hC : cS x) (hF : hs_F x 2 9 = nI h) (hh : h < 2) : fX1_pileSuits fu x 9 (nI 43) = some (0, x) := by
  unfold fX1_pileSuits fX1_pileSuits_137
  rw [if_neg (show ¬ nI 43 = 42 by decide), if_pos (show nI 43 = 43 from rfl), c_gI9 hC, pb_bind, hF, if_pos (show nI h < 2 from nI_lt (b := 2) hh (by decide))]
theorem ne_43 : fX8_needs fu m (nI 43) = some (2, m) := by
  unfold fX8_needs
  rw [if_neg (show ¬ nI 43 = 115 by decide), if_neg (show ¬ nI 43 = 106 by decide), if_neg (show ¬ nI 43 = 111 by decide), if_pos (show nI 43 = 43 from rfl)]
theorem pu_43 : fX8_isPush fu m (nI 43) = some (0, m) := by
  unfold fX8_isPush
  rw [if_neg (show ¬ nI 43 = 112 by decide), if_neg (show ¬ nI 43 = 97 by decide), if_neg (show ¬ nI 43 = 98 by decide), if_neg (show ¬ nI 43 = 108 by decide)]
theorem su_y45 (hC : cS x) (hF : hs_F x 2 9 = nI h) (hh : 2 ≤ h) (h8 : h ≤ 8) : fX1_pileSuits fu x 9 (nI 45) = some (1, x) := by
  unfold fX1_pileSuits fX1_pileSuits_137
  rw [if_neg (show ¬ nI 45 = 42 by decide), if_neg (show ¬ nI 45 = 43 by decide), if_pos (show nI 45 = 45 from rfl), c_gI9 hC, pb_bind, hF, if_neg (show ¬ nI h < 2 from nI_nlt (b := 2) hh (by omega))]
theorem su_n45 (hC : cS x) (hF : hs_F x 2 9 = nI h) (hh : h < 2) : fX1_pileSuits fu x 9 (nI 45) = some (0, x) := by
  unfold fX1_pileSuits fX1_pileSuits_137
  rw [if_neg (show ¬ nI 45 = 42 by decide), if_neg (show ¬ nI 45 = 43 by decide), if_pos (show nI 45 = 45 from rfl), c_gI9 hC, pb_bind, hF, if_pos (show nI h < 2 from nI_lt (b := 2) hh (by decide))]
theorem ne_45 : fX8_needs fu m (nI 45) = some (2, m) := by
  unfold fX8_needs
  rw [if_neg (show ¬ nI 45 = 115 by decide), if_neg (show ¬ nI 45 = 106 by decide), if_neg (show ¬ nI 45 = 111 by decide), if_neg (show ¬ nI 45 = 43 by decide), if_pos (show nI 45 = 45 from rfl)]
theorem pu_45 : fX8_isPush fu m (nI 45) = some (0, m) := by
  unfold fX8_isPush
  rw [if_neg (show ¬ nI 45 = 112 by decide), if_neg (show ¬ nI 45 = 97 by decide), if_neg (show ¬ nI 45 = 98 by decide), if_neg (show ¬ nI 45 = 108 by decide)]
theorem su_y60 (hC : cS x) (hF : hs_F x 2 9 = nI h) (hh : 2 ≤ h) (h8 : h ≤ 8) : fX1_pileSuits fu x 9 (nI 60) = some (1, x) := by
  unfold fX1_pileSuits fX1_pileSuits_137
  rw [if_neg (show ¬ nI 60 = 42 by decide), if_neg (show ¬ nI 60 = 43 by decide), if_neg (show ¬ nI 60 = 45 by decide), if_pos (show nI 60 = 60 from rfl), c_gI9 hC, pb_bind, hF, if_neg (show ¬ nI h < 2 from nI_nlt (b := 2) hh (by omega))]
theorem su_n60 (hC : cS x) (hF : hs_F x 2 9 = nI h) (hh : h < 2) : fX1_pileSuits fu x 9 (nI 60) = some (0, x) := by
  unfold fX1_pileSuits fX1_pileSuits_137
  rw [if_neg (show ¬ nI 60 = 42 by decide), if_neg (show ¬ nI 60 = 43 by decide), if_neg (show ¬ nI 60 = 45 by decide), if_pos (show nI 60 = 60 from rfl), c_gI9 hC, pb_bind, hF, if_pos (show nI h < 2 from nI_lt (b := 2) hh (by decide))]
theorem ne_60 : fX8_needs fu m (nI 60) = some (2, m) := by
  unfold fX8_needs
  rw [if_neg (show ¬ nI 60 = 115 by decide), if_neg (show ¬ nI 60 = 106 by decide), if_neg (show ¬ nI 60 = 111 by decide), if_neg (show ¬ nI 60 = 43 by decide), if_neg (show ¬ nI 60 = 45 by decide), if_neg (show ¬ nI 60 = 42 by decide), if_neg (show ¬ nI 60 = 61 by decide), if_pos (show nI 60 = 60 from rfl)]
theorem pu_60 : fX8_isPush fu m (nI 60) = some (0, m) := by
  unfold fX8_isPush
  rw [if_neg (show ¬ nI 60 = 112 by decide), if_neg (show ¬ nI 60 = 97 by decide), if_neg (show ¬ nI 60 = 98 by decide), if_neg (show ¬ nI 60 = 108 by decide)]
theorem su_y61 (hC : cS x) (hF : hs_F x 2 9 = nI h) (hh : 2 ≤ h) (h8 : h ≤ 8) : fX1_pileSuits fu x 9 (nI 61) = some (1, x) := by
  unfold fX1_pileSuits fX1_pileSuits_137
  rw [if_neg (show ¬ nI 61 = 42 by decide), if_neg (show ¬ nI 61 = 43 by decide), if_neg (show ¬ nI 61 = 45 by decide), if_neg (show ¬ nI 61 = 60 by decide), if_pos (show nI 61 = 61 from rfl), c_gI9 hC, pb_bind, hF, if_neg (show ¬ nI h < 2 from nI_nlt (b := 2) hh (by omega))]
theorem su_n61 (hC : cS x) (hF : hs_F x 2 9 = nI h) (hh : h < 2) : fX1_pileSuits fu x 9 (nI 61) = some (0, x) := by
  unfold fX1_pileSuits fX1_pileSuits_137
  rw [if_neg (show ¬ nI 61 = 42 by decide), if_neg (show ¬ nI 61 = 43 by decide), if_neg (show ¬ nI 61 = 45 by decide), if_neg (show ¬ nI 61 = 60 by decide), if_pos (show nI 61 = 61 from rfl), c_gI9 hC, pb_bind, hF, if_pos (show nI h < 2 from nI_lt (b := 2) hh (by decide))]
theorem ne_61 : fX8_needs fu m (nI 61) = some (2, m) := by
  unfold fX8_needs
  rw [if_neg (show ¬ nI 61 = 115 by decide), if_neg (show ¬ nI 61 = 106 by decide), if_neg (show ¬ nI 61 = 111 by decide), if_neg (show ¬ nI 61 = 43 by decide), if_neg (show ¬ nI 61 = 45 by decide), if_neg (show ¬ nI 61 = 42 by decide), if_pos (show nI 61 = 61 from rfl)]
theorem pu_61 : fX8_isPush fu m (nI 61) = some (0, m) := by
  unfold fX8_isPush
  rw [if_neg (show ¬ nI 61 = 112 by decide), if_neg (show ¬ nI 61 = 97 by decide), if_neg (show ¬ nI 61 = 98 by decide), if_neg (show ¬ nI 61 = 108 by decide)]
theorem su_y97 (hC : cS x) (hF : hs_F x 2 9 = nI h) (hh : h < 8) : fX1_pileSuits fu x 9 (nI 97) = some (1, x) := by
  unfold fX1_pileSuits fX1_pileSuits_108
  rw [if_neg (show ¬ nI 97 = 42 by decide), if_neg (show ¬ nI 97 = 43 by decide), if_neg (show ¬ nI 97 = 45 by decide), if_neg (show ¬ nI 97 = 60 by decide), if_neg (show ¬ nI 97 = 61 by decide), if_pos (show nI 97 = 97 from rfl), c_gI9 hC, pb_bind, hF, if_neg (show ¬ 8 ≤ nI h from nI_ge (b := 8) hh (by decide))]
theorem su_n97 (hC : cS x) (hF : hs_F x 2 9 = nI 8) : fX1_pileSuits fu x 9 (nI 97) = some (0, x) := by
  unfold fX1_pileSuits fX1_pileSuits_108
  rw [if_neg (show ¬ nI 97 = 42 by decide), if_neg (show ¬ nI 97 = 43 by decide), if_neg (show ¬ nI 97 = 45 by decide), if_neg (show ¬ nI 97 = 60 by decide), if_neg (show ¬ nI 97 = 61 by decide), if_pos (show nI 97 = 97 from rfl), c_gI9 hC, pb_bind, hF, if_pos (show (8 : Int32) ≤ nI 8 by decide)]
theorem ne_97 : fX8_needs fu m (nI 97) = some (0, m) := by
  unfold fX8_needs
  rw [if_neg (show ¬ nI 97 = 115 by decide), if_neg (show ¬ nI 97 = 106 by decide), if_neg (show ¬ nI 97 = 111 by decide), if_neg (show ¬ nI 97 = 43 by decide), if_neg (show ¬ nI 97 = 45 by decide), if_neg (show ¬ nI 97 = 42 by decide), if_neg (show ¬ nI 97 = 61 by decide), if_neg (show ¬ nI 97 = 60 by decide)]
theorem pu_97 : fX8_isPush fu m (nI 97) = some (1, m) := by
  unfold fX8_isPush
  rw [if_neg (show ¬ nI 97 = 112 by decide), if_pos (show nI 97 = 97 from rfl)]
theorem su_y98 (hC : cS x) (hF : hs_F x 2 9 = nI h) (hh : h < 8) : fX1_pileSuits fu x 9 (nI 98) = some (1, x) := by
  unfold fX1_pileSuits fX1_pileSuits_108
  rw [if_neg (show ¬ nI 98 = 42 by decide), if_neg (show ¬ nI 98 = 43 by decide), if_neg (show ¬ nI 98 = 45 by decide), if_neg (show ¬ nI 98 = 60 by decide), if_neg (show ¬ nI 98 = 61 by decide), if_neg (show ¬ nI 98 = 97 by decide), if_pos (show nI 98 = 98 from rfl), c_gI9 hC, pb_bind, hF, if_neg (show ¬ 8 ≤ nI h from nI_ge (b := 8) hh (by decide))]
theorem su_n98 (hC : cS x) (hF : hs_F x 2 9 = nI 8) : fX1_pileSuits fu x 9 (nI 98) = some (0, x) := by
  unfold fX1_pileSuits fX1_pileSuits_108
  rw [if_neg (show ¬ nI 98 = 42 by decide), if_neg (show ¬ nI 98 = 43 by decide), if_neg (show ¬ nI 98 = 45 by decide), if_neg (show ¬ nI 98 = 60 by decide), if_neg (show ¬ nI 98 = 61 by decide), if_neg (show ¬ nI 98 = 97 by decide), if_pos (show nI 98 = 98 from rfl), c_gI9 hC, pb_bind, hF, if_pos (show (8 : Int32) ≤ nI 8 by decide)]
theorem ne_98 : fX8_needs fu m (nI 98) = some (0, m) := by
  unfold fX8_needs
  rw [if_neg (show ¬ nI 98 = 115 by decide), if_neg (show ¬ nI 98 = 106 by decide), if_neg (show ¬ nI 98 = 111 by decide), if_neg (show ¬ nI 98 = 43 by decide), if_neg (show ¬ nI 98 = 45 by decide), if_neg (show ¬ nI 98 = 42 by decide), if_neg (show ¬ nI 98 = 61 by decide), if_neg (show ¬ nI 98 = 60 by decide)]
theorem pu_98 : fX8_isPush fu m (nI 98) = some (1, m) := by
  unfold fX8_isPush
  rw [if_neg (show ¬ nI 98 = 112 by decide), if_neg (show ¬ nI 98 = 97 by decide), if_pos (show nI 98 = 98 from rfl)]
theorem su_y108 (hC : cS x) (hF : hs_F x 2 9 = nI h) (hh : h < 8) : fX1_pileSuits fu x 9 (nI 108) = some (1, x) := by
  unfold fX1_pileSuits fX1_pileSuits_108
  rw [if_neg (show ¬ nI 108 = 42 by decide), if_neg (show ¬ nI 108 = 43 by decide), if_neg (show ¬ nI 108 = 45 by decide), if_neg (show ¬ nI 108 = 60 by decide), if_neg (show ¬ nI 108 = 61 by decide), if_neg (show ¬ nI 108 = 97 by decide), if_neg (show ¬ nI 108 = 98 by decide), if_neg (show ¬ nI 108 = 106 by decide), if_pos (show nI 108 = 108 from rfl), c_gI9 hC, pb_bind, hF, if_neg (show ¬ 8 ≤ nI h from nI_ge (b := 8) hh (by decide))]
theorem su_n108 (hC : cS x) (hF : hs_F x 2 9 = nI 8) : fX1_pileSuits fu x 9 (nI 108) = some (0, x) := by
  unfold fX1_pileSuits fX1_pileSuits_108
  rw [if_neg (show ¬ nI 108 = 42 by decide), if_neg (show ¬ nI 108 = 43 by decide), if_neg (show ¬ nI 108 = 45 by decide), if_neg (show ¬ nI 108 = 60 by decide), if_neg (show ¬ nI 108 = 61 by decide), if_neg (show ¬ nI 108 = 97 by decide), if_neg (show ¬ nI 108 = 98 by decide), if_neg (show ¬ nI 108 = 106 by decide), if_pos (show nI 108 = 108 from rfl), c_gI9 hC, pb_bind, hF, if_pos (show (8 : Int32) ≤ nI 8 by decide)]
theorem ne_108 : fX8_needs fu m (nI 108) = some (0, m) := by
  unfold fX8_needs
  rw [if_neg (show ¬ nI 108 = 115 by decide), if_neg (show ¬ nI 108 = 106 by decide), if_neg (show ¬ nI 108 = 111 by decide), if_neg (show ¬ nI 108 = 43 by decide), if_neg (show ¬ nI 108 = 45 by decide), if_neg (show ¬ nI 108 = 42 by decide), if_neg (show ¬ nI 108 = 61 by decide), if_neg (show ¬ nI 108 = 60 by decide)]
theorem pu_108 : fX8_isPush fu m (nI 108) = some (1, m) := by
  unfold fX8_isPush
  rw [if_neg (show ¬ nI 108 = 112 by decide), if_neg (show ¬ nI 108 = 97 by decide), if_neg (show ¬ nI 108 = 98 by decide), if_pos (show nI 108 = 108 from rfl)]
theorem su_y112 (hC : cS x) (hF : hs_F x 2 9 = nI h) (hh : h < 8) : fX1_pileSuits fu x 9 (nI 112) = some (1, x) := by
  unfold fX1_pileSuits fX1_pileSuits_108
  rw [if_neg (show ¬ nI 112 = 42 by decide), if_neg (show ¬ nI 112 = 43 by decide), if_neg (show ¬ nI 112 = 45 by decide), if_neg (show ¬ nI 112 = 60 by decide), if_neg (show ¬ nI 112 = 61 by decide), if_neg (show ¬ nI 112 = 97 by decide), if_neg (show ¬ nI 112 = 98 by decide), if_neg (show ¬ nI 112 = 106 by decide), if_neg (show ¬ nI 112 = 108 by decide), if_neg (show ¬ nI 112 = 111 by decide), if_pos (show nI 112 = 112 from rfl), c_gI9 hC, pb_bind, hF, if_neg (show ¬ 8 ≤ nI h from nI_ge (b := 8) hh (by decide))]
theorem su_n112 (hC : cS x) (hF : hs_F x 2 9 = nI 8) : fX1_pileSuits fu x 9 (nI 112) = some (0, x) := by
  unfold fX1_pileSuits fX1_pileSuits_108
  rw [if_neg (show ¬ nI 112 = 42 by decide), if_neg (show ¬ nI 112 = 43 by decide), if_neg (show ¬ nI 112 = 45 by decide), if_neg (show ¬ nI 112 = 60 by decide), if_neg (show ¬ nI 112 = 61 by decide), if_neg (show ¬ nI 112 = 97 by decide), if_neg (show ¬ nI 112 = 98 by decide), if_neg (show ¬ nI 112 = 106 by decide), if_neg (show ¬ nI 112 = 108 by decide), if_neg (show ¬ nI 112 = 111 by decide), if_pos (show nI 112 = 112 from rfl), c_gI9 hC, pb_bind, hF, if_pos (show (8 : Int32) ≤ nI 8 by decide)]
theorem ne_112 : fX8_needs fu m (nI 112) = some (0, m) := by
  unfold fX8_needs
  rw [if_neg (show ¬ nI 112 = 115 by decide), if_neg (show ¬ nI 112 = 106 by decide), if_neg (show ¬ nI 112 = 111 by decide), if_neg (show ¬ nI 112 = 43 by decide), if_neg (show ¬ nI 112 = 45 by decide), if_neg (show ¬ nI 112 = 42 by decide), if_neg (show ¬ nI 112 = 61 by decide), if_neg (show ¬ nI 112 = 60 by decide)]
theorem pu_112 : fX8_isPush fu m (nI 112) = some (1, m) := by
  unfold fX8_isPush
  rw [if_pos (show nI 112 = 112 from rfl)]
theorem su_y106 (hC : cS x) (hF : hs_F x 2 9 = nI h) (hh : 1 ≤ h) (h8 : h ≤ 8) : fX1_pileSuits fu x 9 (nI 106) = some (1, x) := by
  unfold fX1_pileSuits fX1_pileSuits_123
  rw [if_neg (show ¬ nI 106 = 42 by decide), if_neg (show ¬ nI 106 = 43 by decide), if_neg (show ¬ nI 106 = 45 by decide), if_neg (show ¬ nI 106 = 60 by decide), if_neg (show ¬ nI 106 = 61 by decide), if_neg (show ¬ nI 106 = 97 by decide), if_neg (show ¬ nI 106 = 98 by decide), if_pos (show nI 106 = 106 from rfl), c_gI9 hC, pb_bind, hF, if_neg (show ¬ nI h < 1 from nI_nlt (b := 1) hh (by omega))]
theorem su_n106 (hC : cS x) (hF : hs_F x 2 9 = nI 0) : fX1_pileSuits fu x 9 (nI 106) = some (0, x) := by
  unfold fX1_pileSuits fX1_pileSuits_123
  rw [if_neg (show ¬ nI 106 = 42 by decide), if_neg (show ¬ nI 106 = 43 by decide), if_neg (show ¬ nI 106 = 45 by decide), if_neg (show ¬ nI 106 = 60 by decide), if_neg (show ¬ nI 106 = 61 by decide), if_neg (show ¬ nI 106 = 97 by decide), if_neg (show ¬ nI 106 = 98 by decide), if_pos (show nI 106 = 106 from rfl), c_gI9 hC, pb_bind, hF, if_pos (show nI 0 < 1 by decide)]
theorem ne_106 : fX8_needs fu m (nI 106) = some (1, m) := by
  unfold fX8_needs
  rw [if_neg (show ¬ nI 106 = 115 by decide), if_pos (show nI 106 = 106 from rfl)]
theorem pu_106 : fX8_isPush fu m (nI 106) = some (0, m) := by
  unfold fX8_isPush
  rw [if_neg (show ¬ nI 106 = 112 by decide), if_neg (show ¬ nI 106 = 97 by decide), if_neg (show ¬ nI 106 = 98 by decide), if_neg (show ¬ nI 106 = 108 by decide)]
theorem su_y111 (hC : cS x) (hF : hs_F x 2 9 = nI h) (hh : 1 ≤ h) (h8 : h ≤ 8) : fX1_pileSuits fu x 9 (nI 111) = some (1, x) := by
  unfold fX1_pileSuits fX1_pileSuits_123
  rw [if_neg (show ¬ nI 111 = 42 by decide), if_neg (show ¬ nI 111 = 43 by decide), if_neg (show ¬ nI 111 = 45 by decide), if_neg (show ¬ nI 111 = 60 by decide), if_neg (show ¬ nI 111 = 61 by decide), if_neg (show ¬ nI 111 = 97 by decide), if_neg (show ¬ nI 111 = 98 by decide), if_neg (show ¬ nI 111 = 106 by decide), if_neg (show ¬ nI 111 = 108 by decide), if_pos (show nI 111 = 111 from rfl), c_gI9 hC, pb_bind, hF, if_neg (show ¬ nI h < 1 from nI_nlt (b := 1) hh (by omega))]
theorem su_n111 (hC : cS x) (hF : hs_F x 2 9 = nI 0) : fX1_pileSuits fu x 9 (nI 111) = some (0, x) := by
  unfold fX1_pileSuits fX1_pileSuits_123
  rw [if_neg (show ¬ nI 111 = 42 by decide), if_neg (show ¬ nI 111 = 43 by decide), if_neg (show ¬ nI 111 = 45 by decide), if_neg (show ¬ nI 111 = 60 by decide), if_neg (show ¬ nI 111 = 61 by decide), if_neg (show ¬ nI 111 = 97 by decide), if_neg (show ¬ nI 111 = 98 by decide), if_neg (show ¬ nI 111 = 106 by decide), if_neg (show ¬ nI 111 = 108 by decide), if_pos (show nI 111 = 111 from rfl), c_gI9 hC, pb_bind, hF, if_pos (show nI 0 < 1 by decide)]
theorem ne_111 : fX8_needs fu m (nI 111) = some (1, m) := by
  unfold fX8_needs
  rw [if_neg (show ¬ nI 111 = 115 by decide), if_neg (show ¬ nI 111 = 106 by decide), if_pos (show nI 111 = 111 from rfl)]
theorem pu_111 : fX8_isPush fu m (nI 111) = some (0, m) := by
  unfold fX8_isPush
  rw [if_neg (show ¬ nI 111 = 112 by decide), if_neg (show ¬ nI 111 = 97 by decide), if_neg (show ¬ nI 111 = 98 by decide), if_neg (show ¬ nI 111 = 108 by decide)]
theorem su_y115 (hC : cS x) (hF : hs_F x 2 9 = nI h) (hh : 1 ≤ h) (h8 : h ≤ 8) : fX1_pileSuits fu x 9 (nI 115) = some (1, x) := by
  unfold fX1_pileSuits fX1_pileSuits_123
  rw [if_neg (show ¬ nI 115 = 42 by decide), if_neg (show ¬ nI 115 = 43 by decide), if_neg (show ¬ nI 115 = 45 by decide), if_neg (show ¬ nI 115 = 60 by decide), if_neg (show ¬ nI 115 = 61 by decide), if_neg (show ¬ nI 115 = 97 by decide), if_neg (show ¬ nI 115 = 98 by decide), if_neg (show ¬ nI 115 = 106 by decide), if_neg (show ¬ nI 115 = 108 by decide), if_neg (show ¬ nI 115 = 111 by decide), if_neg (show ¬ nI 115 = 112 by decide), if_pos (show nI 115 = 115 from rfl), c_gI9 hC, pb_bind, hF, if_neg (show ¬ nI h < 1 from nI_nlt (b := 1) hh (by omega))]
theorem su_n115 (hC : cS x) (hF : hs_F x 2 9 = nI 0) : fX1_pileSuits fu x 9 (nI 115) = some (0, x) := by
  unfold fX1_pileSuits fX1_pileSuits_123
  rw [if_neg (show ¬ nI 115 = 42 by decide), if_neg (show ¬ nI 115 = 43 by decide), if_neg (show ¬ nI 115 = 45 by decide), if_neg (show ¬ nI 115 = 60 by decide), if_neg (show ¬ nI 115 = 61 by decide), if_neg (show ¬ nI 115 = 97 by decide), if_neg (show ¬ nI 115 = 98 by decide), if_neg (show ¬ nI 115 = 106 by decide), if_neg (show ¬ nI 115 = 108 by decide), if_neg (show ¬ nI 115 = 111 by decide), if_neg (show ¬ nI 115 = 112 by decide), if_pos (show nI 115 = 115 from rfl), c_gI9 hC, pb_bind, hF, if_pos (show nI 0 < 1 by decide)]
theorem ne_115 : fX8_needs fu m (nI 115) = some (1, m) := by
  unfold fX8_needs
  rw [if_pos (show nI 115 = 115 from rfl)]
theorem pu_115 : fX8_isPush fu m (nI 115) = some (0, m) := by
  unfold fX8_isPush
  rw [if_neg (show ¬ nI 115 = 112 by decide), if_neg (show ¬ nI 115 = 97 by decide), if_neg (show ¬ nI 115 = 98 by decide), if_neg (show ¬ nI 115 = 108 by decide)]
theorem su_y103 : fX1_pileSuits fu x 9 (nI 103) = some (1, x) := by
  unfold fX1_pileSuits
  rw [if_neg (show ¬ nI 103 = 42 by decide), if_neg (show ¬ nI 103 = 43 by decide), if_neg (show ¬ nI 103 = 45 by decide), if_neg (show ¬ nI 103 = 60 by decide), if_neg (show ¬ nI 103 = 61 by decide), if_neg (show ¬ nI 103 = 97 by decide), if_neg (show ¬ nI 103 = 98 by decide), if_neg (show ¬ nI 103 = 106 by decide), if_neg (show ¬ nI 103 = 108 by decide), if_neg (show ¬ nI 103 = 111 by decide), if_neg (show ¬ nI 103 = 112 by decide), if_neg (show ¬ nI 103 = 115 by decide)]
theorem ne_103 : fX8_needs fu m (nI 103) = some (0, m) := by
  unfold fX8_needs
  rw [if_neg (show ¬ nI 103 = 115 by decide), if_neg (show ¬ nI 103 = 106 by decide), if_neg (show ¬ nI 103 = 111 by decide), if_neg (show ¬ nI 103 = 43 by decide), if_neg (show ¬ nI 103 = 45 by decide), if_neg (show ¬ nI 103 = 42 by decide), if_neg (show ¬ nI 103 = 61 by decide), if_neg (show ¬ nI 103 = 60 by decide)]
theorem pu_103 : fX8_isPush fu m (nI 103) = some (0, m) := by
  unfold fX8_isPush
  rw [if_neg (show ¬ nI 103 = 112 by decide), if_neg (show ¬ nI 103 = 97 by decide), if_neg (show ¬ nI 103 = 98 by decide), if_neg (show ¬ nI 103 = 108 by decide)]
theorem su_y104 : fX1_pileSuits fu x 9 (nI 104) = some (1, x) := by
  unfold fX1_pileSuits
  rw [if_neg (show ¬ nI 104 = 42 by decide), if_neg (show ¬ nI 104 = 43 by decide), if_neg (show ¬ nI 104 = 45 by decide), if_neg (show ¬ nI 104 = 60 by decide), if_neg (show ¬ nI 104 = 61 by decide), if_neg (show ¬ nI 104 = 97 by decide), if_neg (show ¬ nI 104 = 98 by decide), if_neg (show ¬ nI 104 = 106 by decide), if_neg (show ¬ nI 104 = 108 by decide), if_neg (show ¬ nI 104 = 111 by decide), if_neg (show ¬ nI 104 = 112 by decide), if_neg (show ¬ nI 104 = 115 by decide)]
theorem ne_104 : fX8_needs fu m (nI 104) = some (0, m) := by
  unfold fX8_needs
  rw [if_neg (show ¬ nI 104 = 115 by decide), if_neg (show ¬ nI 104 = 106 by decide), if_neg (show ¬ nI 104 = 111 by decide), if_neg (show ¬ nI 104 = 43 by decide), if_neg (show ¬ nI 104 = 45 by decide), if_neg (show ¬ nI 104 = 42 by decide), if_neg (show ¬ nI 104 = 61 by decide), if_neg (show ¬ nI 104 = 60 by decide)]
theorem pu_104 : fX8_isPush fu m (nI 104) = some (0, m) := by
  unfold fX8_isPush
  rw [if_neg (show ¬ nI 104 = 112 by decide), if_neg (show ¬ nI 104 = 97 by decide), if_neg (show ¬ nI 104 = 98 by decide), if_neg (show ¬ nI 104 = 108 by decide)]
theorem ac_42 (hC : cS x) {u w k q : Nat} (hF : hs_F x 2 9 = nI (h + 2)) (h8 : h + 2 ≤ 8) (hu : hs_R x 10 h = nI u) (hw : hs_R x 10 (h + 1) = nI w) (u1 : u < 10000) (w1 : w < 10000) : fX1_act fu x 9 (nI 42) (nI k) q = some ((), hs_wF (hs_wR (hs_wF (hs_wF x 2 9 (nI (h + 1))) 2 9 (nI h)) 10 h (nI (opN 42 u w))) 2 9 (nI (h + 1))) := by
  unfold fX1_act fX1_act_142 fX1_joinTwo
  have e1 : hs_F (hs_wF x 2 9 (nI (h + 1))) 2 9 = nI (h + 1) := by rw [pb_F_wF, if_pos ⟨rfl, rfl⟩]
  have e2 : hs_F (hs_wF (hs_wF x 2 9 (nI (h + 1))) 2 9 (nI h)) 2 9 = nI h := by rw [pb_F_wF, if_pos ⟨rfl, rfl⟩]
  rw [if_pos (show nI 42 = 42 from rfl), c_ck9 hC, pb_bind, pb_bind, c_pull hC (k := h + 1) (by omega) hF, pb_b2, c_ck9 (σ := hs_wF x 2 9 (nI (h + 1))) hC, pb_bind, c_pull (x := hs_wF x 2 9 (nI (h + 1))) hC (k := h) (by omega) e1, pb_b2, pb_R_wF, hu, hw, c_joined (by decide) u1 w1, pb_b2, c_ck9 (σ := hs_wF (hs_wF x 2 9 (nI (h + 1))) 2 9 (nI h)) hC, pb_bind, c_push (x := hs_wF (hs_wF x 2 9 (nI (h + 1))) 2 9 (nI h)) hC (k := h) (by omega) e2, pb_b2, pb_b2]
theorem ac_43 (hC : cS x) {u w k q : Nat} (hF : hs_F x 2 9 = nI (h + 2)) (h8 : h + 2 ≤ 8) (hu : hs_R x 10 h = nI u) (hw : hs_R x 10 (h + 1) = nI w) (u1 : u < 10000) (w1 : w < 10000) : fX1_act fu x 9 (nI 43) (nI k) q = some ((), hs_wF (hs_wR (hs_wF (hs_wF x 2 9 (nI (h + 1))) 2 9 (nI h)) 10 h (nI (opN 43 u w))) 2 9 (nI (h + 1))) := by
  unfold fX1_act fX1_act_142 fX1_joinTwo
  have e1 : hs_F (hs_wF x 2 9 (nI (h + 1))) 2 9 = nI (h + 1) := by rw [pb_F_wF, if_pos ⟨rfl, rfl⟩]
  have e2 : hs_F (hs_wF (hs_wF x 2 9 (nI (h + 1))) 2 9 (nI h)) 2 9 = nI h := by rw [pb_F_wF, if_pos ⟨rfl, rfl⟩]
  rw [if_neg (show ¬ nI 43 = 42 by decide), if_pos (show nI 43 = 43 from rfl), c_ck9 hC, pb_bind, pb_bind, c_pull hC (k := h + 1) (by omega) hF, pb_b2, c_ck9 (σ := hs_wF x 2 9 (nI (h + 1))) hC, pb_bind, c_pull (x := hs_wF x 2 9 (nI (h + 1))) hC (k := h) (by omega) e1, pb_b2, pb_R_wF, hu, hw, c_joined (by decide) u1 w1, pb_b2, c_ck9 (σ := hs_wF (hs_wF x 2 9 (nI (h + 1))) 2 9 (nI h)) hC, pb_bind, c_push (x := hs_wF (hs_wF x 2 9 (nI (h + 1))) 2 9 (nI h)) hC (k := h) (by omega) e2, pb_b2, pb_b2]
theorem ac_45 (hC : cS x) {u w k q : Nat} (hF : hs_F x 2 9 = nI (h + 2)) (h8 : h + 2 ≤ 8) (hu : hs_R x 10 h = nI u) (hw : hs_R x 10 (h + 1) = nI w) (u1 : u < 10000) (w1 : w < 10000) : fX1_act fu x 9 (nI 45) (nI k) q = some ((), hs_wF (hs_wR (hs_wF (hs_wF x 2 9 (nI (h + 1))) 2 9 (nI h)) 10 h (nI (opN 45 u w))) 2 9 (nI (h + 1))) := by
  unfold fX1_act fX1_act_142 fX1_joinTwo
  have e1 : hs_F (hs_wF x 2 9 (nI (h + 1))) 2 9 = nI (h + 1) := by rw [pb_F_wF, if_pos ⟨rfl, rfl⟩]
  have e2 : hs_F (hs_wF (hs_wF x 2 9 (nI (h + 1))) 2 9 (nI h)) 2 9 = nI h := by rw [pb_F_wF, if_pos ⟨rfl, rfl⟩]
  rw [if_neg (show ¬ nI 45 = 42 by decide), if_neg (show ¬ nI 45 = 43 by decide), if_pos (show nI 45 = 45 from rfl), c_ck9 hC, pb_bind, pb_bind, c_pull hC (k := h + 1) (by omega) hF, pb_b2, c_ck9 (σ := hs_wF x 2 9 (nI (h + 1))) hC, pb_bind, c_pull (x := hs_wF x 2 9 (nI (h + 1))) hC (k := h) (by omega) e1, pb_b2, pb_R_wF, hu, hw, c_joined (by decide) u1 w1, pb_b2, c_ck9 (σ := hs_wF (hs_wF x 2 9 (nI (h + 1))) 2 9 (nI h)) hC, pb_bind, c_push (x := hs_wF (hs_wF x 2 9 (nI (h + 1))) 2 9 (nI h)) hC (k := h) (by omega) e2, pb_b2, pb_b2]
theorem ac_60 (hC : cS x) {u w k q : Nat} (hF : hs_F x 2 9 = nI (h + 2)) (h8 : h + 2 ≤ 8) (hu : hs_R x 10 h = nI u) (hw : hs_R x 10 (h + 1) = nI w) (u1 : u < 10000) (w1 : w < 10000) : fX1_act fu x 9 (nI 60) (nI k) q = some ((), hs_wF (hs_wR (hs_wF (hs_wF x 2 9 (nI (h + 1))) 2 9 (nI h)) 10 h (nI (opN 60 u w))) 2 9 (nI (h + 1))) := by
  unfold fX1_act fX1_act_142 fX1_joinTwo
  have e1 : hs_F (hs_wF x 2 9 (nI (h + 1))) 2 9 = nI (h + 1) := by rw [pb_F_wF, if_pos ⟨rfl, rfl⟩]
  have e2 : hs_F (hs_wF (hs_wF x 2 9 (nI (h + 1))) 2 9 (nI h)) 2 9 = nI h := by rw [pb_F_wF, if_pos ⟨rfl, rfl⟩]
  rw [if_neg (show ¬ nI 60 = 42 by decide), if_neg (show ¬ nI 60 = 43 by decide), if_neg (show ¬ nI 60 = 45 by decide), if_pos (show nI 60 = 60 from rfl), c_ck9 hC, pb_bind, pb_bind, c_pull hC (k := h + 1) (by omega) hF, pb_b2, c_ck9 (σ := hs_wF x 2 9 (nI (h + 1))) hC, pb_bind, c_pull (x := hs_wF x 2 9 (nI (h + 1))) hC (k := h) (by omega) e1, pb_b2, pb_R_wF, hu, hw, c_joined (by decide) u1 w1, pb_b2, c_ck9 (σ := hs_wF (hs_wF x 2 9 (nI (h + 1))) 2 9 (nI h)) hC, pb_bind, c_push (x := hs_wF (hs_wF x 2 9 (nI (h + 1))) 2 9 (nI h)) hC (k := h) (by omega) e2, pb_b2, pb_b2]
theorem ac_61 (hC : cS x) {u w k q : Nat} (hF : hs_F x 2 9 = nI (h + 2)) (h8 : h + 2 ≤ 8) (hu : hs_R x 10 h = nI u) (hw : hs_R x 10 (h + 1) = nI w) (u1 : u < 10000) (w1 : w < 10000) : fX1_act fu x 9 (nI 61) (nI k) q = some ((), hs_wF (hs_wR (hs_wF (hs_wF x 2 9 (nI (h + 1))) 2 9 (nI h)) 10 h (nI (opN 61 u w))) 2 9 (nI (h + 1))) := by
  unfold fX1_act fX1_act_142 fX1_joinTwo
  have e1 : hs_F (hs_wF x 2 9 (nI (h + 1))) 2 9 = nI (h + 1) := by rw [pb_F_wF, if_pos ⟨rfl, rfl⟩]
  have e2 : hs_F (hs_wF (hs_wF x 2 9 (nI (h + 1))) 2 9 (nI h)) 2 9 = nI h := by rw [pb_F_wF, if_pos ⟨rfl, rfl⟩]
  rw [if_neg (show ¬ nI 61 = 42 by decide), if_neg (show ¬ nI 61 = 43 by decide), if_neg (show ¬ nI 61 = 45 by decide), if_neg (show ¬ nI 61 = 60 by decide), if_pos (show nI 61 = 61 from rfl), c_ck9 hC, pb_bind, pb_bind, c_pull hC (k := h + 1) (by omega) hF, pb_b2, c_ck9 (σ := hs_wF x 2 9 (nI (h + 1))) hC, pb_bind, c_pull (x := hs_wF x 2 9 (nI (h + 1))) hC (k := h) (by omega) e1, pb_b2, pb_R_wF, hu, hw, c_joined (by decide) u1 w1, pb_b2, c_ck9 (σ := hs_wF (hs_wF x 2 9 (nI (h + 1))) 2 9 (nI h)) hC, pb_bind, c_push (x := hs_wF (hs_wF x 2 9 (nI (h + 1))) 2 9 (nI h)) hC (k := h) (by omega) e2, pb_b2, pb_b2]
theorem ac_97 (hC : cS x) {k q : Nat} (hF : hs_F x 2 9 = nI h) (h8 : h < 8) : fX1_act fu x 9 (nI 97) (nI k) q = some ((), hs_wF (hs_wR x 10 h (hs_F x 3 9)) 2 9 (nI (h + 1))) := by
  unfold fX1_act
  rw [if_neg (show ¬ nI 97 = 42 by decide), if_neg (show ¬ nI 97 = 43 by decide), if_neg (show ¬ nI 97 = 45 by decide), if_neg (show ¬ nI 97 = 60 by decide), if_neg (show ¬ nI 97 = 61 by decide), if_pos (show nI 97 = 97 from rfl), c_gI9 hC, pb_bind, c_ck9 hC, pb_bind, c_push hC h8 hF, pb_b2]
theorem ac_98 (hC : cS x) {k q : Nat} (hF : hs_F x 2 9 = nI h) (h8 : h < 8) : fX1_act fu x 9 (nI 98) (nI k) q = some ((), hs_wF (hs_wR x 10 h (hs_F x 4 9)) 2 9 (nI (h + 1))) := by
  unfold fX1_act
  rw [if_neg (show ¬ nI 98 = 42 by decide), if_neg (show ¬ nI 98 = 43 by decide), if_neg (show ¬ nI 98 = 45 by decide), if_neg (show ¬ nI 98 = 60 by decide), if_neg (show ¬ nI 98 = 61 by decide), if_neg (show ¬ nI 98 = 97 by decide), if_pos (show nI 98 = 98 from rfl), c_gI9 hC, pb_bind, c_ck9 hC, pb_bind, c_push hC h8 hF, pb_b2]
theorem ac_108 (hC : cS x) (hB : sB x n p) {k : Nat} (hk : k < 8) (hF : hs_F x 2 9 = nI h) (h8 : h < 8) : fX1_act fu x 9 (nI 108) (nI k) (n + 1) = some ((), hs_wF (hs_wR x 10 h (hs_R x (n + 1) k)) 2 9 (nI (h + 1))) := by
  unfold fX1_act
  rw [if_neg (show ¬ nI 108 = 42 by decide), if_neg (show ¬ nI 108 = 43 by decide), if_neg (show ¬ nI 108 = 45 by decide), if_neg (show ¬ nI 108 = 60 by decide), if_neg (show ¬ nI 108 = 61 by decide), if_neg (show ¬ nI 108 = 97 by decide), if_neg (show ¬ nI 108 = 98 by decide), if_pos (show nI 108 = 108 from rfl), s_ld1 hB hk, pb_bind, c_ck9 hC, pb_bind, c_push hC h8 hF, pb_b2]
theorem ac_112 (hC : cS x) {k q : Nat} (hF : hs_F x 2 9 = nI h) (h8 : h < 8) : fX1_act fu x 9 (nI 112) (nI k) q = some ((), hs_wF (hs_wR x 10 h (nI k)) 2 9 (nI (h + 1))) := by
  unfold fX1_act
  rw [if_neg (show ¬ nI 112 = 42 by decide), if_neg (show ¬ nI 112 = 43 by decide), if_neg (show ¬ nI 112 = 45 by decide), if_neg (show ¬ nI 112 = 60 by decide), if_neg (show ¬ nI 112 = 61 by decide), if_neg (show ¬ nI 112 = 97 by decide), if_neg (show ¬ nI 112 = 98 by decide), if_neg (show ¬ nI 112 = 108 by decide), if_pos (show nI 112 = 112 from rfl), c_ck9 hC, pb_bind, c_push hC h8 hF, pb_b2]
theorem ac_115 (hC : cS x) (hB : sB x n p) {k : Nat} (hk : k < 8) (hF : hs_F x 2 9 = nI (h + 1)) (h8 : h < 8) : fX1_act fu x 9 (nI 115) (nI k) (n + 1) = some ((), hs_wR (hs_wF x 2 9 (nI h)) (n + 1) k (hs_R x 10 h)) := by
  unfold fX1_act
  rw [if_neg (show ¬ nI 115 = 42 by decide), if_neg (show ¬ nI 115 = 43 by decide), if_neg (show ¬ nI 115 = 45 by decide), if_neg (show ¬ nI 115 = 60 by decide), if_neg (show ¬ nI 115 = 61 by decide), if_neg (show ¬ nI 115 = 97 by decide), if_neg (show ¬ nI 115 = 98 by decide), if_neg (show ¬ nI 115 = 108 by decide), if_neg (show ¬ nI 115 = 112 by decide), if_pos (show nI 115 = 115 from rfl), c_ck9 hC, pb_bind, c_pull hC h8 hF, pb_b2, s_st1 (x := hs_wF x 2 9 (nI h)) (sB_of rfl rfl (fun k => by rw [pb_F_wF, if_neg (by have := hB.1; omega)]) hB) hk, pb_bind]
theorem ac_106 {k q : Nat} : fX1_act fu x 9 (nI 106) (nI k) q = some ((), x) := by
  unfold fX1_act
  rw [if_neg (show ¬ nI 106 = 42 by decide), if_neg (show ¬ nI 106 = 43 by decide), if_neg (show ¬ nI 106 = 45 by decide), if_neg (show ¬ nI 106 = 60 by decide), if_neg (show ¬ nI 106 = 61 by decide), if_neg (show ¬ nI 106 = 97 by decide), if_neg (show ¬ nI 106 = 98 by decide), if_neg (show ¬ nI 106 = 108 by decide), if_neg (show ¬ nI 106 = 112 by decide), if_neg (show ¬ nI 106 = 115 by decide)]
theorem ac_103 {k q : Nat} : fX1_act fu x 9 (nI 103) (nI k) q = some ((), x) := by
  unfold fX1_act
  rw [if_neg (show ¬ nI 103 = 42 by decide), if_neg (show ¬ nI 103 = 43 by decide), if_neg (show ¬ nI 103 = 45 by decide), if_neg (show ¬ nI 103 = 60 by decide), if_neg (show ¬ nI 103 = 61 by decide), if_neg (show ¬ nI 103 = 97 by decide), if_neg (show ¬ nI 103 = 98 by decide), if_neg (show ¬ nI 103 = 108 by decide), if_neg (show ¬ nI 103 = 112 by decide), if_neg (show ¬ nI 103 = 115 by decide)]
theorem do_42 (hM : mS m) {k u w : Nat} (hnx : hs_F m 20 0 = nI nx) (hF : hs_F m 19 0 = nI (h + 2)) (h8 : h + 2 ≤ 8) (hu : hs_R m 14 h = nI u) (hw : hs_R m 14 (h + 1) = nI w) (u1 : u < 10000) (w1 : w < 10000) : fX8_does fu m 0 (nI p) (nI 42) (nI k) a b = some ((), hs_wR (hs_wF (hs_wF m 20 0 (nI (nx + 1))) 19 0 (nI (h + 1))) 14 h (nI (opN 42 u w))) := by
  unfold fX8_does fX8_does_61 fX8_does_64 fX8_does_100 fX8_does_153 fX8_does_186
  have e1 : hs_F (hs_wF m 20 0 (nI (nx + 1))) 19 0 = nI (h + 2) := by rw [pb_F_wF, if_neg (by decide)]; exact hF
  have e2 : hs_F (hs_wF (hs_wF m 20 0 (nI (nx + 1))) 19 0 (nI (h + 1))) 19 0 = nI (h + 1) := by rw [pb_F_wF, if_pos ⟨rfl, rfl⟩]
  have e3 : hs_R (hs_wF (hs_wF m 20 0 (nI (nx + 1))) 19 0 (nI (h + 1))) 14 h = nI u := hu
  have e4 : hs_R (hs_wF (hs_wF m 20 0 (nI (nx + 1))) 19 0 (nI (h + 1))) 14 (h + 1) = nI w := hw
  rw [m_gI hM, pb_bind, hnx, nI_1, m_pI hM, pb_bind, pu_42, pb_b2, if_pos rfl, if_neg (show ¬ nI 42 = 115 by decide), ne_42, pb_b2, if_pos rfl, m_gI (σ := (hs_wF m 20 0 (nI (nx + 1)))) hM, pb_bind, e1, nI_pred (h + 1), m_pI (σ := (hs_wF m 20 0 (nI (nx + 1)))) hM, pb_bind, m_g18 (σ := (hs_wF (hs_wF m 20 0 (nI (nx + 1))) 19 0 (nI (h + 1)))) hM, pb_bind, m_gI (σ := (hs_wF (hs_wF m 20 0 (nI (nx + 1))) 19 0 (nI (h + 1)))) hM, pb_bind, pb_bind, pb_bind, e2, nI_pred, m_ld14 (σ := (hs_wF (hs_wF m 20 0 (nI (nx + 1))) 19 0 (nI (h + 1)))) hM (by omega), pb_bind, pb_bind, pb_bind, m_ld14 (σ := (hs_wF (hs_wF m 20 0 (nI (nx + 1))) 19 0 (nI (h + 1)))) hM (by omega), pb_bind, e3, e4, m_of (by decide) u1 w1, pb_b2, m_st14 (σ := (hs_wF (hs_wF m 20 0 (nI (nx + 1))) 19 0 (nI (h + 1)))) hM (by omega), pb_bind, if_neg (show ¬ nI 42 = 106 by decide), if_neg (show ¬ nI 42 = 103 by decide)]
theorem do_43 (hM : mS m) {k u w : Nat} (hnx : hs_F m 20 0 = nI nx) (hF : hs_F m 19 0 = nI (h + 2)) (h8 : h + 2 ≤ 8) (hu : hs_R m 14 h = nI u) (hw : hs_R m 14 (h + 1) = nI w) (u1 : u < 10000) (w1 : w < 10000) : fX8_does fu m 0 (nI p) (nI 43) (nI k) a b = some ((), hs_wR (hs_wF (hs_wF m 20 0 (nI (nx + 1))) 19 0 (nI (h + 1))) 14 h (nI (opN 43 u w))) := by
  unfold fX8_does fX8_does_61 fX8_does_64 fX8_does_100 fX8_does_153 fX8_does_186
  have e1 : hs_F (hs_wF m 20 0 (nI (nx + 1))) 19 0 = nI (h + 2) := by rw [pb_F_wF, if_neg (by decide)]; exact hF
  have e2 : hs_F (hs_wF (hs_wF m 20 0 (nI (nx + 1))) 19 0 (nI (h + 1))) 19 0 = nI (h + 1) := by rw [pb_F_wF, if_pos ⟨rfl, rfl⟩]
  have e3 : hs_R (hs_wF (hs_wF m 20 0 (nI (nx + 1))) 19 0 (nI (h + 1))) 14 h = nI u := hu
  have e4 : hs_R (hs_wF (hs_wF m 20 0 (nI (nx + 1))) 19 0 (nI (h + 1))) 14 (h + 1) = nI w := hw
  rw [m_gI hM, pb_bind, hnx, nI_1, m_pI hM, pb_bind, pu_43, pb_b2, if_pos rfl, if_neg (show ¬ nI 43 = 115 by decide), ne_43, pb_b2, if_pos rfl, m_gI (σ := (hs_wF m 20 0 (nI (nx + 1)))) hM, pb_bind, e1, nI_pred (h + 1), m_pI (σ := (hs_wF m 20 0 (nI (nx + 1)))) hM, pb_bind, m_g18 (σ := (hs_wF (hs_wF m 20 0 (nI (nx + 1))) 19 0 (nI (h + 1)))) hM, pb_bind, m_gI (σ := (hs_wF (hs_wF m 20 0 (nI (nx + 1))) 19 0 (nI (h + 1)))) hM, pb_bind, pb_bind, pb_bind, e2, nI_pred, m_ld14 (σ := (hs_wF (hs_wF m 20 0 (nI (nx + 1))) 19 0 (nI (h + 1)))) hM (by omega), pb_bind, pb_bind, pb_bind, m_ld14 (σ := (hs_wF (hs_wF m 20 0 (nI (nx + 1))) 19 0 (nI (h + 1)))) hM (by omega), pb_bind, e3, e4, m_of (by decide) u1 w1, pb_b2, m_st14 (σ := (hs_wF (hs_wF m 20 0 (nI (nx + 1))) 19 0 (nI (h + 1)))) hM (by omega), pb_bind, if_neg (show ¬ nI 43 = 106 by decide), if_neg (show ¬ nI 43 = 103 by decide)]
theorem do_45 (hM : mS m) {k u w : Nat} (hnx : hs_F m 20 0 = nI nx) (hF : hs_F m 19 0 = nI (h + 2)) (h8 : h + 2 ≤ 8) (hu : hs_R m 14 h = nI u) (hw : hs_R m 14 (h + 1) = nI w) (u1 : u < 10000) (w1 : w < 10000) : fX8_does fu m 0 (nI p) (nI 45) (nI k) a b = some ((), hs_wR (hs_wF (hs_wF m 20 0 (nI (nx + 1))) 19 0 (nI (h + 1))) 14 h (nI (opN 45 u w))) := by
  unfold fX8_does fX8_does_61 fX8_does_64 fX8_does_100 fX8_does_153 fX8_does_186
  have e1 : hs_F (hs_wF m 20 0 (nI (nx + 1))) 19 0 = nI (h + 2) := by rw [pb_F_wF, if_neg (by decide)]; exact hF
  have e2 : hs_F (hs_wF (hs_wF m 20 0 (nI (nx + 1))) 19 0 (nI (h + 1))) 19 0 = nI (h + 1) := by rw [pb_F_wF, if_pos ⟨rfl, rfl⟩]
  have e3 : hs_R (hs_wF (hs_wF m 20 0 (nI (nx + 1))) 19 0 (nI (h + 1))) 14 h = nI u := hu
  have e4 : hs_R (hs_wF (hs_wF m 20 0 (nI (nx + 1))) 19 0 (nI (h + 1))) 14 (h + 1) = nI w := hw
  rw [m_gI hM, pb_bind, hnx, nI_1, m_pI hM, pb_bind, pu_45, pb_b2, if_pos rfl, if_neg (show ¬ nI 45 = 115 by decide), ne_45, pb_b2, if_pos rfl, m_gI (σ := (hs_wF m 20 0 (nI (nx + 1)))) hM, pb_bind, e1, nI_pred (h + 1), m_pI (σ := (hs_wF m 20 0 (nI (nx + 1)))) hM, pb_bind, m_g18 (σ := (hs_wF (hs_wF m 20 0 (nI (nx + 1))) 19 0 (nI (h + 1)))) hM, pb_bind, m_gI (σ := (hs_wF (hs_wF m 20 0 (nI (nx + 1))) 19 0 (nI (h + 1)))) hM, pb_bind, pb_bind, pb_bind, e2, nI_pred, m_ld14 (σ := (hs_wF (hs_wF m 20 0 (nI (nx + 1))) 19 0 (nI (h + 1)))) hM (by omega), pb_bind, pb_bind, pb_bind, m_ld14 (σ := (hs_wF (hs_wF m 20 0 (nI (nx + 1))) 19 0 (nI (h + 1)))) hM (by omega), pb_bind, e3, e4, m_of (by decide) u1 w1, pb_b2, m_st14 (σ := (hs_wF (hs_wF m 20 0 (nI (nx + 1))) 19 0 (nI (h + 1)))) hM (by omega), pb_bind, if_neg (show ¬ nI 45 = 106 by decide), if_neg (show ¬ nI 45 = 103 by decide)]
theorem do_60 (hM : mS m) {k u w : Nat} (hnx : hs_F m 20 0 = nI nx) (hF : hs_F m 19 0 = nI (h + 2)) (h8 : h + 2 ≤ 8) (hu : hs_R m 14 h = nI u) (hw : hs_R m 14 (h + 1) = nI w) (u1 : u < 10000) (w1 : w < 10000) : fX8_does fu m 0 (nI p) (nI 60) (nI k) a b = some ((), hs_wR (hs_wF (hs_wF m 20 0 (nI (nx + 1))) 19 0 (nI (h + 1))) 14 h (nI (opN 60 u w))) := by
  unfold fX8_does fX8_does_61 fX8_does_64 fX8_does_100 fX8_does_153 fX8_does_186
  have e1 : hs_F (hs_wF m 20 0 (nI (nx + 1))) 19 0 = nI (h + 2) := by rw [pb_F_wF, if_neg (by decide)]; exact hF
  have e2 : hs_F (hs_wF (hs_wF m 20 0 (nI (nx + 1))) 19 0 (nI (h + 1))) 19 0 = nI (h + 1) := by rw [pb_F_wF, if_pos ⟨rfl, rfl⟩]
  have e3 : hs_R (hs_wF (hs_wF m 20 0 (nI (nx + 1))) 19 0 (nI (h + 1))) 14 h = nI u := hu
  have e4 : hs_R (hs_wF (hs_wF m 20 0 (nI (nx + 1))) 19 0 (nI (h + 1))) 14 (h + 1) = nI w := hw
  rw [m_gI hM, pb_bind, hnx, nI_1, m_pI hM, pb_bind, pu_60, pb_b2, if_pos rfl, if_neg (show ¬ nI 60 = 115 by decide), ne_60, pb_b2, if_pos rfl, m_gI (σ := (hs_wF m 20 0 (nI (nx + 1)))) hM, pb_bind, e1, nI_pred (h + 1), m_pI (σ := (hs_wF m 20 0 (nI (nx + 1)))) hM, pb_bind, m_g18 (σ := (hs_wF (hs_wF m 20 0 (nI (nx + 1))) 19 0 (nI (h + 1)))) hM, pb_bind, m_gI (σ := (hs_wF (hs_wF m 20 0 (nI (nx + 1))) 19 0 (nI (h + 1)))) hM, pb_bind, pb_bind, pb_bind, e2, nI_pred, m_ld14 (σ := (hs_wF (hs_wF m 20 0 (nI (nx + 1))) 19 0 (nI (h + 1)))) hM (by omega), pb_bind, pb_bind, pb_bind, m_ld14 (σ := (hs_wF (hs_wF m 20 0 (nI (nx + 1))) 19 0 (nI (h + 1)))) hM (by omega), pb_bind, e3, e4, m_of (by decide) u1 w1, pb_b2, m_st14 (σ := (hs_wF (hs_wF m 20 0 (nI (nx + 1))) 19 0 (nI (h + 1)))) hM (by omega), pb_bind, if_neg (show ¬ nI 60 = 106 by decide), if_neg (show ¬ nI 60 = 103 by decide)]
theorem do_61 (hM : mS m) {k u w : Nat} (hnx : hs_F m 20 0 = nI nx) (hF : hs_F m 19 0 = nI (h + 2)) (h8 : h + 2 ≤ 8) (hu : hs_R m 14 h = nI u) (hw : hs_R m 14 (h + 1) = nI w) (u1 : u < 10000) (w1 : w < 10000) : fX8_does fu m 0 (nI p) (nI 61) (nI k) a b = some ((), hs_wR (hs_wF (hs_wF m 20 0 (nI (nx + 1))) 19 0 (nI (h + 1))) 14 h (nI (opN 61 u w))) := by
  unfold fX8_does fX8_does_61 fX8_does_64 fX8_does_100 fX8_does_153 fX8_does_186
  have e1 : hs_F (hs_wF m 20 0 (nI (nx + 1))) 19 0 = nI (h + 2) := by rw [pb_F_wF, if_neg (by decide)]; exact hF
  have e2 : hs_F (hs_wF (hs_wF m 20 0 (nI (nx + 1))) 19 0 (nI (h + 1))) 19 0 = nI (h + 1) := by rw [pb_F_wF, if_pos ⟨rfl, rfl⟩]
  have e3 : hs_R (hs_wF (hs_wF m 20 0 (nI (nx + 1))) 19 0 (nI (h + 1))) 14 h = nI u := hu
  have e4 : hs_R (hs_wF (hs_wF m 20 0 (nI (nx + 1))) 19 0 (nI (h + 1))) 14 (h + 1) = nI w := hw
  rw [m_gI hM, pb_bind, hnx, nI_1, m_pI hM, pb_bind, pu_61, pb_b2, if_pos rfl, if_neg (show ¬ nI 61 = 115 by decide), ne_61, pb_b2, if_pos rfl, m_gI (σ := (hs_wF m 20 0 (nI (nx + 1)))) hM, pb_bind, e1, nI_pred (h + 1), m_pI (σ := (hs_wF m 20 0 (nI (nx + 1)))) hM, pb_bind, m_g18 (σ := (hs_wF (hs_wF m 20 0 (nI (nx + 1))) 19 0 (nI (h + 1)))) hM, pb_bind, m_gI (σ := (hs_wF (hs_wF m 20 0 (nI (nx + 1))) 19 0 (nI (h + 1)))) hM, pb_bind, pb_bind, pb_bind, e2, nI_pred, m_ld14 (σ := (hs_wF (hs_wF m 20 0 (nI (nx + 1))) 19 0 (nI (h + 1)))) hM (by omega), pb_bind, pb_bind, pb_bind, m_ld14 (σ := (hs_wF (hs_wF m 20 0 (nI (nx + 1))) 19 0 (nI (h + 1)))) hM (by omega), pb_bind, e3, e4, m_of (by decide) u1 w1, pb_b2, m_st14 (σ := (hs_wF (hs_wF m 20 0 (nI (nx + 1))) 19 0 (nI (h + 1)))) hM (by omega), pb_bind, if_neg (show ¬ nI 61 = 106 by decide), if_neg (show ¬ nI 61 = 103 by decide)]
theorem do_97 (hM : mS m) {k : Nat} (hnx : hs_F m 20 0 = nI nx) (hF : hs_F m 19 0 = nI h) (h8 : h < 8) : fX8_does fu m 0 (nI p) (nI 97) (nI k) a b = some ((), hs_wF (hs_wR (hs_wF m 20 0 (nI (nx + 1))) 14 h a) 19 0 (nI (h + 1))) := by
  unfold fX8_does fX8_does_61 fX8_does_64 fX8_does_100 fX8_does_153 fX8_does_186
  have e1 : hs_F (hs_wF m 20 0 (nI (nx + 1))) 19 0 = nI h := by rw [pb_F_wF, if_neg (by decide)]; exact hF
  rw [m_gI hM, pb_bind, hnx, nI_1, m_pI hM, pb_bind, pu_97, pb_b2, if_neg o_nz, if_neg (show ¬ nI 97 = 112 by decide), if_pos (show nI 97 = 97 from rfl), m_ck (σ := (hs_wF m 20 0 (nI (nx + 1)))) hM, pb_bind, m_pushes (m := (hs_wF m 20 0 (nI (nx + 1)))) hM (k := h) (by omega) e1, pb_b2, if_neg (show ¬ nI 97 = 115 by decide), ne_97, pb_b2, if_neg (show ¬ (0 : Int32) = 2 by decide), if_neg (show ¬ nI 97 = 106 by decide), if_neg (show ¬ nI 97 = 103 by decide)]
theorem do_98 (hM : mS m) {k : Nat} (hnx : hs_F m 20 0 = nI nx) (hF : hs_F m 19 0 = nI h) (h8 : h < 8) : fX8_does fu m 0 (nI p) (nI 98) (nI k) a b = some ((), hs_wF (hs_wR (hs_wF m 20 0 (nI (nx + 1))) 14 h b) 19 0 (nI (h + 1))) := by
  unfold fX8_does fX8_does_61 fX8_does_64 fX8_does_100 fX8_does_153 fX8_does_186
  have e1 : hs_F (hs_wF m 20 0 (nI (nx + 1))) 19 0 = nI h := by rw [pb_F_wF, if_neg (by decide)]; exact hF
  rw [m_gI hM, pb_bind, hnx, nI_1, m_pI hM, pb_bind, pu_98, pb_b2, if_neg o_nz, if_neg (show ¬ nI 98 = 112 by decide), if_neg (show ¬ nI 98 = 97 by decide), if_pos (show nI 98 = 98 from rfl), m_ck (σ := (hs_wF m 20 0 (nI (nx + 1)))) hM, pb_bind, m_pushes (m := (hs_wF m 20 0 (nI (nx + 1)))) hM (k := h) (by omega) e1, pb_b2, if_neg (show ¬ nI 98 = 115 by decide), ne_98, pb_b2, if_neg (show ¬ (0 : Int32) = 2 by decide), if_neg (show ¬ nI 98 = 106 by decide), if_neg (show ¬ nI 98 = 103 by decide)]
theorem do_108 (hM : mS m) {k : Nat} (hk : k < 8) (hp : p < 15) (hnx : hs_F m 20 0 = nI nx) (hF : hs_F m 19 0 = nI h) (h8 : h < 8) : fX8_does fu m 0 (nI p) (nI 108) (nI k) a b = some ((), hs_wF (hs_wR (hs_wF m 20 0 (nI (nx + 1))) 14 h (hs_R m 8 (8 * p + k))) 19 0 (nI (h + 1))) := by
  unfold fX8_does fX8_does_61 fX8_does_64 fX8_does_100 fX8_does_153 fX8_does_186
  have e1 : hs_F (hs_wF m 20 0 (nI (nx + 1))) 19 0 = nI h := by rw [pb_F_wF, if_neg (by decide)]; exact hF
  rw [m_gI hM, pb_bind, hnx, nI_1, m_pI hM, pb_bind, pu_108, pb_b2, if_neg o_nz, if_neg (show ¬ nI 108 = 112 by decide), if_neg (show ¬ nI 108 = 97 by decide), if_neg (show ¬ nI 108 = 98 by decide), m_g12 (σ := (hs_wF m 20 0 (nI (nx + 1)))) hM, pb_bind, show (8 : Int32) = nI 8 from rfl, pk_mul, nI_add, m_ld8 (σ := (hs_wF m 20 0 (nI (nx + 1)))) hM (by omega), pb_bind, m_ck (σ := (hs_wF m 20 0 (nI (nx + 1)))) hM, pb_bind, m_pushes (m := (hs_wF m 20 0 (nI (nx + 1)))) hM (k := h) (by omega) e1, pb_b2, if_neg (show ¬ nI 108 = 115 by decide), ne_108, pb_b2, if_neg (show ¬ (0 : Int32) = 2 by decide), if_neg (show ¬ nI 108 = 106 by decide), if_neg (show ¬ nI 108 = 103 by decide)]
  rfl
theorem do_112 (hM : mS m) {k : Nat} (hnx : hs_F m 20 0 = nI nx) (hF : hs_F m 19 0 = nI h) (h8 : h < 8) : fX8_does fu m 0 (nI p) (nI 112) (nI k) a b = some ((), hs_wF (hs_wR (hs_wF m 20 0 (nI (nx + 1))) 14 h (nI k)) 19 0 (nI (h + 1))) := by
  unfold fX8_does fX8_does_61 fX8_does_64 fX8_does_100 fX8_does_153 fX8_does_186
  have e1 : hs_F (hs_wF m 20 0 (nI (nx + 1))) 19 0 = nI h := by rw [pb_F_wF, if_neg (by decide)]; exact hF
  rw [m_gI hM, pb_bind, hnx, nI_1, m_pI hM, pb_bind, pu_112, pb_b2, if_neg o_nz, if_pos (show nI 112 = 112 from rfl), m_ck (σ := (hs_wF m 20 0 (nI (nx + 1)))) hM, pb_bind, m_pushes (m := (hs_wF m 20 0 (nI (nx + 1)))) hM (k := h) (by omega) e1, pb_b2, if_neg (show ¬ nI 112 = 115 by decide), ne_112, pb_b2, if_neg (show ¬ (0 : Int32) = 2 by decide), if_neg (show ¬ nI 112 = 106 by decide), if_neg (show ¬ nI 112 = 103 by decide)]
theorem do_115 (hM : mS m) {k : Nat} (hk : k < 8) (hp : p < 15) (hnx : hs_F m 20 0 = nI nx) (hF : hs_F m 19 0 = nI (h + 1)) (h8 : h < 8) : fX8_does fu m 0 (nI p) (nI 115) (nI k) a b = some ((), hs_wR (hs_wF (hs_wF m 20 0 (nI (nx + 1))) 19 0 (nI h)) 8 (8 * p + k) (hs_R m 14 h)) := by
  unfold fX8_does fX8_does_61 fX8_does_64 fX8_does_100 fX8_does_153 fX8_does_186
  have e1 : hs_F (hs_wF m 20 0 (nI (nx + 1))) 19 0 = nI (h + 1) := by rw [pb_F_wF, if_neg (by decide)]; exact hF
  have e2 : hs_F (hs_wF (hs_wF m 20 0 (nI (nx + 1))) 19 0 (nI h)) 19 0 = nI h := by rw [pb_F_wF, if_pos ⟨rfl, rfl⟩]
  rw [m_gI hM, pb_bind, hnx, nI_1, m_pI hM, pb_bind, pu_115, pb_b2, if_pos rfl, if_pos (show nI 115 = 115 from rfl), m_gI (σ := (hs_wF m 20 0 (nI (nx + 1)))) hM, pb_bind, e1, nI_pred, m_pI (σ := (hs_wF m 20 0 (nI (nx + 1)))) hM, pb_bind, m_g12 (σ := (hs_wF (hs_wF m 20 0 (nI (nx + 1))) 19 0 (nI h))) hM, pb_bind, m_g18 (σ := (hs_wF (hs_wF m 20 0 (nI (nx + 1))) 19 0 (nI h))) hM, pb_bind, m_gI (σ := (hs_wF (hs_wF m 20 0 (nI (nx + 1))) 19 0 (nI h))) hM, pb_bind, e2, m_ld14 (σ := (hs_wF (hs_wF m 20 0 (nI (nx + 1))) 19 0 (nI h))) hM (by omega), pb_bind, show (8 : Int32) = nI 8 from rfl, pk_mul, nI_add, m_st8 (σ := (hs_wF (hs_wF m 20 0 (nI (nx + 1))) 19 0 (nI h))) hM (by omega), pb_bind, ne_115, pb_b2, if_neg (show ¬ (1 : Int32) = 2 by decide), if_neg (show ¬ nI 115 = 106 by decide), if_neg (show ¬ nI 115 = 103 by decide)]
  rfl
theorem do_106z (hM : mS m) {k : Nat} (hnx : hs_F m 20 0 = nI nx) (hF : hs_F m 19 0 = nI (h + 1)) (h8 : h < 8) (hz : hs_R m 14 h = 0) : fX8_does fu m 0 (nI p) (nI 106) (nI k) a b = some ((), hs_wF (hs_wF (hs_wF m 20 0 (nI (nx + 1))) 19 0 (nI h)) 20 0 (nI k)) := by
  unfold fX8_does fX8_does_61 fX8_does_64 fX8_does_100 fX8_does_153 fX8_does_186
  have e1 : hs_F (hs_wF m 20 0 (nI (nx + 1))) 19 0 = nI (h + 1) := by rw [pb_F_wF, if_neg (by decide)]; exact hF
  have e2 : hs_F (hs_wF (hs_wF m 20 0 (nI (nx + 1))) 19 0 (nI h)) 19 0 = nI h := by rw [pb_F_wF, if_pos ⟨rfl, rfl⟩]
  have e4 : hs_R (hs_wF (hs_wF m 20 0 (nI (nx + 1))) 19 0 (nI h)) 14 h = 0 := hz
  rw [m_gI hM, pb_bind, hnx, nI_1, m_pI hM, pb_bind, pu_106, pb_b2, if_pos rfl, if_neg (show ¬ nI 106 = 115 by decide), ne_106, pb_b2, if_neg (show ¬ (1 : Int32) = 2 by decide), if_pos (show nI 106 = 106 from rfl), m_gI (σ := (hs_wF m 20 0 (nI (nx + 1)))) hM, pb_bind, e1, nI_pred, m_pI (σ := (hs_wF m 20 0 (nI (nx + 1)))) hM, pb_bind, m_g18 (σ := (hs_wF (hs_wF m 20 0 (nI (nx + 1))) 19 0 (nI h))) hM, pb_bind, m_gI (σ := (hs_wF (hs_wF m 20 0 (nI (nx + 1))) 19 0 (nI h))) hM, pb_bind, e2, m_ld14 (σ := (hs_wF (hs_wF m 20 0 (nI (nx + 1))) 19 0 (nI h))) hM (by omega), pb_bind, if_pos e4, m_pI (σ := (hs_wF (hs_wF m 20 0 (nI (nx + 1))) 19 0 (nI h))) hM, pb_bind, if_neg (show ¬ nI 106 = 103 by decide)]
theorem do_106n (hM : mS m) {k : Nat} (hnx : hs_F m 20 0 = nI nx) (hF : hs_F m 19 0 = nI (h + 1)) (h8 : h < 8) (hz : ¬ hs_R m 14 h = 0) : fX8_does fu m 0 (nI p) (nI 106) (nI k) a b = some ((), (hs_wF (hs_wF m 20 0 (nI (nx + 1))) 19 0 (nI h))) := by
  unfold fX8_does fX8_does_61 fX8_does_64 fX8_does_100 fX8_does_153 fX8_does_186
  have e1 : hs_F (hs_wF m 20 0 (nI (nx + 1))) 19 0 = nI (h + 1) := by rw [pb_F_wF, if_neg (by decide)]; exact hF
  have e2 : hs_F (hs_wF (hs_wF m 20 0 (nI (nx + 1))) 19 0 (nI h)) 19 0 = nI h := by rw [pb_F_wF, if_pos ⟨rfl, rfl⟩]
  have e4 : ¬ hs_R (hs_wF (hs_wF m 20 0 (nI (nx + 1))) 19 0 (nI h)) 14 h = 0 := hz
  rw [m_gI hM, pb_bind, hnx, nI_1, m_pI hM, pb_bind, pu_106, pb_b2, if_pos rfl, if_neg (show ¬ nI 106 = 115 by decide), ne_106, pb_b2, if_neg (show ¬ (1 : Int32) = 2 by decide), if_pos (show nI 106 = 106 from rfl), m_gI (σ := (hs_wF m 20 0 (nI (nx + 1)))) hM, pb_bind, e1, nI_pred, m_pI (σ := (hs_wF m 20 0 (nI (nx + 1)))) hM, pb_bind, m_g18 (σ := (hs_wF (hs_wF m 20 0 (nI (nx + 1))) 19 0 (nI h))) hM, pb_bind, m_gI (σ := (hs_wF (hs_wF m 20 0 (nI (nx + 1))) 19 0 (nI h))) hM, pb_bind, e2, m_ld14 (σ := (hs_wF (hs_wF m 20 0 (nI (nx + 1))) 19 0 (nI h))) hM (by omega), pb_bind, if_neg e4, if_neg (show ¬ nI 106 = 103 by decide)]
theorem do_103 (hM : mS m) {k : Nat} (hnx : hs_F m 20 0 = nI nx) : fX8_does fu m 0 (nI p) (nI 103) (nI k) a b = some ((), hs_wF (hs_wF m 20 0 (nI (nx + 1))) 20 0 (nI k)) := by
  unfold fX8_does fX8_does_61 fX8_does_64 fX8_does_100 fX8_does_153 fX8_does_186
  rw [m_gI hM, pb_bind, hnx, nI_1, m_pI hM, pb_bind, pu_103, pb_b2, if_pos rfl, if_neg (show ¬ nI 103 = 115 by decide), ne_103, pb_b2, if_neg (show ¬ (0 : Int32) = 2 by decide), if_neg (show ¬ nI 103 = 106 by decide), if_pos (show nI 103 = 103 from rfl), m_pI (σ := (hs_wF m 20 0 (nI (nx + 1)))) hM, pb_bind]
end Signs
