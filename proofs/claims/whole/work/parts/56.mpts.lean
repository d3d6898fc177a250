/-! Pure part 27: the reference's points -/
section MPts
variable {c T Rd nh fu : Nat} {st sv hn hb hp hr : Nat → Nat} {x x' m m' σ : hs_T} {A B C D A' B' C' D' : Nat → Int32}
/-- a loop whose n rounds keep P, whatever it goes on with -/
theorem lp_fam {ι α β : Type} {B : ι → (α → Option β) → α → Option β} {P : Nat → α → Prop} {n : Nat} (hs : ∀ i a, i < n → P i a → ∃ a', P (i + 1) a' ∧ ∀ c k, B c k a = k a') : ∀ d i a fuel, i + d = n → d < fuel → P i a → ∃ a', P n a' ∧ ∃ f, ∀ c, hs_lp (B c) fuel a = B c (hs_lp (B c) f) a' := by
  intro d
  induction d with
  | zero =>
    intro i a fuel hi hf h
    obtain ⟨f, rfl⟩ : ∃ f, fuel = f + 1 := ⟨fuel - 1, by omega⟩
    have e : i = n := by omega
    subst e
    exact ⟨a, h, f, fun _ => rfl⟩
  | succ d ih =>
    intro i a fuel hi hf h
    obtain ⟨f, rfl⟩ : ∃ f, fuel = f + 1 := ⟨fuel - 1, by omega⟩
    obtain ⟨a1, h1, h2⟩ := hs i a (by omega) h
    obtain ⟨a', h3, f2, h4⟩ := ih (i + 1) a1 f (by omega) (by omega) h1
    refine ⟨a', h3, f2, fun c => ?_⟩
    rw [pb_lp0, h2 c]
    exact h4 c
theorem lp_one {α β : Type} {B : (α → Option β) → α → Option β} (P : Nat → α → Prop) {n fuel : Nat} {a : α} (h0 : P 0 a) (hs : ∀ i a, i < n → P i a → ∃ a', P (i + 1) a' ∧ ∀ k, B k a = k a') (hf : n < fuel) : ∃ a', P n a' ∧ ∃ f, hs_lp B fuel a = B (hs_lp B f) a' := by
  obtain ⟨a', h1, f, h2⟩ := lp_fam (ι := Unit) (B := fun _ => B) (P := P) (n := n) (fun i a hi h => by
    obtain ⟨a', z1, z2⟩ := hs i a hi h
    exact ⟨a', z1, fun _ => z2⟩) n 0 a fuel (by omega) hf h0
  exact ⟨a', h1, f, h2 ()⟩
def fP (T : Nat) (m σ : hs_T) (A B C D : Nat → Int32) : Prop := σ.1 = m.1 ∧ σ.2.2.1 = m.2.2.1 ∧ hs_F σ = hs_F m ∧ (∀ a, a < 28 → hs_R σ a = hs_R m a) ∧ ∀ t, t < T → hs_R σ 28 t = A t ∧ hs_R σ 29 t = B t ∧ hs_R σ 30 t = C t ∧ hs_R σ 31 t = D t
theorem fP_mS (hM : mS m) (h : fP T m σ A B C D) : mS σ := mS_of h.1 h.2.1 hM
theorem fP_cg (h : fP T m σ A B C D) (e : ∀ t, t < T → A t = A' t ∧ B t = B' t ∧ C t = C' t ∧ D t = D' t) : fP T m σ A' B' C' D' := by
  obtain ⟨h1, h2, h3, h4, h5⟩ := h
  refine ⟨h1, h2, h3, h4, fun t ht => ?_⟩
  obtain ⟨a1, a2, a3, a4⟩ := h5 t ht
  obtain ⟨b1, b2, b3, b4⟩ := e t ht
  exact ⟨a1.trans b1, a2.trans b2, a3.trans b3, a4.trans b4⟩
theorem fP_28 {i : Nat} {v : Int32} (h : fP T m σ A B C D) : fP T m (hs_wR σ 28 i v) (fun t => if t = i then v else A t) B C D := by
  obtain ⟨h1, h2, h3, h4, h5⟩ := h
  refine ⟨h1, h2, h3, fun a ha => (wR_ne (by omega)).trans (h4 a ha), fun t ht => ?_⟩
  obtain ⟨a1, a2, a3, a4⟩ := h5 t ht
  refine ⟨?_, by rw [wR_ne (by decide)]; exact a2, by rw [wR_ne (by decide)]; exact a3, by rw [wR_ne (by decide)]; exact a4⟩
  dsimp only
  rw [pb_R_wR]
  by_cases q : t = i
  · rw [if_pos ⟨rfl, q⟩, if_pos q]
  · rw [if_neg (fun z => q z.2), if_neg q]; exact a1
theorem fP_29 {i : Nat} {v : Int32} (h : fP T m σ A B C D) : fP T m (hs_wR σ 29 i v) A (fun t => if t = i then v else B t) C D := by
  obtain ⟨h1, h2, h3, h4, h5⟩ := h
  refine ⟨h1, h2, h3, fun a ha => (wR_ne (by omega)).trans (h4 a ha), fun t ht => ?_⟩
  obtain ⟨a1, a2, a3, a4⟩ := h5 t ht
  refine ⟨by rw [wR_ne (by decide)]; exact a1, ?_, by rw [wR_ne (by decide)]; exact a3, by rw [wR_ne (by decide)]; exact a4⟩
  dsimp only
  rw [pb_R_wR]
  by_cases q : t = i
  · rw [if_pos ⟨rfl, q⟩, if_pos q]
  · rw [if_neg (fun z => q z.2), if_neg q]; exact a2
theorem fP_30 {i : Nat} {v : Int32} (h : fP T m σ A B C D) : fP T m (hs_wR σ 30 i v) A B (fun t => if t = i then v else C t) D := by
  obtain ⟨h1, h2, h3, h4, h5⟩ := h
  refine ⟨h1, h2, h3, fun a ha => (wR_ne (by omega)).trans (h4 a ha), fun t ht => ?_⟩
  obtain ⟨a1, a2, a3, a4⟩ := h5 t ht
  refine ⟨by rw [wR_ne (by decide)]; exact a1, by rw [wR_ne (by decide)]; exact a2, ?_, by rw [wR_ne (by decide)]; exact a4⟩
  dsimp only
  rw [pb_R_wR]
  by_cases q : t = i
  · rw [if_pos ⟨rfl, q⟩, if_pos q]
  · rw [if_neg (fun z => q z.2), if_neg q]; exact a3
theorem fP_31 {i : Nat} {v : Int32} (h : fP T m σ A B C D) : fP T m (hs_wR σ 31 i v) A B C (fun t => if t = i then v else D t) := by
  obtain ⟨h1, h2, h3, h4, h5⟩ := h
  refine ⟨h1, h2, h3, fun a ha => (wR_ne (by omega)).trans (h4 a ha), fun t ht => ?_⟩
  obtain ⟨a1, a2, a3, a4⟩ := h5 t ht
  refine ⟨by rw [wR_ne (by decide)]; exact a1, by rw [wR_ne (by decide)]; exact a2, by rw [wR_ne (by decide)]; exact a3, ?_⟩
  dsimp only
  rw [pb_R_wR]
  by_cases q : t = i
  · rw [if_pos ⟨rfl, q⟩, if_pos q]
  · rw [if_neg (fun z => q z.2), if_neg q]; exact a4
theorem m_isHanded (hM : mS σ) {r p b v e : Nat} (hr2 : r < 100) (hp2 : p < 15) (hb2 : b < 5) (hv : hs_R σ 27 (75 * r + 5 * p + b) = nI v) (hv2 : v < 2000) (he : e < 2000) : fX8_isHanded fu σ 0 (nI r) (nI p) (nI b) (nI e) = some (nI (tkN v e), σ) := by
  unfold fX8_isHanded tkN
  rw [m_ck hM, pb_bind, m_handed hM hr2 hp2 hb2 hv, pb_b2]
  by_cases q : v = 0
  · subst q
    rw [if_pos (show nI 0 - 1 < 0 by decide), if_pos (Or.inl rfl)]
    rfl
  · obtain ⟨w, rfl⟩ : ∃ w, v = w + 1 := ⟨v - 1, by omega⟩
    rw [nI_pred, if_neg (nI_pos (by omega))]
    by_cases q2 : e ≤ w
    · rw [if_pos (nI_le q2 (by omega)), if_pos (Or.inr (by omega))]
      rfl
    · rw [if_neg (nI_ge (by omega) (by omega)), if_neg (by omega)]
      rfl
/-- what the reference's flags may hold -/
def mV (T Rd : Nat) (m : hs_T) : Prop := (∀ r p b, r < Rd → p < 3 * T → b < T → hs_R m 27 (75 * r + 5 * p + b) = nI (hVn m r p b) ∧ hVn m r p b < 2000) ∧ ∀ r p, r < Rd → p < 3 * T → ∃ u, u < 2 ∧ hs_R m 21 (15 * r + p) = nI u
theorem m_stolen (hfu : 600 < fu) (hM : mS m) (n1 : hs_F m 0 0 = nI T) (h5 : T ≤ 5) (h100 : Rd ≤ 100) (hv : mV T Rd m) {r p e : Nat} (hr2 : r < Rd) (hp2 : p < 3 * T) (he : e < 2000) (h : fP T m σ A B C D) : ∃ σ', fX8_stolen fu σ 0 (nI r) (nI p) (nI e) = some ((), σ') ∧ fP T m σ' A (fun t => B t + (if tkN (hVn m r p t) e = 0 then 0 else shN (kNm m T e r p))) (fun t => C t + (if p / 3 = t then 4 * nI (kNm m T e r p) else 0)) (fun t => D t + nI (tkN (hVn m r p t) e)) := by
  have hMs := fP_mS hM h
  have hMi : ∀ {σ : hs_T} {A B C D : Nat → Int32}, fP T m σ A B C D → ∀ b, b < T → fX8_isHanded fu σ 0 (nI r) (nI p) (nI b) (nI e) = some (nI (tkN (hVn m r p b) e), σ) := by
    intro σ A B C D h b hb2
    refine m_isHanded (fP_mS hM h) (by omega) (by omega) (by omega) ?_ (hv.1 r p b hr2 hp2 hb2).2 he
    rw [h.2.2.2.1 27 (by decide)]
    exact (hv.1 r p b hr2 hp2 hb2).1
  have hK := kNm_le (m := m) (n := T) (lim := e) (r := r) (p := p)
  have e1 : fX8_stolen fu σ 0 (nI r) (nI p) (nI e) = fX8_stolen_46 fu σ 0 (nI r) (nI p) (nI e) (nI (kNm m T e r p)) 0 := by
    unfold fX8_stolen fX8_stolen_6
    refine pb_lpz (fun j => (σ, 0, nI r, nI p, nI e, nI (kNm m j e r p), nI j)) T rfl ?_ ?_ (by omega)
    · intro k j hj
      have eS : kNm m (j + 1) e r p = kNm m j e r p + tkN (hVn m r p j) e := rfl
      dsimp only
      unfold fX8_stolen_6b
      rw [m_gI hMs, pb_bind, h.2.2.1, n1, if_neg (nI_ge hj (by omega)), m_ck hMs, pb_bind, hMi h j hj, pb_b2, eS, nI_1]
      by_cases q : tkN (hVn m r p j) e = 0
      · rw [q, if_pos (show nI 0 = 0 from rfl), Nat.add_zero (kNm m j e r p), Int32.add_zero]
      · have q1 : tkN (hVn m r p j) e = 1 := by have := tkN_le (v := hVn m r p j) (lim := e); omega
        rw [q1, if_neg (show ¬ nI 1 = 0 by decide), nI_1]
    · intro k
      dsimp only
      unfold fX8_stolen_6b
      rw [m_gI hMs, pb_bind, h.2.2.1, n1, if_pos (nI_le (Nat.le_refl _) (by omega))]
  rw [e1]
  unfold fX8_stolen_46
  obtain ⟨a', ⟨σ', ha, hF⟩, f, hE⟩ := lp_one (B := (fun (k : hs_T × Nat × Int32 × Int32 × Int32 × Int32 × Int32 → Option (Unit × hs_T)) (a : hs_T × Nat × Int32 × Int32 × Int32 × Int32 × Int32) => fX8_stolen_46b fu  (fun σ x0 x1 x2 x3 x4 x5 => k (σ, x0, x1, x2, x3, x4, x5)) a.1 a.2.1 a.2.2.1 a.2.2.2.1 a.2.2.2.2.1 a.2.2.2.2.2.1 a.2.2.2.2.2.2)) (fun j a => ∃ σ', a = (σ', 0, nI r, nI p, nI e, nI (kNm m T e r p), nI j) ∧ fP T m σ' A (fun t => B t + (if t < j then (if tkN (hVn m r p t) e = 0 then 0 else shN (kNm m T e r p)) else 0)) C (fun t => D t + (if t < j then nI (tkN (hVn m r p t) e) else 0))) (n := T) (fuel := fu) (a := (σ, 0, nI r, nI p, nI e, nI (kNm m T e r p), 0)) ⟨σ, rfl, fP_cg h (fun t _ => ⟨rfl, by rw [if_neg (by omega), Int32.add_zero], rfl, by rw [if_neg (by omega), Int32.add_zero]⟩)⟩ (by
    rintro j a hj ⟨σ1, rfl, h1⟩
    have hM1 := fP_mS hM h1
    have hs := hMi h1 j hj
    by_cases q : tkN (hVn m r p j) e = 0
    · refine ⟨_, ⟨σ1, rfl, fP_cg h1 (fun t ht => ⟨rfl, ?_, rfl, ?_⟩)⟩, fun k => ?_⟩
      · by_cases q2 : t = j
        · subst q2
          rw [if_neg (by omega), if_pos (by omega), if_pos q]
        · by_cases q3 : t < j
          · rw [if_pos q3, if_pos (show t < j + 1 by omega)]
          · rw [if_neg q3, if_neg (show ¬ t < j + 1 by omega)]
      · by_cases q2 : t = j
        · subst q2
          rw [if_neg (by omega), if_pos (by omega), q]
          rfl
        · by_cases q3 : t < j
          · rw [if_pos q3, if_pos (show t < j + 1 by omega)]
          · rw [if_neg q3, if_neg (show ¬ t < j + 1 by omega)]
      · dsimp only
        unfold fX8_stolen_46b
        rw [m_gI hM1, pb_bind, h1.2.2.1, n1, if_neg (nI_ge hj (by omega)), m_ck hM1, pb_bind, hs, pb_b2, q, if_pos (show nI 0 = 0 from rfl), nI_1]
    · have q1 : tkN (hVn m r p j) e = 1 := by have := tkN_le (v := hVn m r p j) (lim := e); omega
      have hK0 : 0 < kNm m T e r p := smN_pos (f := fun b => tkN (hVn m r p b) e) hj (by omega)
      obtain ⟨w1, w2, w3, w4⟩ := h1.2.2.2.2 j hj
      have w2' : hs_R σ1 29 j = B j := by
        have z := w2
        dsimp only at z
        rw [if_neg (show ¬ j < j by omega), Int32.add_zero] at z
        exact z
      have w4' : hs_R σ1 31 j = D j := by
        have z := w4
        dsimp only at z
        rw [if_neg (show ¬ j < j by omega), Int32.add_zero] at z
        exact z
      have h2 := fP_31 (i := j) (v := hs_R σ1 31 j + 1) (fP_29 (i := j) (v := hs_R σ1 29 j + 60 / nI (kNm m T e r p)) h1)
      refine ⟨_, ⟨_, rfl, fP_cg h2 (fun t ht => ⟨rfl, ?_, rfl, ?_⟩)⟩, fun k => ?_⟩
      · by_cases q2 : t = j
        · subst q2
          rw [if_pos rfl, if_pos (show t < t + 1 by omega), if_neg q, w2']
          unfold shN
          rw [if_neg (show ¬ kNm m T e r p = 0 by omega)]
        · rw [if_neg q2]
          by_cases q3 : t < j
          · rw [if_pos q3, if_pos (show t < j + 1 by omega)]
          · rw [if_neg q3, if_neg (show ¬ t < j + 1 by omega)]
      · by_cases q2 : t = j
        · subst q2
          rw [if_pos rfl, if_pos (show t < t + 1 by omega), q1, w4']
          rfl
        · rw [if_neg q2]
          by_cases q3 : t < j
          · rw [if_pos q3, if_pos (show t < j + 1 by omega)]
          · rw [if_neg q3, if_neg (show ¬ t < j + 1 by omega)]
      · dsimp only
        unfold fX8_stolen_46b
        have s1 : mS (hs_wR σ1 29 j (hs_R σ1 29 j + 60 / nI (kNm m T e r p))) := hM1
        rw [m_gI hM1, pb_bind, h1.2.2.1, n1, if_neg (nI_ge hj (by omega)), m_ck hM1, pb_bind, hs, pb_b2, q1, if_neg (show ¬ nI 1 = 0 by decide), m_g40 hM1, pb_bind, m_ld29 hM1 (by omega), pb_bind, pb_nz (nI_ne0 hK0 (by omega)), pb_bind, m_st29 hM1 (by omega), pb_bind, m_g42 s1, pb_bind, m_ld31 s1 (by omega), pb_bind, m_st31 s1 (by omega), pb_bind, wR_ne (by decide), nI_1]) (by omega)
  subst ha
  have hM2 := fP_mS hM hF
  obtain ⟨w1, w2, w3, w4⟩ := hF.2.2.2.2 (p / 3) (by omega)
  rw [hE]
  dsimp only
  unfold fX8_stolen_46b
  rw [m_gI hM2, pb_bind, hF.2.2.1, n1, if_pos (nI_le (Nat.le_refl _) (by omega)), m_g41 hM2, pb_bind, il 3, pb_div (by omega) (by decide) (by decide), m_ld30 hM2 (by omega), pb_bind, m_st30 hM2 (by omega), pb_bind, w3]
  refine ⟨_, rfl, fP_cg (fP_30 hF) (fun t ht => ⟨rfl, by rw [if_pos ht], ?_, by rw [if_pos ht]⟩)⟩
  by_cases q : t = p / 3
  · rw [if_pos q, if_pos q.symm, q]
  · rw [if_neg q, if_neg (fun z => q z.symm), Int32.add_zero]
/-- one place of one round -/
theorem m_fp_in (hfu : 600 < fu) (hM : mS m) (n1 : hs_F m 0 0 = nI T) (h5 : T ≤ 5) (h100 : Rd ≤ 100) (hv : mV T Rd m) {r e : Nat} (hr2 : r < Rd) (he : e < 2000) (h : fP T m σ (UPv m T r e) (STv m T r e) (OFv m T r e) (HNv m T r e)) : ∃ σ', fP T m σ' (UPv m T (r + 1) e) (STv m T (r + 1) e) (OFv m T (r + 1) e) (HNv m T (r + 1) e) ∧ ∀ k43, fX8_findPoints_53 fu k43 σ 0 (nI e) (nI r) 0 = k43 σ' 0 (nI e) (nI (r + 1)) := by
  obtain ⟨a', ⟨σ', ha, hF⟩, f, hE⟩ := lp_fam (ι := hs_T → Nat → Int32 → Int32 → Option (Unit × hs_T)) (B := fun k43 => (fun (k : hs_T × Nat × Int32 × Int32 × Int32 → Option (Unit × hs_T)) (a : hs_T × Nat × Int32 × Int32 × Int32) => fX8_findPoints_53b fu k43 (fun σ x0 x1 x2 x3 => k (σ, x0, x1, x2, x3)) a.1 a.2.1 a.2.2.1 a.2.2.2.1 a.2.2.2.2)) (P := fun p a => ∃ σ', a = (σ', 0, nI e, nI r, nI p) ∧ fP T m σ' (fun t => UPv m T r e t + sm (fun p => if p / 3 = t then (if r < e then 10 * hs_R m 21 (15 * r + p) else 0) else 0) p) (fun t => STv m T r e t + sm (fun p => if tkN (hVn m r p t) e = 0 then 0 else shN (kNm m T e r p)) p) (fun t => OFv m T r e t + sm (fun p => if p / 3 = t then 4 * nI (kNm m T e r p) else 0) p) (fun t => HNv m T r e t + sm (fun p => nI (tkN (hVn m r p t) e)) p)) (n := 3 * T) (by
    rintro p a hp2 ⟨σ1, rfl, h1⟩
    have hM1 := fP_mS hM h1
    obtain ⟨u, hu2, hu⟩ := hv.2 r p hr2 hp2
    have r21 : hs_R σ1 21 (15 * r + p) = nI u := by rw [h1.2.2.2.1 21 (by decide)]; exact hu
    have fin : ∀ σ2 (A2 : Nat → Int32), fP T m σ2 A2 (fun t => STv m T r e t + sm (fun p => if tkN (hVn m r p t) e = 0 then 0 else shN (kNm m T e r p)) p) (fun t => OFv m T r e t + sm (fun p => if p / 3 = t then 4 * nI (kNm m T e r p) else 0) p) (fun t => HNv m T r e t + sm (fun p => nI (tkN (hVn m r p t) e)) p) → (∀ t, t < T → A2 t = UPv m T r e t + sm (fun p => if p / 3 = t then (if r < e then 10 * hs_R m 21 (15 * r + p) else 0) else 0) (p + 1)) → ∃ σ3, fP T m σ3 (fun t => UPv m T r e t + sm (fun p => if p / 3 = t then (if r < e then 10 * hs_R m 21 (15 * r + p) else 0) else 0) (p + 1)) (fun t => STv m T r e t + sm (fun p => if tkN (hVn m r p t) e = 0 then 0 else shN (kNm m T e r p)) (p + 1)) (fun t => OFv m T r e t + sm (fun p => if p / 3 = t then 4 * nI (kNm m T e r p) else 0) (p + 1)) (fun t => HNv m T r e t + sm (fun p => nI (tkN (hVn m r p t) e)) (p + 1)) ∧ ∀ k43 k53, fX8_findPoints_95 fu k43 k53 σ2 0 (nI e) (nI r) (nI p) = k53 σ3 0 (nI e) (nI r) (nI (p + 1)) := by
      intro σ2 A2 h2 hA2
      obtain ⟨σ3, z1, z2⟩ := m_stolen (fu := fu) hfu hM n1 h5 h100 hv hr2 hp2 he h2
      refine ⟨σ3, fP_cg z2 (fun t ht => ⟨hA2 t ht, Int32.add_assoc _ _ _, Int32.add_assoc _ _ _, Int32.add_assoc _ _ _⟩), fun k43 k53 => ?_⟩
      unfold fX8_findPoints_95
      rw [m_ck (fP_mS hM h2), pb_bind, z1, pb_b2, nI_1]
    by_cases q : e ≤ r
    · obtain ⟨σ3, z1, z2⟩ := fin σ1 _ h1 (fun t ht => by
        show _ = _ + (sm _ p + (if p / 3 = t then (if r < e then 10 * hs_R m 21 (15 * r + p) else 0) else 0))
        rw [if_neg (show ¬ r < e by omega)]
        by_cases q2 : p / 3 = t
        · rw [if_pos q2, Int32.add_zero]
        · rw [if_neg q2, Int32.add_zero])
      refine ⟨_, ⟨σ3, rfl, z1⟩, fun k43 k => ?_⟩
      dsimp only
      unfold fX8_findPoints_53b
      rw [m_gI hM1, pb_bind, h1.2.2.1, n1, il 3, pk_mul, if_neg (nI_ge hp2 (by omega)), if_pos (nI_le q (by omega)), z2]
    · by_cases q0 : u = 0
      · obtain ⟨σ3, z1, z2⟩ := fin σ1 _ h1 (fun t ht => by
          show _ = _ + (sm _ p + (if p / 3 = t then (if r < e then 10 * hs_R m 21 (15 * r + p) else 0) else 0))
          rw [if_pos (show r < e by omega), hu, q0]
          by_cases q2 : p / 3 = t
          · rw [if_pos q2, show (10 : Int32) * nI 0 = 0 by decide, Int32.add_zero]
          · rw [if_neg q2, Int32.add_zero])
        refine ⟨_, ⟨σ3, rfl, z1⟩, fun k43 k => ?_⟩
        dsimp only
        unfold fX8_findPoints_53b
        rw [m_gI hM1, pb_bind, h1.2.2.1, n1, il 3, pk_mul, if_neg (nI_ge hp2 (by omega)), if_neg (nI_ge (by omega) (by omega)), m_g31 hM1, pb_bind, il 15, pk_mul, nI_add, m_ld21 hM1 (by omega), pb_bind, r21, q0, if_pos (show nI 0 = 0 from rfl), z2]
      · have q1 : u = 1 := by omega
        obtain ⟨w1, w2, w3, w4⟩ := h1.2.2.2.2 (p / 3) (by omega)
        obtain ⟨σ3, z1, z2⟩ := fin _ _ (fP_28 (i := p / 3) (v := hs_R σ1 28 (p / 3) + 10) h1) (fun t ht => by
          show (if t = p / 3 then hs_R σ1 28 (p / 3) + 10 else _) = _ + (sm _ p + (if p / 3 = t then (if r < e then 10 * hs_R m 21 (15 * r + p) else 0) else 0))
          rw [if_pos (show r < e by omega), hu, q1]
          by_cases q2 : t = p / 3
          · rw [if_pos q2, if_pos q2.symm, w1, show (10 : Int32) * nI 1 = 10 by decide, Int32.add_assoc, q2]
          · rw [if_neg q2, if_neg (fun z => q2 z.symm), Int32.add_zero])
        refine ⟨_, ⟨σ3, rfl, z1⟩, fun k43 k => ?_⟩
        dsimp only
        unfold fX8_findPoints_53b
        rw [m_gI hM1, pb_bind, h1.2.2.1, n1, il 3, pk_mul, if_neg (nI_ge hp2 (by omega)), if_neg (nI_ge (by omega) (by omega)), m_g31 hM1, pb_bind, il 15, pk_mul, nI_add, m_ld21 hM1 (by omega), pb_bind, r21, q1, if_neg (show ¬ nI 1 = 0 by decide), m_g39 hM1, pb_bind, pb_div (by omega) (by decide) (by decide), m_ld28 hM1 (by omega), pb_bind, m_st28 hM1 (by omega), pb_bind, z2]) (3 * T) 0 (σ, 0, nI e, nI r, 0) fu (by omega) (by omega) ⟨σ, rfl, fP_cg h (fun t _ => ⟨(Int32.add_zero _).symm, (Int32.add_zero _).symm, (Int32.add_zero _).symm, (Int32.add_zero _).symm⟩)⟩
  subst ha
  refine ⟨σ', hF, fun k43 => ?_⟩
  unfold fX8_findPoints_53
  refine (hE k43).trans ?_
  have hM2 := fP_mS hM hF
  dsimp only
  unfold fX8_findPoints_53b
  rw [m_gI hM2, pb_bind, hF.2.2.1, n1, il 3, pk_mul, if_pos (nI_le (Nat.le_refl _) (by omega)), nI_1]
theorem m_findPoints (hfu : 600 < fu) (hM : mS m) (n1 : hs_F m 0 0 = nI T) (n2 : hs_F m 1 0 = nI Rd) (h5 : T ≤ 5) (h100 : Rd ≤ 100) (hv : mV T Rd m) {e : Nat} (he : e < 2000) : ∃ m', fX8_findPoints fu m 0 (nI e) = some ((), m') ∧ fP T m m' (UPv m T Rd e) (STv m T Rd e) (OFv m T Rd e) (HNv m T Rd e) := by
  unfold fX8_findPoints fX8_findPoints_2
  obtain ⟨a', ⟨σ', ha, hF⟩, f, hE⟩ := lp_one (B := (fun (k : hs_T × Nat × Int32 × Int32 → Option (Unit × hs_T)) (a : hs_T × Nat × Int32 × Int32) => fX8_findPoints_2b fu  (fun σ x0 x1 x2 => k (σ, x0, x1, x2)) a.1 a.2.1 a.2.2.1 a.2.2.2)) (fun j a => ∃ σ', a = (σ', 0, nI e, nI j) ∧ fP j m σ' (fun _ => 0) (fun _ => 0) (fun _ => 0) (fun _ => 0)) (n := 5) (fuel := fu) (a := (m, 0, nI e, 0)) ⟨m, rfl, rfl, rfl, rfl, fun _ _ => rfl, fun t ht => absurd ht (by omega)⟩ (by
    rintro j a hj ⟨σ1, rfl, h1⟩
    have hM1 := fP_mS hM h1
    refine ⟨_, ⟨hs_wR (hs_wR (hs_wR (hs_wR σ1 28 j 0) 29 j 0) 30 j 0) 31 j 0, rfl, ?_⟩, fun k => ?_⟩
    · obtain ⟨a1, a2, a3, a4, a5⟩ := h1
      refine ⟨a1, a2, a3, fun a ha => (wR_ne (by omega)).trans ((wR_ne (by omega)).trans ((wR_ne (by omega)).trans ((wR_ne (by omega)).trans (a4 a ha)))), fun t ht => ?_⟩
      by_cases q : t = j
      · subst q
        exact ⟨by rw [wR_ne (by decide), wR_ne (by decide), wR_ne (by decide), pb_R_wR, if_pos ⟨rfl, rfl⟩], by rw [wR_ne (by decide), wR_ne (by decide), pb_R_wR, if_pos ⟨rfl, rfl⟩], by rw [wR_ne (by decide), pb_R_wR, if_pos ⟨rfl, rfl⟩], by rw [pb_R_wR, if_pos ⟨rfl, rfl⟩]⟩
      · obtain ⟨b1, b2, b3, b4⟩ := a5 t (by omega)
        refine ⟨?_, ?_, ?_, ?_⟩
        · rw [wR_ne (by decide), wR_ne (by decide), wR_ne (by decide), pb_R_wR, if_neg (fun z => q z.2)]; exact b1
        · rw [wR_ne (by decide), wR_ne (by decide), pb_R_wR, if_neg (fun z => q z.2), wR_ne (by decide)]; exact b2
        · rw [wR_ne (by decide), pb_R_wR, if_neg (fun z => q z.2), wR_ne (by decide), wR_ne (by decide)]; exact b3
        · rw [pb_R_wR, if_neg (fun z => q z.2), wR_ne (by decide), wR_ne (by decide), wR_ne (by decide)]; exact b4
    · dsimp only
      unfold fX8_findPoints_2b
      rw [if_neg (show ¬ 5 ≤ nI j from nI_ge (b := 5) hj (by decide)), m_g39 hM1, pb_bind, m_st28 hM1 hj, pb_bind, m_g40 (σ := hs_wR σ1 28 j 0) hM1, pb_bind, m_st29 (σ := hs_wR σ1 28 j 0) hM1 hj, pb_bind, m_g41 (σ := hs_wR (hs_wR σ1 28 j 0) 29 j 0) hM1, pb_bind, m_st30 (σ := hs_wR (hs_wR σ1 28 j 0) 29 j 0) hM1 hj, pb_bind, m_g42 (σ := hs_wR (hs_wR (hs_wR σ1 28 j 0) 29 j 0) 30 j 0) hM1, pb_bind, m_st31 (σ := hs_wR (hs_wR (hs_wR σ1 28 j 0) 29 j 0) 30 j 0) hM1 hj, pb_bind, nI_1]) (by omega)
  subst ha
  rw [hE]
  dsimp only
  unfold fX8_findPoints_2b
  rw [if_pos (show (5 : Int32) ≤ nI 5 by decide)]
  have hF0 : fP T m σ' (UPv m T 0 e) (STv m T 0 e) (OFv m T 0 e) (HNv m T 0 e) := ⟨hF.1, hF.2.1, hF.2.2.1, hF.2.2.2.1, fun t ht => hF.2.2.2.2 t (by omega)⟩
  unfold fX8_findPoints_43
  obtain ⟨a', ⟨σ2, ha, hF2⟩, f2, hE2⟩ := lp_one (B := (fun (k : hs_T × Nat × Int32 × Int32 → Option (Unit × hs_T)) (a : hs_T × Nat × Int32 × Int32) => fX8_findPoints_43b fu  (fun σ x0 x1 x2 => k (σ, x0, x1, x2)) a.1 a.2.1 a.2.2.1 a.2.2.2)) (fun r a => ∃ σ', a = (σ', 0, nI e, nI r) ∧ fP T m σ' (UPv m T r e) (STv m T r e) (OFv m T r e) (HNv m T r e)) (n := Rd) (fuel := fu) (a := (σ', 0, nI e, 0)) ⟨σ', rfl, hF0⟩ (by
    rintro r a hr2 ⟨σ1, rfl, h1⟩
    obtain ⟨σ3, z1, z2⟩ := m_fp_in (fu := fu) hfu hM n1 h5 h100 hv hr2 he h1
    refine ⟨_, ⟨σ3, rfl, z1⟩, fun k => ?_⟩
    dsimp only
    unfold fX8_findPoints_43b
    rw [m_gI (fP_mS hM h1), pb_bind, h1.2.2.1, n2, if_neg (nI_ge hr2 (by omega)), z2]) (by omega)
  subst ha
  rw [hE2]
  dsimp only
  unfold fX8_findPoints_43b
  rw [m_gI (fP_mS hM hF2), pb_bind, hF2.2.2.1, n2, if_pos (nI_le (Nat.le_refl _) (by omega))]
  exact ⟨σ2, rfl, hF2⟩
theorem m_sum (hM : mS m) (h5 : T ≤ 5) (h : fP T m σ A B C D) {t : Nat} (ht : t < T) : fX8_sum fu σ 0 (nI t) = some (A t + B t - C t, σ) := by
  have hM1 := fP_mS hM h
  obtain ⟨w1, w2, w3, w4⟩ := h.2.2.2.2 t ht
  unfold fX8_sum
  rw [m_g39 hM1, pb_bind, m_ld28 hM1 (by omega), pb_bind, m_g40 hM1, pb_bind, m_ld29 hM1 (by omega), pb_bind, m_g41 hM1, pb_bind, m_ld30 hM1 (by omega), pb_bind, w1, w2, w3]
end MPts
