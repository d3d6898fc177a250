/-! Pure part 12: cells that are made, and a list that grows -/
section Grow
variable {c T Rd nh fu l : Nat} {st sv hn hb hp hr : Nat → Nat} {x x' x0 m m' : hs_T}
theorem up_e {α : Type} {f : Nat → α} {k : Nat} {v : α} : va_up f k v k = v := by simp [va_up]
theorem up_n {α : Type} {f : Nat → α} {k j : Nat} {v : α} (h : j ≠ k) : va_up f k v j = f j := by simp [va_up, h]
theorem pb_nO {kd : Nat} (h : hs_N x < 1000000000) : hs_nO x kd = some (hs_mkO x kd) := if_pos h
theorem pb_nA {kd n mx : Nat} (h : hs_N x < 1000000000) (hn : n ≤ mx) (hm : mx < 100000) : hs_nA x kd (nI n) mx = some (hs_mkA x kd n) := by
  unfold hs_nA
  rw [nI_clamp (by omega), if_pos ⟨h, nI_pos (by omega), hn⟩]
theorem pb_le {a b : Nat} (h : a ≤ b) : hs_le a b = some () := if_pos h
theorem pb_lv1 {a : Nat} (h : a < hs_N x) : hs_lv x [a] = some () := if_pos (by simp [h])
theorem pb_lv2 {a b : Nat} (h : a < hs_N x) (h2 : b < hs_N x) : hs_lv x [a, b] = some () := if_pos (by simp [h, h2])
theorem pb_lv3 {a b d : Nat} (h : a < hs_N x) (h2 : b < hs_N x) (h3 : d < hs_N x) : hs_lv x [a, b, d] = some () := if_pos (by simp [h, h2, h3])
theorem pb_pS {kd n k q : Nat} (h : hs_K x n = kd) (h2 : n < hs_N x) (hq : q < hs_N x) : hs_pR x kd n k (some q) = some (hs_wG x k n (some q)) := if_pos ⟨⟨h, h2⟩, decide_eq_true (Or.inl hq)⟩
theorem pb_sta {n i q : Nat} (h : hs_K x n = 13) (h2 : n < hs_N x) (hi : i < hs_L x n) (hL : hs_L x n < 100000) (ho : hs_ob x q = true) : hs_sta x n (nI i) q = some (hs_wO x n i (some q)) := by
  unfold hs_sta
  rw [if_pos ⟨⟨h, h2⟩, nI_in hi (by omega), ho⟩, nI_clamp (by omega)]
/-- the heap grew; of what was there only the list l changed -/
def ex (l : Nat) (x x' : hs_T) : Prop := hs_N x ≤ hs_N x' ∧ (∀ n, n < hs_N x → hs_K x' n = hs_K x n ∧ hs_L x' n = hs_L x n ∧ hs_R x' n = hs_R x n) ∧ (∀ n, n < hs_N x → n ≠ l → ∀ k, hs_F x' k n = hs_F x k n ∧ hs_G x' k n = hs_G x k n) ∧ (∀ n, n < hs_N x → hs_G x 1 l ≠ some n → hs_O x' n = hs_O x n) ∧ (hs_G x' 1 l = hs_G x 1 l ∨ ∃ e, hs_N x ≤ e ∧ hs_G x' 1 l = some e)
theorem ex_rf : ex l x x := ⟨Nat.le_refl _, fun _ _ => ⟨rfl, rfl, rfl⟩, fun _ _ _ _ => ⟨rfl, rfl⟩, fun _ _ _ => rfl, Or.inl rfl⟩
theorem ex_tr (h : ex l x0 x) (h2 : ex l x x') : ex l x0 x' := by
  obtain ⟨a1, a2, a3, a4, a5⟩ := h
  obtain ⟨b1, b2, b3, b4, b5⟩ := h2
  refine ⟨Nat.le_trans a1 b1, fun n hn => ?_, fun n hn hl k => ?_, fun n hn hg => ?_, ?_⟩
  · obtain ⟨c1, c2, c3⟩ := a2 n hn
    obtain ⟨d1, d2, d3⟩ := b2 n (by omega)
    exact ⟨d1.trans c1, d2.trans c2, d3.trans c3⟩
  · exact ⟨(b3 n (by omega) hl k).1.trans (a3 n hn hl k).1, (b3 n (by omega) hl k).2.trans (a3 n hn hl k).2⟩
  · refine (b4 n (by omega) (fun z => ?_)).trans (a4 n hn hg)
    rcases a5 with q | ⟨e, q1, q2⟩
    · exact hg (q.symm.trans z)
    · rw [q2] at z
      have := Option.some.inj z
      omega
  · rcases b5 with q | ⟨e, q1, q2⟩
    · rw [q]; exact a5
    · exact Or.inr ⟨e, by omega, q2⟩
theorem ex_mkO {kd : Nat} (hl : l < hs_N x0) (h : ex l x0 x) : ex l x0 (hs_mkO x kd) := by
  refine ex_tr h ⟨Nat.le_succ _, fun n hn => ⟨up_n (by omega), rfl, rfl⟩, fun n hn _ k => ⟨if_neg (by omega), if_neg (by omega)⟩, fun _ _ _ => rfl, Or.inl (if_neg (by have := h.1; omega))⟩
theorem ex_mkA {kd n : Nat} (h : ex l x0 x) : ex l x0 (hs_mkA x kd n) := by
  refine ex_tr h ⟨Nat.le_succ _, fun n hn => ⟨up_n (by omega), up_n (by omega), ?_⟩, fun n hn _ k => ⟨rfl, rfl⟩, fun n hn _ => ?_, Or.inl rfl⟩
  · funext i
    exact if_neg (by omega)
  · funext i
    exact if_neg (by omega)
theorem ex_F {k n : Nat} {v : Int32} (hn : hs_N x0 ≤ n ∨ n = l) (h : ex l x0 x) : ex l x0 (hs_wF x k n v) := by
  obtain ⟨a1, a2, a3, a4, a5⟩ := h
  exact ⟨a1, a2, fun n' hn' hl k' => ⟨(if_neg (by omega)).trans (a3 n' hn' hl k').1, (a3 n' hn' hl k').2⟩, a4, a5⟩
theorem ex_G {k n : Nat} {v : Option Nat} (hn : hs_N x0 ≤ n) (hl : l < hs_N x0) (h : ex l x0 x) : ex l x0 (hs_wG x k n v) := by
  obtain ⟨a1, a2, a3, a4, a5⟩ := h
  refine ⟨a1, a2, fun n' hn' hl k' => ⟨(a3 n' hn' hl k').1, (if_neg (by omega)).trans (a3 n' hn' hl k').2⟩, a4, ?_⟩
  rw [show hs_G (hs_wG x k n v) 1 l = hs_G x 1 l from if_neg (by omega)]
  exact a5
theorem ex_Gl {e : Nat} (hn : hs_N x0 ≤ e) (h : ex l x0 x) : ex l x0 (hs_wG x 1 l (some e)) := by
  obtain ⟨a1, a2, a3, a4, a5⟩ := h
  exact ⟨a1, a2, fun n' hn' hl k' => ⟨(a3 n' hn' hl k').1, (if_neg (fun z => hl z.2)).trans (a3 n' hn' hl k').2⟩, a4, Or.inr ⟨e, hn, if_pos ⟨rfl, rfl⟩⟩⟩
theorem ex_O {n i : Nat} {v : Option Nat} (hn : hs_N x0 ≤ n ∨ hs_G x0 1 l = some n) (h : ex l x0 x) : ex l x0 (hs_wO x n i v) := by
  obtain ⟨a1, a2, a3, a4, a5⟩ := h
  refine ⟨a1, a2, a3, fun n' hn' hg => (hs_up_row_ne (fun z => ?_)).trans (a4 n' hn' hg), a5⟩
  subst z
  exact hn.elim (fun q => by omega) hg
theorem ex_ORow {n : Nat} {f : Nat → Option Nat} (hn : hs_N x0 ≤ n) (h : ex l x0 x) : ex l x0 (hs_wORow x n f) := by
  obtain ⟨a1, a2, a3, a4, a5⟩ := h
  exact ⟨a1, a2, a3, fun n' hn' hg => (if_neg (by omega)).trans (a4 n' hn' hg), a5⟩
theorem ex_Row {n : Nat} {f : Nat → Int32} (hn : hs_N x0 ≤ n) (h : ex l x0 x) : ex l x0 (hs_wRow x n f) := by
  obtain ⟨a1, a2, a3, a4, a5⟩ := h
  exact ⟨a1, fun n' hn' => ⟨(a2 n' hn').1, (a2 n' hn').2.1, (if_neg (by omega)).trans (a2 n' hn').2.2⟩, a3, a4, a5⟩
theorem cap_next {L : Nat} (h : capOK L) (h2 : L < 512) : capOK (L + L / 2) ∧ L + L / 2 ≤ 549 := by
  unfold capOK at h ⊢
  rcases h with rfl | rfl | rfl | rfl | rfl | rfl | rfl | rfl | rfl | rfl | rfl <;> simp at h2 ⊢
/-- one more on a list -/
theorem l_add {q : Nat} {el : Nat → Nat} (hl : hs_K x l = 1) (hlN : l < 17) (hN17 : 17 ≤ hs_N x) (hN : hs_N x < 100000) (h : lS x l c el) (hc : c < 512) (hob : ∀ i, i < c → hs_ob x (el i) = true) (hq : hs_ob x q = true) (hel : el c = q) : ∃ x', fJx4a65c_add_9ea2d fu x l q = some (1, x') ∧ ex l x x' ∧ hs_N x' ≤ hs_N x + 1 ∧ lS x' l (c + 1) el := by
  have hlx : l < hs_N x := by omega
  have hqx : q < hs_N x := by have := of_decide_eq_true hq; exact this.2
  obtain ⟨f2, hh⟩ := h
  unfold fJx4a65c_add_9ea2d
  rw [pb_gI hl hlx, pb_bind, pb_pI hl hlx, pb_bind]
  generalize hy : hs_wF x 0 l (hs_F x 0 l + 1) = y
  have y1 : y.1 = x.1 := by subst hy; rfl
  have y2 : hs_G y = hs_G x := by subst hy; rfl
  have y3 : hs_R y = hs_R x := by subst hy; rfl
  have y4 : hs_O y = hs_O x := by subst hy; rfl
  have y5 : hs_F y 2 l = nI c := by subst hy; rw [pb_F_wF, if_neg (by omega)]; exact f2
  have yx : ex l x y := by subst hy; exact ex_F (Or.inr rfl) ex_rf
  have yN : hs_N y = hs_N x := hs_N_of y1
  have yK : hs_K y = hs_K x := hs_K_of y1
  have yL : hs_L y = hs_L x := hs_L_of y1
  have kl : hs_K y l = 1 := by rw [yK]; exact hl
  have nl : l < hs_N y := by omega
  have yob : ∀ k, hs_ob y k = hs_ob x k := fun k => by unfold hs_ob; rw [yK, yN]
  rcases hh with ⟨rfl, g⟩ | ⟨ed, g, k1, k2, k3, k4, k5, k6⟩
  · -- the first
    rw [pb_gN kl nl (show hs_G y 1 l = some hs_em by rw [y2]; exact g), pb_bind, pb_gI kl nl, pb_bind, y5, pb_ck kl nl, pb_bind]
    unfold fJx4a65c_add_72be8
    rw [show hs_lnq y hs_em = some 0 from if_pos rfl, pb_bind, if_pos (show nI 0 = 0 from rfl), pb_ck kl nl, pb_bind, pb_lv2 nl (by omega), pb_bind]
    unfold fJx4a65c_grow_d5877
    rw [pb_gI kl nl, pb_bind, y5, pb_ck kl nl, pb_bind]
    unfold fJx4a65c_grow_92f84
    rw [pb_gN kl nl (show hs_G y 1 l = some hs_em by rw [y2]; exact g), pb_bind, show hs_lnq y hs_em = some 0 from if_pos rfl, pb_bind, if_neg (show ¬ (0 : Int32) < 0 by decide), pb_bind, show hs_eqn hs_em hs_em = some () from if_pos rfl, pb_bind, pb_lv1 nl, pb_bind, show (if 10 < nI 0 + 1 then nI 0 + 1 else (10 : Int32)) = nI 10 by decide, pb_nA (by omega) (by decide) (by decide), pb_bind]
    have ka : hs_K (hs_mkA y 13 10) l = 1 := (up_n (by omega)).trans kl
    have na : hs_N (hs_mkA y 13 10) = hs_N y + 1 := rfl
    rw [pb_pS ka (by omega) (by omega), pb_bind, pb_b2, pb_le (show hs_N y ≤ hs_N (hs_wG (hs_mkA y 13 10) 1 l (some (hs_N y))) by show _ ≤ hs_N y + 1; omega), pb_bind, pb_ms, pb_b2, pb_le (show hs_N y ≤ hs_N (hs_wG (hs_mkA y 13 10) 1 l (some (hs_N y))) by show _ ≤ hs_N y + 1; omega), pb_bind, pb_ms]
    generalize hz : hs_wG (hs_mkA y 13 10) 1 l (some (hs_N y)) = z
    have zN : hs_N z = hs_N y + 1 := by subst hz; rfl
    have zK : hs_K z (hs_N y) = 13 := by subst hz; exact up_e
    have zL : hs_L z (hs_N y) = 10 := by subst hz; exact up_e
    have zKo : ∀ k, k < hs_N y → hs_K z k = hs_K y k := fun k hk => by subst hz; exact up_n (by omega)
    have zx : ex l x z := by subst hz; exact ex_Gl (by omega) (ex_mkA yx)
    have zG : hs_G z 1 l = some (hs_N y) := by subst hz; exact if_pos ⟨rfl, rfl⟩
    have zob : hs_ob z q = true := by
      have := of_decide_eq_true hq
      exact decide_eq_true (by rw [zKo q (by omega), yK]; exact ⟨this.1, by omega⟩)
    have zl : hs_K z l = 1 := (zKo l nl).trans kl
    rw [pb_sta zK (by omega) (by omega) (by omega) zob, pb_bind, nI_1, pb_pI (σ := hs_wO z (hs_N y) 0 (some q)) zl (show l < hs_N z by omega), pb_bind, pb_b2, pb_le (show hs_N y ≤ hs_N (hs_wF (hs_wO z (hs_N y) 0 (some q)) 2 l (nI (0 + 1))) by show _ ≤ hs_N z; omega), pb_bind]
    refine ⟨_, rfl, ex_F (Or.inr rfl) (ex_O (Or.inl (by omega)) zx), by show hs_N z ≤ _; omega, by rw [pb_F_wF, if_pos ⟨rfl, rfl⟩], Or.inr ⟨hs_N y, zG, zK, by omega, by show _ < hs_N z; omega, by show _ ≤ hs_L z _; omega, by show capOK (hs_L z _); rw [zL]; exact Or.inl rfl, fun i hi => ?_⟩⟩
    obtain rfl : i = 0 := by omega
    rw [hel]
    exact if_pos ⟨rfl, rfl⟩
  · have k7 : hs_L x ed < 1000 := by unfold capOK at k5; omega
    have hem : ed ≠ hs_em := by unfold hs_em; omega
    have gy : hs_G y 1 l = some ed := by rw [y2]; exact g
    have ky : hs_K y ed = 13 := by rw [yK]; exact k1
    have ny : ed < hs_N y := by omega
    have ly : hs_L y ed = hs_L x ed := by rw [yL]
    have ln : hs_lnq y ed = some (nI (hs_L x ed)) := by
      unfold hs_lnq
      rw [if_neg hem, if_pos ⟨ky, ny⟩, ly]
    rw [pb_gN kl nl gy, pb_bind, pb_gI kl nl, pb_bind, y5, pb_ck kl nl, pb_bind]
    unfold fJx4a65c_add_72be8
    rw [ln, pb_bind]
    by_cases hcap : c = hs_L x ed
    · -- it grows
      obtain ⟨cn1, cn2⟩ := cap_next k5 (by omega)
      have cn0 : 10 ≤ hs_L x ed := by unfold capOK at k5; omega
      rw [if_pos (show nI c = nI (hs_L x ed) by rw [hcap]), pb_ck kl nl, pb_bind, pb_lv2 nl (by omega), pb_bind]
      unfold fJx4a65c_grow_d5877
      rw [pb_gI kl nl, pb_bind, y5, pb_ck kl nl, pb_bind]
      unfold fJx4a65c_grow_92f84
      rw [pb_gN kl nl gy, pb_bind, ln, pb_bind, if_pos (show 0 < nI (hs_L x ed) from nI_lt (a := 0) (by omega) (by omega))]
      have nl2 : fJ8_newLength_cabcc fu y (nI (hs_L x ed)) (nI c + 1 - nI (hs_L x ed)) (nI (hs_L x ed) >>> (1 &&& 31)) = some (nI (hs_L x ed + hs_L x ed / 2), y) := by
        unfold fJ8_newLength_cabcc
        rw [nI_1, ← hcap, pk_sub (by omega), show c + 1 - c = 1 by omega, pk_shrN (by omega) _ 1 (by decide), if_pos (show nI 1 < nI (c / 2 ^ 1) from nI_lt (by omega) (by omega)), nI_add, if_neg (nI_nle (by omega) (by omega)), if_neg (show ¬ (2147483639 : Int32) < nI (c + c / 2 ^ 1) from nI_nlt (a := 2147483639) (by omega) (by decide))]
      rw [nl2, pb_b2, pb_le (Nat.le_refl _), pb_bind, pb_gN kl nl gy, pb_bind, pb_lv1 nl, pb_bind]
      generalize hcn : hs_L x ed + hs_L x ed / 2 = cp at nl2 cn1 cn2
      have hcp : hs_L x ed < cp := by omega
      unfold fJ7_copyOf_1904c
      rw [pb_ck ky ny, pb_bind]
      unfold fJ7_copyOf_6403c
      rw [pb_lv1 ny, pb_bind, pb_nA (by omega) (show cp ≤ 600 by omega) (by decide), pb_bind]
      generalize hz : hs_mkA y 13 cp = z
      have zN : hs_N z = hs_N y + 1 := by subst hz; rfl
      have zK : hs_K z (hs_N y) = 13 := by subst hz; exact up_e
      have zL : hs_L z (hs_N y) = cp := by subst hz; exact up_e
      have zKo : ∀ k, k < hs_N y → hs_K z k = hs_K y k := fun k hk => by subst hz; exact up_n (by omega)
      have zLo : ∀ k, k < hs_N y → hs_L z k = hs_L y k := fun k hk => by subst hz; exact up_n (by omega)
      have zO : ∀ k, k < hs_N y → hs_O z k = hs_O y k := fun k hk => by subst hz; funext i; exact if_neg (by omega)
      have zx : ex l x z := by subst hz; exact ex_mkA yx
      have zob : ∀ k, hs_ob x k = true → hs_ob z k = true := fun k hk => by
        have := of_decide_eq_true hk
        exact decide_eq_true (by rw [zKo k (by omega), yK]; exact ⟨this.1, by omega⟩)
      have zl : hs_K z l = 1 := (zKo l nl).trans kl
      have lz : hs_lnq z ed = some (nI (hs_L x ed)) := by
        unfold hs_lnq
        rw [if_neg hem, if_pos ⟨(zKo ed ny).trans ky, by omega⟩, zLo ed ny, ly]
      have hO : hs_O z ed = hs_O x ed := by rw [zO ed ny, y4]
      rw [lz, pb_bind, if_neg (show ¬ nI cp < nI (hs_L x ed) from nI_nlt (by omega) (by omega))]
      have cq : hs_cpq z ed 0 (hs_N y) 0 (nI (hs_L x ed)) = some (hs_wORow z (hs_N y) (va_cpy (hs_O z ed) (hs_O z (hs_N y)) 0 0 (hs_L x ed))) := by
        unfold hs_cpq
        rw [nI_clamp (show hs_L x ed < 2 ^ 31 by omega), show (0 : Int32).toNatClampNeg = 0 from rfl, if_pos]
        refine ⟨⟨(zKo ed ny).trans ky, by omega⟩, ⟨zK, by omega⟩, by decide, by decide, nI_pos (by omega), ?_, ?_, ?_⟩
        · rw [zLo ed ny, ly]; omega
        · rw [zL]; omega
        · rw [List.all_eq_true]
          intro i hi
          have hi2 : i < c := by rw [List.mem_range] at hi; omega
          rw [hO, Nat.zero_add, k6 i hi2]
          exact zob _ (hob i hi2)
      rw [cq, pb_bind]
      generalize hw : hs_wORow z (hs_N y) (va_cpy (hs_O z ed) (hs_O z (hs_N y)) 0 0 (hs_L x ed)) = w
      have w1 : w.1 = z.1 := by subst hw; rfl
      have wN : hs_N w = hs_N y + 1 := (hs_N_of w1).trans zN
      have wK : hs_K w = hs_K z := hs_K_of w1
      have wL : hs_L w = hs_L z := hs_L_of w1
      have wx : ex l x w := by subst hw; exact ex_ORow (by omega) zx
      have wO : ∀ i, i < c → hs_O w (hs_N y) i = some (el i) := by
        intro i hi
        subst hw
        show (if hs_N y = hs_N y then va_cpy (hs_O z ed) (hs_O z (hs_N y)) 0 0 (hs_L x ed) else _) i = _
        rw [if_pos rfl, pk_cpy_in (by omega) (by omega), hO, Nat.zero_add, Nat.sub_zero]
        exact k6 i hi
      rw [pb_b2, pb_le (by omega), pb_bind, pb_ms, pb_b2, pb_le (by omega), pb_bind, pb_ms, pb_pS (by rw [wK]; exact zl) (by omega) (by omega), pb_bind, pb_b2]
      generalize hv : hs_wG w 1 l (some (hs_N y)) = v
      have v1 : v.1 = w.1 := by subst hv; rfl
      have vN : hs_N v = hs_N y + 1 := (hs_N_of v1).trans wN
      have vK : hs_K v = hs_K z := (hs_K_of v1).trans wK
      have vL : hs_L v = hs_L z := (hs_L_of v1).trans wL
      have vx : ex l x v := by subst hv; exact ex_Gl (by omega) wx
      have vG : hs_G v 1 l = some (hs_N y) := by subst hv; exact if_pos ⟨rfl, rfl⟩
      have vO : hs_O v = hs_O w := by subst hv; rfl
      have vob : hs_ob v q = true := by
        have := zob q hq
        unfold hs_ob at this ⊢
        rw [vK, vN, ← zN]
        exact this
      rw [pb_le (by omega), pb_bind, pb_ms, pb_b2, pb_le (by omega), pb_bind, pb_ms, pb_sta (by rw [vK]; exact zK) (by omega) (by rw [vL, zL]; omega) (by rw [vL, zL]; omega) vob, pb_bind, nI_1, pb_pI (σ := hs_wO v (hs_N y) c (some q)) (show hs_K v l = 1 by rw [vK]; exact zl) (show l < hs_N v by omega), pb_bind, pb_b2, pb_le (show hs_N y ≤ hs_N (hs_wF (hs_wO v (hs_N y) c (some q)) 2 l (nI (c + 1))) by show _ ≤ hs_N v; omega), pb_bind]
      refine ⟨_, rfl, ex_F (Or.inr rfl) (ex_O (Or.inl (by omega)) vx), by show hs_N v ≤ _; omega, by rw [pb_F_wF, if_pos ⟨rfl, rfl⟩], Or.inr ⟨hs_N y, vG, by show hs_K v _ = _; rw [vK]; exact zK, by omega, by show _ < hs_N v; omega, by show _ ≤ hs_L v _; rw [vL, zL]; omega, by show capOK (hs_L v _); rw [vL, zL]; exact cn1, fun i hi => ?_⟩⟩
      by_cases hic : i = c
      · subst hic
        rw [hel]
        exact if_pos ⟨rfl, rfl⟩
      · refine (if_neg (fun z => hic z.2)).trans ?_
        show hs_O v (hs_N y) i = _
        rw [vO]
        exact wO i (by omega)
    · -- there is room
      have hlt : c < hs_L x ed := by omega
      rw [if_neg (n_ne (by omega) (by omega) hcap), pb_sta ky ny (by omega) (by omega) (by rw [yob]; exact hq), pb_bind, nI_1, pb_pI (σ := hs_wO y ed c (some q)) kl nl, pb_bind, pb_b2, pb_le (show hs_N y ≤ hs_N (hs_wF (hs_wO y ed c (some q)) 2 l (nI (c + 1))) from Nat.le_refl _), pb_bind]
      refine ⟨_, rfl, ex_F (Or.inr rfl) (ex_O (Or.inr g) yx), by show hs_N y ≤ _; omega, by rw [pb_F_wF, if_pos ⟨rfl, rfl⟩], Or.inr ⟨ed, gy, ky, k2, ny, by show _ ≤ hs_L y ed; omega, by show capOK (hs_L y ed); rw [ly]; exact k5, fun i hi => ?_⟩⟩
      by_cases hic : i = c
      · subst hic
        rw [hel]
        exact if_pos ⟨rfl, rfl⟩
      · refine (if_neg (fun z => hic z.2)).trans ?_
        show hs_O y ed i = _
        rw [y4]
        exact k6 i (by omega)
end Grow
