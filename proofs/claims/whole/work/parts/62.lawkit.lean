/-! The law: two heaps side by side -/
section LawKit
variable {p : Program} {l : Launch} {e : Env} {R : Room} {s : State} {m : MethodId} {args : Array Value} {below : List Frame} {meth : Method} {c : Code} {H H0 : Heap} {locs : List Loc} {cells slots : Nat} {Q : State → Prop} {pc : Nat} {ls : Array Slot} {rest : List Value} {ad ad2 : Nat → Nat} {A : Nat → Prop} {σ σ' τ : hs_T} {X : hs_X} {st0 : List Value} {a : Array Value}
theorem lw_lt {D : va_G} {E : hs_E} (h : hs_H D E ad A σ H) {i : Nat} (hi : i < hs_N σ) : ad i < H.size := (h.1 i _ (hs_at hi)).lt
theorem lw_apart {H1 : Heap} (hB : hs_H X.1 X.2.1 ad A σ H) (hO : hs_H X.1 X.2.1 ad2 A τ H) (hne : ∀ i j, i < hs_N σ → j < hs_N τ → ad i ≠ ad2 j) {ad' : Nat → Nat} (hB' : hs_H X.1 X.2.1 ad' (hs_Aw X ad σ H.size) σ' H1) : ∀ i j, i < hs_N σ' → j < hs_N τ → ad' i ≠ ad2 j := by
  intro i j hi hj e
  have h1 := hB'.2.1.2 i _ (hs_at hi)
  have h2 := lw_lt hO hj
  rcases h1 with ⟨k, en, hk⟩ | h1
  · have hkN : k < hs_N σ := by
      have := (List.getElem?_eq_some_iff.mp hk).1
      rw [hs_len] at this
      exact this
    rw [hs_at hkN] at hk
    have e2 := congrArg Prod.fst (Option.some.inj hk)
    exact hne k j hkN hj (e2.trans e)
  · have h1 : H.size ≤ ad' i := h1
    omega
theorem lw_other {H1 : Heap} (hO : hs_H X.1 X.2.1 ad2 A τ H) (hne : ∀ i j, i < hs_N σ → j < hs_N τ → ad i ≠ ad2 j) (hk : ∀ q : Nat, q < H.size → ¬ hs_Aw X ad σ H.size q → H1[q]? = H[q]?) : hs_H X.1 X.2.1 ad2 A τ H1 := by
  refine ⟨hO.1.kept (fun k q hq => ?_), hO.2⟩
  have hkN : k < hs_N τ := by
    have := (List.getElem?_eq_some_iff.mp hq).1
    rw [hs_len] at this
    exact this
  rw [hs_at hkN] at hq
  have e2 : ad2 k = q.1 := congrArg Prod.fst (Option.some.inj hq)
  rw [← e2]
  have hlt := lw_lt hO hkN
  refine hk _ hlt ?_
  rintro (⟨i, en, hi⟩ | h1)
  · have hiN : i < hs_N σ := by
      have := (List.getElem?_eq_some_iff.mp hi).1
      rw [hs_len] at this
      exact this
    rw [hs_at hiN] at hi
    exact hne i k hiN hkN (congrArg Prod.fst (Option.some.inj hi))
  · omega
theorem lw_call0 {ρ : Type} {tv : (Nat → Nat) → ρ → Option Value} {r : ρ} {vs : List Value} (hr : va_Run p l e R s m args below meth c H locs cells slots 0 0 (F0 m pc ls st0) rest (hs_Q0 tv X ad (hs_Aw X ad σ H.size) r σ' a) (hs_Aw X ad σ H.size)) (hB : hs_H X.1 X.2.1 ad A σ H) (hO : hs_H X.1 X.2.1 ad2 A τ H) (hne : ∀ i j, i < hs_N σ → j < hs_N τ → ad i ≠ ad2 j) (hS : va_S A s.heap H locs) (hA : ∀ q, s.heap.size ≤ q → A q) (hvs : (tv ad r).toList ++ rest = vs)
    (kk : ∀ (H1 : Heap) (locs1 : List Loc), hs_H X.1 X.2.1 ad A σ' H1 → hs_H X.1 X.2.1 ad2 A τ H1 → (∀ i j, i < hs_N σ' → j < hs_N τ → ad i ≠ ad2 j) → va_S A s.heap H1 locs1 → W p l e R s m args below meth c H1 locs1 cells slots Q (F0 m (pc + 3) ls vs)) : W p l e R s m args below meth c H locs cells slots Q (F0 m pc ls st0) := by
  intro T hT Y
  obtain ⟨v, st₀, t, T', L, h0, Y', hL, e1, e2, ⟨⟨ho, hB'⟩, hz, hk⟩, st⟩ := hr T hT Y
  cases ho
  subst hvs
  rw [h0] at hz hk
  have hAA := hs_Aw_in hB hS hA
  obtain ⟨t2, a1, b1⟩ := kk T'.heap (locs ++ L) (by rw [e1]; exact hB'.weaken hAA) (lw_other hO hne (fun q h1 h2 => by rw [e1]; exact hk q h1 h2)) (lw_apart hB hO hne hB') (hs_S_call hS (by rw [e1]; exact hz) (fun q h1 h2 => by rw [e1]; exact hk q h1 h2) hAA hL) T' rfl Y'
  exact ⟨t2, st t2 a1, b1⟩
theorem lw_call1 {ρ : Type} {tv : (Nat → Nat) → ρ → Option Value} {mc ms : Nat} {r : ρ} {vs : List Value} (hr : va_Run p l e R s m args below meth c H locs cells slots mc ms (F0 m pc ls st0) rest (hs_Q1 tv X ad (hs_N σ) (hs_Aw X ad σ H.size) r σ' a) (hs_Aw X ad σ H.size)) (hB : hs_H X.1 X.2.1 ad A σ H) (hO : hs_H X.1 X.2.1 ad2 A τ H) (hne : ∀ i j, i < hs_N σ → j < hs_N τ → ad i ≠ ad2 j) (hS : va_S A s.heap H locs) (hA : ∀ q, s.heap.size ≤ q → A q) (hvs : ∀ ad' : Nat → Nat, (tv ad' r).toList ++ rest = vs)
    (kk : ∀ (ad' : Nat → Nat) (H1 : Heap) (locs1 : List Loc), (∀ n, n < hs_N σ ∨ n = hs_em → ad' n = ad n) → hs_H X.1 X.2.1 ad' A σ' H1 → hs_H X.1 X.2.1 ad2 A τ H1 → (∀ i j, i < hs_N σ' → j < hs_N τ → ad' i ≠ ad2 j) → va_S A s.heap H1 locs1 → W p l e R s m args below meth c H1 locs1 (cells + mc) (slots + ms) Q (F0 m (pc + 3) ls vs)) : W p l e R s m args below meth c H locs cells slots Q (F0 m pc ls st0) := by
  intro T hT Y
  obtain ⟨v, st₀, t, T', L, h0, Y', hL, e1, e2, ⟨⟨ad', had, ho, hB'⟩, hz, hk⟩, st⟩ := hr T hT Y
  cases ho
  have hvs' := hvs ad'
  subst hvs'
  rw [h0] at hz hk
  have hAA := hs_Aw_in hB hS hA
  obtain ⟨t2, a1, b1⟩ := kk ad' T'.heap (locs ++ L) had (by rw [e1]; exact hB'.weaken hAA) (lw_other hO hne (fun q h1 h2 => by rw [e1]; exact hk q h1 h2)) (lw_apart hB hO hne hB') (hs_S_call hS (by rw [e1]; exact hz) (fun q h1 h2 => by rw [e1]; exact hk q h1 h2) hAA hL) T' rfl Y'
  exact ⟨t2, st t2 a1, b1⟩
end LawKit
/-- the two games in the machine's heap -/
def lwI (X : hs_X) (adx adm : Nat → Nat) (x mo : hs_T) (H : Heap) : Prop := hs_H X.1 X.2.1 adx (hs_A0 X) x H ∧ hs_H X.1 X.2.1 adm (hs_A0 X) mo H ∧ (∀ i j, i < hs_N x → j < hs_N mo → adx i ≠ adm j) ∧ adx hs_em = X.2.2.1.2.2.2 ∧ adm hs_em = X.2.2.1.2.2.2
/-- what stays while the law runs -/
def lwC (p : Program) (s : State) (m : MethodId) (c : Code) (X : hs_X) (b L : Nat) (xs : Nat → Int32) : Prop := p.tables.exec = Jvm.exec ∧ c.code = cL_law ∧ c.maxLocals = 4 ∧ s.vm.findClass RL = some m.cls ∧ (∀ w ∈ wsL_law, w.before #[Value.ref b] s = true) ∧ va_X b L xs s s.heap ∧ b < s.heap.size ∧ hs_V X s ∧ hs_n0 X = s.heap.size
/-- the law's locals -/
abbrev lwL (ls : Array Slot) (b : Nat) (adx adm : Nat → Nat) (j : Nat) : Prop := lv_has ls 4 [(0, .ref b), (1, .ref (adx 0)), (2, .ref (adm 0)), (3, .int (nI j))]
theorem Rel_ok {k : Nat} {x mo : hs_T} (h : Rel k x mo) : hs_ok x 9 0 ∧ hs_ok mo 10 0 := by
  obtain ⟨T, Rd, nh, st, sv, hn, hb, hp, hr, hM, hC, -⟩ := h
  exact ⟨⟨hC.2.1, Nat.lt_of_lt_of_le (by decide) hC.1⟩, hM.2.1, by rw [hM.1]; decide⟩
