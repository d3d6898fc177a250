/-! Rows of references: what ArrayList does with them -/
def hs_lnq (σ : hs_T) (n : Nat) : Option Int32 := if n = hs_em then some 0 else if hs_K σ n = 13 ∧ n < hs_N σ then some (nI (hs_L σ n)) else none
/-- an object that a list may hold -/
def hs_ob (σ : hs_T) (m : Nat) : Bool := decide ((hs_K σ m = 7 ∨ hs_K σ m = 2) ∧ m < hs_N σ)
def hs_sta (σ : hs_T) (n : Nat) (i : Int32) (m : Nat) : Option hs_T := if (hs_K σ n = 13 ∧ n < hs_N σ) ∧ ¬ (i < 0 ∨ hs_L σ n ≤ i.toNatClampNeg) ∧ hs_ob σ m = true then some (hs_wO σ n i.toNatClampNeg (some m)) else none
def hs_eqn (a b : Nat) : Option Unit := if a = b then some () else none
theorem hs_eqn_i {a b : Nat} {u : Unit} (h : hs_eqn a b = some u) : a = b := (hs_si h).1
def hs_wORow (σ : hs_T) (n : Nat) (f : Nat → Option Nat) : hs_T := (σ.1, σ.2.1, σ.2.2.1, σ.2.2.2.1, fun n' => if n' = n then f else σ.2.2.2.2 n')
def hs_obs (σ : hs_T) (r : Option Nat) : Bool := match r with
  | none => true
  | some m => hs_ob σ m
/-- k of the references of n0, from its first on, come to the begin of n1 -/
def hs_cpq (σ : hs_T) (n0 : Nat) (sp : Int32) (n1 : Nat) (dp k : Int32) : Option hs_T :=
  if (hs_K σ n0 = 13 ∧ n0 < hs_N σ) ∧ (hs_K σ n1 = 13 ∧ n1 < hs_N σ) ∧ ¬ sp < 0 ∧ ¬ dp < 0 ∧ ¬ k < 0 ∧ sp.toNatClampNeg + k.toNatClampNeg ≤ hs_L σ n0 ∧ dp.toNatClampNeg + k.toNatClampNeg ≤ hs_L σ n1 ∧ (List.range k.toNatClampNeg).all (fun i => hs_obs σ (hs_O σ n0 (sp.toNatClampNeg + i))) = true then some (hs_wORow σ n1 (va_cpy (hs_O σ n0) (hs_O σ n1) sp.toNatClampNeg dp.toNatClampNeg k.toNatClampNeg)) else none
theorem hs_sta_N {σ σ' : hs_T} {n m : Nat} {i : Int32} (h : hs_sta σ n i m = some σ') : hs_N σ' = hs_N σ := by
  obtain ⟨-, rfl⟩ := hs_si h
  rfl
theorem hs_cpq_N {σ σ' : hs_T} {n0 n1 : Nat} {sp dp n : Int32} (h : hs_cpq σ n0 sp n1 dp n = some σ') : hs_N σ' = hs_N σ := by
  obtain ⟨-, rfl⟩ := hs_si h
  rfl
theorem hs_ws_ORow {E : hs_E} {ad : Nat → Nat} {σ : hs_T} {n : Nat} {f : Nat → Option Nat} (h : hs_K σ n = 13) : (hs_ws E ad σ).set n (ad n, .inl (E.2.2, hs_L σ n, .inr (.inr (.inr (.inr (fun i => (f i).map ad)))))) = hs_ws E ad (hs_wORow σ n f) := by
  rw [← hs_set (σ := σ) (σ' := hs_wORow σ n f) rfl (fun j hj => hs_e_congr rfl rfl (fun _ => rfl) (fun _ => rfl) rfl (if_neg hj))]
  rw [hs_e_q (σ := hs_wORow σ n f) h]
  rw [show hs_O (hs_wORow σ n f) n = f from if_pos rfl]
  rfl
theorem hs_cpy_map {f g : Nat → Option Nat} {ad : Nat → Nat} {sp dp k : Nat} : va_cpy (fun i => (f i).map ad) (fun i => (g i).map ad) sp dp k = fun i => (va_cpy f g sp dp k i).map ad := by
  funext i
  unfold va_cpy
  by_cases h : dp ≤ i ∧ i < dp + k
  · rw [if_pos h, if_pos h]
  · rw [if_neg h, if_neg h]
section HsLists
variable {p : Program} {l : Launch} {e : Env} {R : Room} {s : State} {m : MethodId} {args : Array Value} {below : List Frame} {meth : Method} {c : Code} {H H0 : Heap} {locs : List Loc} {cells slots : Nat} {Q : State → Prop} {cc : ByteArray} {pc : Nat} {ls : Array Slot} {rest : List Value} {ad : Nat → Nat} {A : Nat → Prop} {σ σ' : hs_T} {X : hs_X}
variable {own : String} {index : Nat} {n : Nat}
theorem hs_any (hV : hs_V X s) (hB : hs_H X.1 X.2.1 ad A σ H) {q : Nat} (h : hs_ob σ q = true) : va_Any "java/lang/Object" s H (ad q) := by
  have hq := of_decide_eq_true h
  have key : ∀ (C : String), va_Nw (.castable C "java/lang/Object") s → ∀ comp c0 : ClassId, s.vm.findClass "java/lang/Object" = some comp → s.vm.findClass C = some c0 → s.vm.assignable c0 comp = true := by
    intro C hC comp c0 h1 h2
    obtain ⟨c1, t1, f1, f2, f3⟩ := Cond.castable_spec (va_Nw.use (A := #[]) rfl hC)
    cases h2.symm.trans f1
    cases h1.symm.trans f2
    exact f3
  rcases hq.1 with hk | hk
  · exact va_rAny hV.1 hB.1 ((hs_at hq.2).trans (by rw [hs_e_o hk (by decide)])) (r := (RX5, TX5, 14)) rfl (key _ (hV.2.1 (.castable "ServiceGame$Service" "java/lang/Object") (by decide +kernel)))
  · exact va_rAny hV.1 hB.1 ((hs_at hq.2).trans (by rw [hs_e_o hk (by decide)])) (r := (RX0, TX0, 3)) rfl (key _ (hV.2.1 (.castable "ServiceGame$HandIn" "java/lang/Object") (by decide +kernel)))
theorem x_alenq (hx : p.tables.exec = Jvm.exec) (hb : c.code = cc) (hV : hs_V X s) (hA0 : ∀ q, A q → hs_A0 X q) (hS : va_S A s.heap H locs) (hem : ad hs_em = X.2.2.1.2.2.2) (hB : hs_H X.1 X.2.1 ad A σ H) {v : Int32} (hg : hs_lnq σ n = some v) (hdg : decode cc pc = .ok (.arraylength, 1))
    (kk : W p l e R s m args below meth c H locs cells slots Q (F0 m (pc + 1) ls (.int v :: rest))) : W p l e R s m args below meth c H locs cells slots Q (F0 m pc ls (.ref (ad n) :: rest)) := by
  unfold hs_lnq at hg
  by_cases hn : n = hs_em
  · rw [if_pos hn] at hg
    cases hg
    rw [hn, hem]
    exact va_tlen hx hb (hV.2.2.2.2.2.2.2.2.2.narrow hA0) hS rfl hdg kk
  · rw [if_neg hn] at hg
    obtain ⟨hok, rfl⟩ := hs_si hg
    exact va_alen (x := (hs_L σ n, .inr (.inr (.inr (.inr (fun i => (hs_O σ n i).map ad)))))) hx hb hV.1 hB.1 n 2 ((hs_at hok.2).trans (by rw [hs_e_q hok.1])) rfl rfl hdg kk
theorem x_aast (hx : p.tables.exec = Jvm.exec) (hb : c.code = cc) (hV : hs_V X s) (hB : hs_H X.1 X.2.1 ad A σ H) (hS : va_S A H0 H locs) {i : Int32} {q : Nat} (hg : hs_sta σ n i q = some σ') (hdg : decode cc pc = .ok (.aastore, 1))
    (kk : ∀ (H1 : Heap) (locs1 : List Loc), hs_H X.1 X.2.1 ad A σ' H1 → va_S A H0 H1 locs1 → W p l e R s m args below meth c H1 locs1 cells slots Q (F0 m (pc + 1) ls rest)) : W p l e R s m args below meth c H locs cells slots Q (F0 m pc ls (.ref (ad q) :: .int i :: .ref (ad n) :: rest)) := by
  obtain ⟨⟨hok, hin, hob⟩, rfl⟩ := hs_si hg
  refine va_astqM hx hb hV.1 hB.1 hB.2.1 hS n 2 ((hs_at hok.2).trans (by rw [hs_e_q hok.1])) rfl (hs_any hV hB hob) hin hdg (fun H1 locs1 h1 h2 h3 => kk H1 locs1 ?_ h3)
  have e := hs_ws_O (E := X.2.1) (ad := ad) (i := i.toNatClampNeg) (v := some q) hok.1
  rw [show (some q).map ad = some (ad q) from rfl] at e
  rw [e] at h1 h2
  exact ⟨h1, h2, hs_wf_O hB.2.2 (fun z hz => by cases hz; exact Or.inl (of_decide_eq_true hob).2)⟩
theorem hs_newQ (hx : p.tables.exec = Jvm.exec) (hb : c.code = cc) (hown : s.vm.findClass own = some m.cls) (hcl : (Cond.classLink own index "java/lang/Object").before args s = true) (hAO : va_AO "java/lang/Object" s) (hK : va_K X.1 vwCl (hs_ty X.2.1) s) (hB : hs_H X.1 X.2.1 ad A σ H) (hS : va_S A H0 H locs) (hA : ∀ q, H0.size ≤ q → A q) {k : Int32} {mx : Nat} (hmx : mx ≤ 65536) (hg : hs_nA σ 13 k mx = some σ') (hcells : cells + 1 ≤ R.cells) (hslots : slots + mx ≤ R.slots) (hdg : decode cc pc = .ok (.anewarray index, 3))
    (kk : ∀ (ad' : Nat → Nat) (H1 : Heap), hs_Ag (hs_N σ) ad' ad → hs_H X.1 X.2.1 ad' A σ' H1 → va_S A H0 H1 locs → W p l e R s m args below meth c H1 locs (cells + 1) (slots + mx) Q (F0 m (pc + 3) ls (.ref (ad' (hs_N σ)) :: rest))) : W p l e R s m args below meth c H locs cells slots Q (F0 m pc ls (.int k :: rest)) := by
  obtain ⟨⟨hN, hk0, hkm⟩, rfl⟩ := hs_si hg
  refine va_newq hx hb hown hcl hAO hK hB.1 hB.2.1 hS hA hk0 rfl (by omega) hcells (by omega) hdg (fun q cA H1 h0 h1 h2 h3 => ?_)
  have hcA : cA = X.2.1.2.2 := by
    obtain ⟨-, -, -, -, -, e1⟩ := (h0.2 3 _ rfl).2
    obtain ⟨-, -, -, -, -, e2⟩ := (hK.2 2 _ rfl).2
    exact Option.some.inj (e1.symm.trans e2)
  subst hcA
  rw [← hs_ws_mkA (E := X.2.1) (kd := 13) hB.2.2 hN (by
    rw [hs_e_q (σ := hs_mkA σ 13 k.toNatClampNeg) hs_up_at]
    show Sum.inl (X.2.1.2.2, va_up (hs_L σ) (hs_N σ) k.toNatClampNeg (hs_N σ), Sum.inr (Sum.inr (Sum.inr (Sum.inr (fun i => (hs_z1 (hs_O σ) (hs_N σ) none (hs_N σ) i).map (va_up ad (hs_N σ) q)))))) = _
    rw [hs_up_at, hs_z1_at]
    rfl)] at h1 h2
  have hk := kk (va_up ad (hs_N σ) q) H1 (hs_ag_up hN) ⟨h1, h2, hs_wf_mkA hB.2.2⟩ h3
  rw [hs_up_at] at hk
  exact W.widen (Nat.le_refl _) (Nat.add_le_add_left hkm _) hk
theorem x_copyq (hx : p.tables.exec = Jvm.exec) (hb : c.code = cc) (hml : c.maxLocals = ls.size) (hown : s.vm.findClass own = some m.cls) (hlink : (Cond.methodLink own index arraycopyName).before args s = true) (hnat : (Cond.native arraycopyName).before args s = true) (hstat : (Cond.static arraycopyName).before args s = true) (hini : (Cond.initialized "java/lang/System").before args s = true)
    (hV : hs_V X s) (hB : hs_H X.1 X.2.1 ad A σ H) (hS : va_S A H0 H locs) {n0 n1 : Nat} {sp dp k : Int32} (hg : hs_cpq σ n0 sp n1 dp k = some σ')
    (hframes : 1 ≤ R.frames) (hlocals : (rest.map fun v => v.category).sum + (nativeFrameWords "java/lang/System" "arraycopy" 5 + 11) ≤ R.locals) (hdg : decode cc pc = .ok (.invokestatic index, 3))
    (kk : ∀ (H1 : Heap) (locs1 : List Loc), hs_H X.1 X.2.1 ad A σ' H1 → va_S A H0 H1 locs1 → W p l e R s m args below meth c H1 locs1 cells slots Q (F0 m (pc + 3) ls rest)) : W p l e R s m args below meth c H locs cells slots Q (F0 m pc ls (.int k :: .int dp :: .ref (ad n1) :: .int sp :: .ref (ad n0) :: rest)) := by
  obtain ⟨⟨hok0, hok1, h1, h2, h3, h4, h5, hall⟩, rfl⟩ := hs_si hg
  refine va_copyM hx hb hml hown hlink hnat hstat hini hV.1 hB.1 hB.2.1 hS n0 n1 2 2 ((hs_at hok0.2).trans (by rw [hs_e_q hok0.1])) ((hs_at hok1.2).trans (by rw [hs_e_q hok1.1])) rfl rfl h1 h2 h3 h4 h5 ?_ hframes hlocals hdg (fun H1 locs1 g1 g2 g3 => kk H1 locs1 ?_ g3)
  · intro i hi y hy
    have ha := List.all_eq_true.mp hall i (List.mem_range.mpr hi)
    cases hq : hs_O σ n0 (sp.toNatClampNeg + i) with
    | none => rw [hq] at hy; cases hy
    | some q =>
      rw [hq] at hy ha
      cases hy
      exact hs_any hV hB ha
  · rw [hs_cpy_map, hs_ws_ORow hok1.1] at g1 g2
    refine ⟨g1, g2, hB.2.2.1, fun n' i' z hz => ?_⟩
    by_cases hc : n' = n1
    · have e : hs_O (hs_wORow σ n1 (va_cpy (hs_O σ n0) (hs_O σ n1) sp.toNatClampNeg dp.toNatClampNeg k.toNatClampNeg)) n' i' = va_cpy (hs_O σ n0) (hs_O σ n1) sp.toNatClampNeg dp.toNatClampNeg k.toNatClampNeg i' := by
        show (if n' = n1 then _ else hs_O σ n') i' = _
        rw [if_pos hc]
      rw [e] at hz
      unfold va_cpy at hz
      by_cases hd : dp.toNatClampNeg ≤ i' ∧ i' < dp.toNatClampNeg + k.toNatClampNeg
      · rw [if_pos hd] at hz
        exact hB.2.2.2 _ _ _ hz
      · rw [if_neg hd] at hz
        exact hB.2.2.2 _ _ _ hz
    · have e : hs_O (hs_wORow σ n1 (va_cpy (hs_O σ n0) (hs_O σ n1) sp.toNatClampNeg dp.toNatClampNeg k.toNatClampNeg)) n' i' = hs_O σ n' i' := by
        show (if n' = n1 then _ else hs_O σ n') i' = _
        rw [if_neg hc]
      rw [e] at hz
      exact hB.2.2.2 _ _ _ hz
theorem x_getC (hx : p.tables.exec = Jvm.exec) (hb : c.code = cc) (hml : c.maxLocals = ls.size) (hown : s.vm.findClass own = some m.cls) (hlink : (Cond.methodLink own index ⟨"java/lang/Object", "getClass", "()Ljava/lang/Class;"⟩).before args s = true)
    (hsel : (Cond.selects "[Ljava/lang/Object;" ⟨"java/lang/Object", "getClass", "()Ljava/lang/Class;"⟩ ⟨"java/lang/Object", "getClass", "()Ljava/lang/Class;"⟩).before args s = true) (hinst : (Cond.instanceMethod ⟨"java/lang/Object", "getClass", "()Ljava/lang/Class;"⟩).before args s = true) (hnat : (Cond.native ⟨"java/lang/Object", "getClass", "()Ljava/lang/Class;"⟩).before args s = true) (hV : hs_V X s) (hB : hs_H X.1 X.2.1 ad A σ H) (hok : hs_ok σ 13 n)
    (hframes : 1 ≤ R.frames) (hlocals : (rest.map fun v => v.category).sum + 14 ≤ R.locals) (hdg : decode cc pc = .ok (.invokevirtual index, 3))
    (k : W p l e R s m args below meth c H locs cells slots Q (F0 m (pc + 3) ls (.ref X.2.2.2.2 :: rest))) : W p l e R s m args below meth c H locs cells slots Q (F0 m pc ls (.ref (ad n) :: rest)) := by
  refine va_getC hx hb hml hown hlink (hV.2.2.2.2.1.use) hsel hinst hnat hV.2.2.2.1 ?_ hframes hlocals hdg k
  have h1 := hB.1 n _ ((hs_at (E := X.2.1) (ad := ad) hok.2).trans (by rw [hs_e_q hok.1]))
  obtain ⟨kA, comp, k1, k2, k3, k4⟩ := (hV.1.2 2 _ rfl).2
  exact ⟨_, h1, rfl, k4⟩
end HsLists
