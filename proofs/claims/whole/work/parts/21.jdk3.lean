/-! java/util/Arrays.copyOf([Ljava/lang/Object;ILjava/lang/Class;)[Ljava/lang/Object; -/
abbrev rmJ7_copyOf_6403c : Room := { frames := 1, cells := 1, slots := 600, locals := 18 }
theorem lkJ7_copyOf_6403c_0 : Cond.classLink RJ7 110 "[Ljava/lang/Object;" ∈ wsJ7_copyOf_6403c := by decide +kernel
theorem lkJ7_copyOf_6403c_1 : Cond.classLink RJ7 2 "java/lang/Object" ∈ wsJ7_copyOf_6403c := by decide +kernel
theorem lkJ7_copyOf_6403c_2 : Cond.methodLink RJ7 304 Lib.Math.min.name ∈ wsJ7_copyOf_6403c := by decide +kernel
theorem lkJ7_copyOf_6403c_3 : Cond.static Lib.Math.min.name ∈ wsJ7_copyOf_6403c := by decide +kernel
theorem lkJ7_copyOf_6403c_4 : Cond.initialized "java/lang/Math" ∈ wsJ7_copyOf_6403c := by decide +kernel
theorem lkJ7_copyOf_6403c_5 : Cond.code Lib.Math.min.name Lib.Math.min.code 2 (some .int) ∈ wsJ7_copyOf_6403c := by decide +kernel
theorem lkJ7_copyOf_6403c_6 : Cond.methodLink RJ7 150 arraycopyName ∈ wsJ7_copyOf_6403c := by decide +kernel
theorem lkJ7_copyOf_6403c_7 : Cond.native arraycopyName ∈ wsJ7_copyOf_6403c := by decide +kernel
theorem lkJ7_copyOf_6403c_8 : Cond.static arraycopyName ∈ wsJ7_copyOf_6403c := by decide +kernel
theorem lkJ7_copyOf_6403c_9 : Cond.initialized "java/lang/System" ∈ wsJ7_copyOf_6403c := by decide +kernel
def fJ7_copyOf_6403c (fu : Nat) (σ : hs_T) (a1 : Nat) (a2 : Int32) : Option (Option Nat × hs_T) :=
 (hs_lv σ [a1]).bind fun _ =>
 (hs_nA σ 13 a2 600).bind fun σ1 =>
 (hs_lnq σ1 a1).bind fun v6 =>
 (hs_cpq σ1 a1 0 (hs_N σ) 0 (if a2 < v6 then a2 else v6)).bind fun σ8 =>
 some ((some (hs_N σ)), σ8)
section SJ7_copyOf_6403c
variable {p : Program} {l : Launch} {e : Env} {s : State} {m : MethodId} {args : Array Value} {below : List Frame} {meth : Method} {c : Code} {X : hs_X} {ad : Nat → Nat} {A : Nat → Prop} {r : Option Nat} {τ : hs_T} {N0 : Nat}
set_option maxRecDepth 100000 in
set_option maxHeartbeats 4000000 in
theorem wJ7_copyOf_6403c_e (fu : Nat) (C : hs_Cx p s m args meth c X A yJ7_copyOf_6403c cJ7_copyOf_6403c 4 (some (.array (.object "java/lang/Object"))) wsJ7_copyOf_6403c) (hem : ad hs_em = X.2.2.1.2.2.2) {H : Heap} {locs : List Loc} {ls : Array Slot} (σ : hs_T) (a1 : Nat) (a2 : Int32) (hf : fJ7_copyOf_6403c fu σ a1 a2 = some (r, τ)) (hB : hs_H X.1 X.2.1 ad A σ H) (hS : va_S A s.heap H locs) (hl : lv_has ls 4 [(0, .ref (ad a1)), (1, .int a2), (2, .ref X.2.2.2.2)]) (hN : N0 = hs_N σ) : W p l e rmJ7_copyOf_6403c s m args below meth c H locs 0 0 (MQ below (hs_Q1 hs_tvr X ad N0 A r τ) args s 1 600 A) (F0 m 0 ls []) := by
  obtain ⟨hx, hb, hml, hr, hts, hown, hlk, hnm, hV, hA0, hA⟩ := id C
  have hown : s.vm.findClass RJ7 = some m.cls := hown
  have hK := hV.1
  have hNw := hV.2.1
  unfold fJ7_copyOf_6403c at hf
  have hag : hs_Ag N0 ad ad := fun _ _ => rfl
  have hN0 : N0 ≤ hs_N σ := Nat.le_of_eq hN
  refine lv_aload_n hx hb dJ7_copyOf_6403c_0 rfl (lv_at hl 2 rfl) ?_
  refine va_ldcM hx hb hown (hts _ lkJ7_copyOf_6403c_0) hV.2.2.2.1 dJ7_copyOf_6403c_1 ?_
  refine lv_acmp_ne (rx := some X.2.2.2.2) (ry := some X.2.2.2.2) (tgt := 13) hx hb dJ7_copyOf_6403c_3 (by decide) (fun h9 => absurd rfl h9) (fun _ => ?_)
  refine lv_iload_n hx hb dJ7_copyOf_6403c_6 rfl (lv_at hl 1 rfl) ?_
  have hl := lv_sub hl [0, 1] (l' := [(0, .ref (ad a1)), (1, .int a2)]) rfl
  obtain ⟨_, h5, hf⟩ := hs_bi hf
  obtain ⟨σ1, h2, hf⟩ := hs_bi hf
  refine hs_newQ (mx := 600) hx hb hown (hts _ lkJ7_copyOf_6403c_1) hV.2.2.1 hK hB hS hA (by decide) h2 (Nat.le_of_ble_eq_true rfl) (Nat.le_of_ble_eq_true rfl) dJ7_copyOf_6403c_7 (fun ad3 H g4 hB hS => ?_)
  have hem : ad3 hs_em = X.2.2.1.2.2.2 := (g4 _ (Or.inr rfl)).trans hem
  have hag := hs_agt hag hN0 g4
  have hl : lv_has ls 4 [(0, .ref (ad3 a1)), (1, .int a2)] := by rw [g4 a1 (Or.inl (hs_lv_i h5 _ (List.mem_of_getElem? (i := 0) rfl)))]; exact hl
  refine W.eq (g2 := F0 m 10 ls [.ref (ad3 (hs_N σ))]) rfl ?_
  have hN0 : N0 ≤ hs_N σ1 := by rw [hs_nA_N h2]; exact Nat.le_succ_of_le hN0
  refine lv_goto (tgt := 24) hx hb dJ7_copyOf_6403c_10 (by decide) ?_
  refine lv_astore_n (lv' := [(3, .ref (ad3 (hs_N σ))), (0, .ref (ad3 a1)), (1, .int a2)]) hx hb dJ7_copyOf_6403c_24 rfl hl (by decide) rfl (fun ls hl => ?_)
  refine lv_aload_n hx hb dJ7_copyOf_6403c_25 rfl (lv_at hl 1 rfl) ?_
  refine lv_iconst (v := 0) hx hb dJ7_copyOf_6403c_26 (by decide) ?_
  refine lv_aload_n hx hb dJ7_copyOf_6403c_27 rfl (lv_at hl 0 rfl) ?_
  refine lv_iconst (v := 0) hx hb dJ7_copyOf_6403c_28 (by decide) ?_
  refine lv_aload_n hx hb dJ7_copyOf_6403c_29 rfl (lv_at hl 1 rfl) ?_
  obtain ⟨v6, h7, hf⟩ := hs_bi hf
  refine x_alenq hx hb hV hA0 hS hem hB h7 dJ7_copyOf_6403c_30 ?_
  refine lv_iload_n hx hb dJ7_copyOf_6403c_31 rfl (lv_at hl 2 rfl) ?_
  refine va_mmin hx hb (hml.trans hl.1.symm) hown (hts _ lkJ7_copyOf_6403c_2) (hts _ lkJ7_copyOf_6403c_3) (hts _ lkJ7_copyOf_6403c_4) (hts _ lkJ7_copyOf_6403c_5) (Nat.le_of_ble_eq_true rfl) (Nat.le_of_ble_eq_true rfl) (Nat.le_of_ble_eq_true rfl) (Nat.le_of_ble_eq_true rfl) dJ7_copyOf_6403c_32 ?_
  obtain ⟨σ8, h9, hf⟩ := hs_bi hf
  refine x_copyq hx hb (hml.trans hl.1.symm) hown (hts _ lkJ7_copyOf_6403c_6) (hts _ lkJ7_copyOf_6403c_7) (hts _ lkJ7_copyOf_6403c_8) (hts _ lkJ7_copyOf_6403c_9) hV hB hS h9 (Nat.le_of_ble_eq_true rfl) (Nat.le_of_ble_eq_true rfl) dJ7_copyOf_6403c_35 (fun H locs hB hS => ?_)
  have hN0 : N0 ≤ hs_N σ8 := by rw [hs_cpq_N h9]; exact hN0
  refine lv_aload_n hx hb dJ7_copyOf_6403c_38 rfl (lv_at hl 0 rfl) ?_
  obtain ⟨rfl, rfl⟩ := hs_ri hf
  refine W.widen (k := 1) (n := 600) (Nat.le_of_ble_eq_true rfl) (Nat.le_of_ble_eq_true rfl) ?_
  exact hs_aret1 hx hb hr (Or.inr ⟨_, rfl⟩) hlk (some (hs_N σ)) rfl hag hB hS dJ7_copyOf_6403c_39
end SJ7_copyOf_6403c
set_option maxRecDepth 100000 in
theorem ctJ7_copyOf_6403c (l : Launch) (fu : Nat) (σ : hs_T) (a1 : Nat) (a2 : Int32) (X : hs_X) (ad : Nat → Nat) (sz : Nat) (r : Option Nat) (τ : hs_T) (hf : fJ7_copyOf_6403c fu σ a1 a2 = some (r, τ)) : Met l yJ7_copyOf_6403c wsJ7_copyOf_6403c rmJ7_copyOf_6403c (hs_Pc X ad σ sz [.ref (ad a1), .int a2, .ref X.2.2.2.2]) (hs_Q1 hs_tvr X ad (hs_N σ) (hs_Aw X ad σ sz) r τ) 1 600 (hs_Aw X ad σ sz) := by
  refine hs_enter (cc := cJ7_copyOf_6403c) (maxL := 4) (ret := (some (.array (.object "java/lang/Object")))) (by decide) rfl (Nat.le_of_ble_eq_true rfl) ?_
  intro p e s m below meth c ls C hl hem hB hS hsz
  exact wJ7_copyOf_6403c_e fu C hem σ a1 a2 hf hB hS hl rfl
/-! java/util/Arrays.copyOf([Ljava/lang/Object;I)[Ljava/lang/Object; -/
abbrev rmJ7_copyOf_1904c : Room := { frames := 2, cells := 1, slots := 600, locals := 41 }
theorem lkJ7_copyOf_1904c_0 : Cond.methodLink RJ7 86 ⟨"java/lang/Object", "getClass", "()Ljava/lang/Class;"⟩ ∈ wsJ7_copyOf_1904c := by decide +kernel
theorem lkJ7_copyOf_1904c_1 : Cond.selects "[Ljava/lang/Object;" ⟨"java/lang/Object", "getClass", "()Ljava/lang/Class;"⟩ ⟨"java/lang/Object", "getClass", "()Ljava/lang/Class;"⟩ ∈ wsJ7_copyOf_1904c := by decide +kernel
theorem lkJ7_copyOf_1904c_2 : Cond.instanceMethod ⟨"java/lang/Object", "getClass", "()Ljava/lang/Class;"⟩ ∈ wsJ7_copyOf_1904c := by decide +kernel
theorem lkJ7_copyOf_1904c_3 : Cond.native ⟨"java/lang/Object", "getClass", "()Ljava/lang/Class;"⟩ ∈ wsJ7_copyOf_1904c := by decide +kernel
def fJ7_copyOf_1904c (fu : Nat) (σ : hs_T) (a1 : Nat) (a2 : Int32) : Option (Option Nat × hs_T) :=
 (hs_ck σ 13 a1).bind fun _ =>
 hs_b2 (fJ7_copyOf_6403c fu σ a1 a2) fun r5 σ3 =>
 (hs_le (hs_N σ) (hs_N σ3)).bind fun _ =>
 hs_mt r5 none (fun n6 =>
 some ((some n6), σ3))
section SJ7_copyOf_1904c
variable {p : Program} {l : Launch} {e : Env} {s : State} {m : MethodId} {args : Array Value} {below : List Frame} {meth : Method} {c : Code} {X : hs_X} {ad : Nat → Nat} {A : Nat → Prop} {r : Option Nat} {τ : hs_T} {N0 : Nat}
set_option maxRecDepth 100000 in
set_option maxHeartbeats 4000000 in
theorem wJ7_copyOf_1904c_e (fu : Nat) (C : hs_Cx p s m args meth c X A yJ7_copyOf_1904c cJ7_copyOf_1904c 2 (some (.array (.object "java/lang/Object"))) wsJ7_copyOf_1904c) (hem : ad hs_em = X.2.2.1.2.2.2) {H : Heap} {locs : List Loc} {ls : Array Slot} (σ : hs_T) (a1 : Nat) (a2 : Int32) (hf : fJ7_copyOf_1904c fu σ a1 a2 = some (r, τ)) (hB : hs_H X.1 X.2.1 ad A σ H) (hS : va_S A s.heap H locs) (hl : lv_has ls 2 [(0, .ref (ad a1)), (1, .int a2)]) (hN : N0 = hs_N σ) : W p l e rmJ7_copyOf_1904c s m args below meth c H locs 0 0 (MQ below (hs_Q1 hs_tvr X ad N0 A r τ) args s 1 600 A) (F0 m 0 ls []) := by
  obtain ⟨hx, hb, hml, hr, hts, hown, hlk, hnm, hV, hA0, hA⟩ := id C
  have hown : s.vm.findClass RJ7 = some m.cls := hown
  have hK := hV.1
  have hNw := hV.2.1
  unfold fJ7_copyOf_1904c at hf
  have hag : hs_Ag N0 ad ad := fun _ _ => rfl
  have hN0 : N0 ≤ hs_N σ := Nat.le_of_eq hN
  refine lv_aload_n hx hb dJ7_copyOf_1904c_0 rfl (lv_at hl 0 rfl) ?_
  refine lv_iload_n hx hb dJ7_copyOf_1904c_1 rfl (lv_at hl 1 rfl) ?_
  refine lv_aload_n hx hb dJ7_copyOf_1904c_2 rfl (lv_at hl 0 rfl) ?_
  obtain ⟨_, h1, hf⟩ := hs_bi hf
  refine x_getC hx hb (hml.trans hl.1.symm) hown (hts _ lkJ7_copyOf_1904c_0) (hts _ lkJ7_copyOf_1904c_1) (hts _ lkJ7_copyOf_1904c_2) (hts _ lkJ7_copyOf_1904c_3) hV hB (hs_ck_i h1) (Nat.le_of_ble_eq_true rfl) (Nat.le_of_ble_eq_true rfl) dJ7_copyOf_1904c_3 ?_
  have hl := lv_sub hl [] (l' := []) rfl
  obtain ⟨r5, σ3, h2, hf⟩ := hs_b2i hf
  obtain ⟨_, h4, hf⟩ := hs_bi hf
  obtain ⟨n6, hf, rfl⟩ := hs_mx hf
  refine hs_call1 (va_runS (As := [.ref (ad a1), .int a2, .ref X.2.2.2.2]) (rest := []) ⟨hx, hb, hml, hown, hts⟩ (ctJ7_copyOf_6403c l fu σ a1 a2 X ad H.size _ _ h2) (va_cwS 3 hts gJ7_copyOf_1904c_J7_copyOf_6403c rfl rfl rfl (by decide +kernel) ⟨Nat.le_of_ble_eq_true rfl, Nat.le_of_ble_eq_true rfl⟩) (hs_pre hV hB hS hA0 hA hem) rfl rfl hl.1 rfl (lv_room (Nat.le_of_ble_eq_true rfl)) dJ7_copyOf_1904c_6 ⟨Nat.le_of_ble_eq_true rfl, Nat.le_of_ble_eq_true rfl⟩) hB hS hA (fun ad7 H locs g8 hB hS => ?_)
  have hem : ad7 hs_em = X.2.2.1.2.2.2 := (g8 _ (Or.inr rfl)).trans hem
  have hag := hs_agt hag hN0 g8
  refine W.eq (g2 := F0 m 9 ls [.ref (ad7 n6)]) rfl ?_
  have hN0 : N0 ≤ hs_N σ3 := Nat.le_trans hN0 (hs_le_i h4)
  obtain ⟨rfl, rfl⟩ := hs_ri hf
  refine W.widen (k := 1) (n := 600) (Nat.le_of_ble_eq_true rfl) (Nat.le_of_ble_eq_true rfl) ?_
  exact hs_aret1 hx hb hr (Or.inr ⟨_, rfl⟩) hlk (some n6) rfl hag hB hS dJ7_copyOf_1904c_9
end SJ7_copyOf_1904c
set_option maxRecDepth 100000 in
theorem ctJ7_copyOf_1904c (l : Launch) (fu : Nat) (σ : hs_T) (a1 : Nat) (a2 : Int32) : hs_C1 hs_tvr l yJ7_copyOf_1904c wsJ7_copyOf_1904c rmJ7_copyOf_1904c 1 600 (fun ad => [.ref (ad a1), .int a2]) σ (fJ7_copyOf_1904c fu σ a1 a2) := by
  intro X ad sz r τ hf
  refine hs_enter (cc := cJ7_copyOf_1904c) (maxL := 2) (ret := (some (.array (.object "java/lang/Object")))) (by decide) rfl (Nat.le_of_ble_eq_true rfl) ?_
  intro p e s m below meth c ls C hl hem hB hS hsz
  exact wJ7_copyOf_1904c_e fu C hem σ a1 a2 hf hB hS hl rfl
/-! java/util/ArrayList.grow(I)[Ljava/lang/Object; -/
abbrev rmJx4a65c_grow_92f84 : Room := { frames := 3, cells := 1, slots := 600, locals := 62 }
theorem inJx4a65c_grow_92f84_Jx4a65c : ∀ w ∈ wsJx4a65c0, w ∈ wsJx4a65c_grow_92f84 := fun _ h => List.mem_cons_of_mem _ (List.mem_append_right _ h)
theorem lkJx4a65c_grow_92f84_0 : Cond.fieldLink RJx4a65c 9 "java/util/ArrayList" "elementData" "[Ljava/lang/Object;" ∈ wsJx4a65c_grow_92f84 := by decide +kernel
theorem lkJx4a65c_grow_92f84_1 : Cond.fieldLink RJx4a65c 39 "java/util/ArrayList" "DEFAULTCAPACITY_EMPTY_ELEMENTDATA" "[Ljava/lang/Object;" ∈ wsJx4a65c_grow_92f84 := by decide +kernel
theorem lkJx4a65c_grow_92f84_2 : Cond.methodLink RJx4a65c 79 Lib.Math.max.name ∈ wsJx4a65c_grow_92f84 := by decide +kernel
theorem lkJx4a65c_grow_92f84_3 : Cond.static Lib.Math.max.name ∈ wsJx4a65c_grow_92f84 := by decide +kernel
theorem lkJx4a65c_grow_92f84_4 : Cond.initialized "java/lang/Math" ∈ wsJx4a65c_grow_92f84 := by decide +kernel
theorem lkJx4a65c_grow_92f84_5 : Cond.code Lib.Math.max.name Lib.Math.max.code 2 (some .int) ∈ wsJx4a65c_grow_92f84 := by decide +kernel
theorem lkJx4a65c_grow_92f84_6 : Cond.classLink RJx4a65c 7 "java/lang/Object" ∈ wsJx4a65c_grow_92f84 := by decide +kernel
def fJx4a65c_grow_92f84 (fu : Nat) (σ : hs_T) (o : Nat) (a1 : Int32) : Option (Option Nat × hs_T) :=
 (hs_gN σ 1 o 1).bind fun n2 =>
 (hs_lnq σ n2).bind fun v3 =>
 if 0 < v3 then
 (hs_b2 (fJ8_newLength_cabcc fu σ v3 (a1 - v3) (v3 >>> (1 &&& 31))) fun v9 σ7 =>
 (hs_le (hs_N σ) (hs_N σ7)).bind fun _ =>
 (hs_gN σ7 1 o 1).bind fun n12 =>
 (hs_lv σ7 [o]).bind fun _ =>
 hs_b2 (fJ7_copyOf_1904c fu σ7 n12 v9) fun r16 σ14 =>
 (hs_le (hs_N σ7) (hs_N σ14)).bind fun _ =>
 hs_mt r16 none (fun n17 =>
 (hs_pR σ14 1 o 1 (some n17)).bind fun σ22 =>
 some ((some n17), σ22)))
 else
 ((hs_gN σ 1 o 1).bind fun n24 =>
 (hs_eqn n24 hs_em).bind fun _ =>
 (hs_lv σ [o]).bind fun _ =>
 (hs_nA σ 13 (if 10 < a1 then a1 else 10) 600).bind fun σ26 =>
 (hs_pR σ26 1 o 1 (some (hs_N σ))).bind fun σ32 =>
 some ((some (hs_N σ)), σ32))
section SJx4a65c_grow_92f84
variable {p : Program} {l : Launch} {e : Env} {s : State} {m : MethodId} {args : Array Value} {below : List Frame} {meth : Method} {c : Code} {X : hs_X} {ad : Nat → Nat} {A : Nat → Prop} {r : Option Nat} {τ : hs_T} {N0 : Nat}
set_option maxRecDepth 100000 in
set_option maxHeartbeats 4000000 in
theorem wJx4a65c_grow_92f84_e (fu : Nat) (C : hs_Cx p s m args meth c X A yJx4a65c_grow_92f84 cJx4a65c_grow_92f84 4 (some (.array (.object "java/lang/Object"))) wsJx4a65c_grow_92f84) (hem : ad hs_em = X.2.2.1.2.2.2) {H : Heap} {locs : List Loc} {ls : Array Slot} (σ : hs_T) (o : Nat) (a1 : Int32) (hf : fJx4a65c_grow_92f84 fu σ o a1 = some (r, τ)) (hB : hs_H X.1 X.2.1 ad A σ H) (hS : va_S A s.heap H locs) (hl : lv_has ls 4 [(0, .ref (ad o)), (1, .int a1)]) (hN : N0 = hs_N σ) : W p l e rmJx4a65c_grow_92f84 s m args below meth c H locs 0 0 (MQ below (hs_Q1 hs_tvr X ad N0 A r τ) args s 1 600 A) (F0 m 0 ls []) := by
  obtain ⟨hx, hb, hml, hr, hts, hown, hlk, hnm, hV, hA0, hA⟩ := id C
  have hown : s.vm.findClass RJx4a65c = some m.cls := hown
  have hK := hV.1
  have hNw := hV.2.1
  unfold fJx4a65c_grow_92f84 at hf
  have hag : hs_Ag N0 ad ad := fun _ _ => rfl
  have hN0 : N0 ≤ hs_N σ := Nat.le_of_eq hN
  refine lv_aload_n hx hb dJx4a65c_grow_92f84_0 rfl (lv_at hl 0 rfl) ?_
  obtain ⟨n2, h1, hf⟩ := hs_bi hf
  refine x_getN hx hb hts inJx4a65c_grow_92f84_Jx4a65c hown hK hB (by decide) rfl (k := 1) (by decide) rfl h1 (hts _ lkJx4a65c_grow_92f84_0) (fun _ h9 => h9) dJx4a65c_grow_92f84_1 ?_
  obtain ⟨v3, h4, hf⟩ := hs_bi hf
  refine x_alenq hx hb hV hA0 hS hem hB h4 dJx4a65c_grow_92f84_4 ?_
  refine lv_istore_n (lv' := [(2, .int v3), (0, .ref (ad o)), (1, .int a1)]) hx hb dJx4a65c_grow_92f84_5 rfl hl (by decide) rfl (fun ls hl => ?_)
  refine lv_iload_n hx hb dJx4a65c_grow_92f84_6 rfl (lv_at hl 0 rfl) ?_
  refine lv_if_gt (tgt := 20) hx hb dJx4a65c_grow_92f84_7 (by decide) (fun h5 => ?_) (fun h5 => ?_)
  · have hf := hs_tt h5 hf
    refine lv_iload_n hx hb dJx4a65c_grow_92f84_20 rfl (lv_at hl 0 rfl) ?_
    refine lv_iload_n hx hb dJx4a65c_grow_92f84_21 rfl (lv_at hl 2 rfl) ?_
    refine lv_iload_n hx hb dJx4a65c_grow_92f84_22 rfl (lv_at hl 0 rfl) ?_
    refine lv_isub hx hb dJx4a65c_grow_92f84_23 ?_
    refine lv_iload_n hx hb dJx4a65c_grow_92f84_24 rfl (lv_at hl 0 rfl) ?_
    refine lv_iconst (v := 1) hx hb dJx4a65c_grow_92f84_25 (by decide) ?_
    refine lv_ishr hx hb dJx4a65c_grow_92f84_26 ?_
    obtain ⟨v9, σ7, h6, hf⟩ := hs_b2i hf
    obtain ⟨_, h8, hf⟩ := hs_bi hf
    refine hs_call0 (va_runS (As := [.int v3, .int (a1 - v3), .int (v3 >>> (1 &&& 31))]) (rest := []) ⟨hx, hb, hml, hown, hts⟩ (ctJ8_newLength_cabcc l fu σ v3 (a1 - v3) (v3 >>> (1 &&& 31)) X ad H.size _ _ h6) (va_cwS 3 hts gJx4a65c_grow_92f84_J8_newLength_cabcc rfl rfl rfl (by decide +kernel) ⟨Nat.le_of_ble_eq_true rfl, Nat.le_of_ble_eq_true rfl⟩) (hs_pre hV hB hS hA0 hA hem) rfl rfl hl.1 rfl (lv_room (Nat.le_of_ble_eq_true rfl)) dJx4a65c_grow_92f84_27 ⟨Nat.le_of_ble_eq_true rfl, Nat.le_of_ble_eq_true rfl⟩) hB hS hA rfl (fun H locs hB hS => ?_)
    have hN0 : N0 ≤ hs_N σ7 := Nat.le_trans hN0 (hs_le_i h8)
    refine lv_istore_n (lv' := [(3, .int v9), (2, .int v3), (0, .ref (ad o)), (1, .int a1)]) hx hb dJx4a65c_grow_92f84_30 rfl hl (by decide) rfl (fun ls hl => ?_)
    refine lv_aload_n hx hb dJx4a65c_grow_92f84_31 rfl (lv_at hl 2 rfl) ?_
    refine lv_aload_n hx hb dJx4a65c_grow_92f84_32 rfl (lv_at hl 2 rfl) ?_
    obtain ⟨n12, h11, hf⟩ := hs_bi hf
    refine x_getN hx hb hts inJx4a65c_grow_92f84_Jx4a65c hown hK hB (by decide) rfl (k := 1) (by decide) rfl h11 (hts _ lkJx4a65c_grow_92f84_0) (fun _ h9 => h9) dJx4a65c_grow_92f84_33 ?_
    refine lv_iload_n hx hb dJx4a65c_grow_92f84_36 rfl (lv_at hl 0 rfl) ?_
    have hl := lv_sub hl [] (l' := []) rfl
    obtain ⟨_, h18, hf⟩ := hs_bi hf
    obtain ⟨r16, σ14, h13, hf⟩ := hs_b2i hf
    obtain ⟨_, h15, hf⟩ := hs_bi hf
    obtain ⟨n17, hf, rfl⟩ := hs_mx hf
    refine hs_call1 (va_runS (As := [.ref (ad n12), .int v9]) (rest := [.ref (ad o)]) ⟨hx, hb, hml, hown, hts⟩ (ctJ7_copyOf_1904c l fu σ7 n12 v9 X ad H.size _ _ h13) (va_cwS 2 hts gJx4a65c_grow_92f84_J7_copyOf_1904c rfl rfl rfl (by decide +kernel) ⟨Nat.le_of_ble_eq_true rfl, Nat.le_of_ble_eq_true rfl⟩) (hs_pre hV hB hS hA0 hA hem) rfl rfl hl.1 rfl (lv_room (Nat.le_of_ble_eq_true rfl)) dJx4a65c_grow_92f84_37 ⟨Nat.le_of_ble_eq_true rfl, Nat.le_of_ble_eq_true rfl⟩) hB hS hA (fun ad19 H locs g20 hB hS => ?_)
    have hem : ad19 hs_em = X.2.2.1.2.2.2 := (g20 _ (Or.inr rfl)).trans hem
    have hag := hs_agt hag hN0 g20
    refine W.eq (g2 := F0 m 40 ls [.ref (ad19 n17), .ref (ad19 o)]) (by rw [g20 o (Or.inl (hs_lv_i h18 _ (List.mem_of_getElem? (i := 0) rfl)))] <;> rfl) ?_
    have hN0 : N0 ≤ hs_N σ14 := Nat.le_trans hN0 (hs_le_i h15)
    refine lv_dup_x1 hx hb dJx4a65c_grow_92f84_40 rfl rfl ?_
    obtain ⟨σ22, h21, hf⟩ := hs_bi hf
    refine x_putRs hx hb hts inJx4a65c_grow_92f84_Jx4a65c tyJx4a65c_ok nmJx4a65c hown hK hB hS (by decide) rfl (k := 1) (by decide) rfl h21 (hts _ lkJx4a65c_grow_92f84_0) (fun _ h9 => h9) rfl (ty := .array (.object "java/lang/Object")) (by decide +kernel) rfl rfl dJx4a65c_grow_92f84_41 (fun H locs hB hS => ?_)
    have hN0 : N0 ≤ hs_N σ22 := by rw [hs_pR_N h21]; exact hN0
    obtain ⟨rfl, rfl⟩ := hs_ri hf
    refine W.widen (k := 1) (n := 600) (Nat.le_of_ble_eq_true rfl) (Nat.le_of_ble_eq_true rfl) ?_
    exact hs_aret1 hx hb hr (Or.inr ⟨_, rfl⟩) hlk (some n17) rfl hag hB hS dJx4a65c_grow_92f84_44
  · have hf := hs_ff h5 hf
    refine lv_aload_n hx hb dJx4a65c_grow_92f84_10 rfl (lv_at hl 1 rfl) ?_
    obtain ⟨n24, h23, hf⟩ := hs_bi hf
    refine x_getN hx hb hts inJx4a65c_grow_92f84_Jx4a65c hown hK hB (by decide) rfl (k := 1) (by decide) rfl h23 (hts _ lkJx4a65c_grow_92f84_0) (fun _ h9 => h9) dJx4a65c_grow_92f84_11 ?_
    refine va_gets hx hb (hV.2.2.2.2.2.2.2.2.1.narrow hA0) hS hown (hts _ lkJx4a65c_grow_92f84_1) (fun _ h9 => h9) dJx4a65c_grow_92f84_14 ?_
    refine W.eq (g2 := F0 m 17 ls [.ref (ad hs_em), .ref (ad n24)]) (by rw [hem] <;> rfl) ?_
    obtain ⟨_, h25, hf⟩ := hs_bi hf
    refine lv_acmp_eq (rx := some (ad n24)) (ry := some (ad hs_em)) (tgt := 45) hx hb dJx4a65c_grow_92f84_17 (by decide) (fun _ => ?_) (fun h9 => absurd (by rw [hs_eqn_i h25]) h9)
    refine lv_aload_n hx hb dJx4a65c_grow_92f84_45 rfl (lv_at hl 1 rfl) ?_
    refine lv_bipush (v := 10) hx hb dJx4a65c_grow_92f84_46 (by decide) ?_
    refine lv_iload_n hx hb dJx4a65c_grow_92f84_48 rfl (lv_at hl 2 rfl) ?_
    refine va_mmax hx hb (hml.trans hl.1.symm) hown (hts _ lkJx4a65c_grow_92f84_2) (hts _ lkJx4a65c_grow_92f84_3) (hts _ lkJx4a65c_grow_92f84_4) (hts _ lkJx4a65c_grow_92f84_5) (Nat.le_of_ble_eq_true rfl) (Nat.le_of_ble_eq_true rfl) (Nat.le_of_ble_eq_true rfl) (Nat.le_of_ble_eq_true rfl) dJx4a65c_grow_92f84_49 ?_
    have hl := lv_sub hl [] (l' := []) rfl
    obtain ⟨_, h30, hf⟩ := hs_bi hf
    obtain ⟨σ26, h27, hf⟩ := hs_bi hf
    refine hs_newQ (mx := 600) hx hb hown (hts _ lkJx4a65c_grow_92f84_6) hV.2.2.1 hK hB hS hA (by decide) h27 (Nat.le_of_ble_eq_true rfl) (Nat.le_of_ble_eq_true rfl) dJx4a65c_grow_92f84_52 (fun ad28 H g29 hB hS => ?_)
    have hem : ad28 hs_em = X.2.2.1.2.2.2 := (g29 _ (Or.inr rfl)).trans hem
    have hag := hs_agt hag hN0 g29
    refine W.eq (g2 := F0 m 55 ls [.ref (ad28 (hs_N σ)), .ref (ad28 o)]) (by rw [g29 o (Or.inl (hs_lv_i h30 _ (List.mem_of_getElem? (i := 0) rfl)))] <;> rfl) ?_
    have hN0 : N0 ≤ hs_N σ26 := by rw [hs_nA_N h27]; exact Nat.le_succ_of_le hN0
    refine lv_dup_x1 hx hb dJx4a65c_grow_92f84_55 rfl rfl ?_
    obtain ⟨σ32, h31, hf⟩ := hs_bi hf
    refine x_putRs hx hb hts inJx4a65c_grow_92f84_Jx4a65c tyJx4a65c_ok nmJx4a65c hown hK hB hS (by decide) rfl (k := 1) (by decide) rfl h31 (hts _ lkJx4a65c_grow_92f84_0) (fun _ h9 => h9) rfl (ty := .array (.object "java/lang/Object")) (by decide +kernel) rfl rfl dJx4a65c_grow_92f84_56 (fun H locs hB hS => ?_)
    have hN0 : N0 ≤ hs_N σ32 := by rw [hs_pR_N h31]; exact hN0
    obtain ⟨rfl, rfl⟩ := hs_ri hf
    refine W.widen (k := 1) (n := 600) (Nat.le_of_ble_eq_true rfl) (Nat.le_of_ble_eq_true rfl) ?_
    exact hs_aret1 hx hb hr (Or.inr ⟨_, rfl⟩) hlk (some (hs_N σ)) rfl hag hB hS dJx4a65c_grow_92f84_59
end SJx4a65c_grow_92f84
set_option maxRecDepth 100000 in
theorem ctJx4a65c_grow_92f84 (l : Launch) (fu : Nat) (σ : hs_T) (o : Nat) (a1 : Int32) : hs_C1 hs_tvr l yJx4a65c_grow_92f84 wsJx4a65c_grow_92f84 rmJx4a65c_grow_92f84 1 600 (fun ad => [.ref (ad o), .int a1]) σ (fJx4a65c_grow_92f84 fu σ o a1) := by
  intro X ad sz r τ hf
  refine hs_enter (cc := cJx4a65c_grow_92f84) (maxL := 4) (ret := (some (.array (.object "java/lang/Object")))) (by decide) rfl (Nat.le_of_ble_eq_true rfl) ?_
  intro p e s m below meth c ls C hl hem hB hS hsz
  exact wJx4a65c_grow_92f84_e fu C hem σ o a1 hf hB hS hl rfl
/-! java/util/ArrayList.grow()[Ljava/lang/Object; -/
abbrev rmJx4a65c_grow_d5877 : Room := { frames := 4, cells := 1, slots := 600, locals := 85 }
theorem inJx4a65c_grow_d5877_Jx4a65c : ∀ w ∈ wsJx4a65c0, w ∈ wsJx4a65c_grow_d5877 := fun _ h => List.mem_cons_of_mem _ (List.mem_append_right _ h)
theorem lkJx4a65c_grow_d5877_0 : Cond.fieldLink RJx4a65c 48 "java/util/ArrayList" "size" "I" ∈ wsJx4a65c_grow_d5877 := by decide +kernel
def fJx4a65c_grow_d5877 (fu : Nat) (σ : hs_T) (o : Nat) : Option (Option Nat × hs_T) :=
 (hs_gI σ 1 o 2).bind fun v2 =>
 (hs_ck σ 1 o).bind fun _ =>
 hs_b2 (fJx4a65c_grow_92f84 fu σ o (v2 + 1)) fun r7 σ4 =>
 (hs_le (hs_N σ) (hs_N σ4)).bind fun _ =>
 hs_mt r7 none (fun n8 =>
 some ((some n8), σ4))
section SJx4a65c_grow_d5877
variable {p : Program} {l : Launch} {e : Env} {s : State} {m : MethodId} {args : Array Value} {below : List Frame} {meth : Method} {c : Code} {X : hs_X} {ad : Nat → Nat} {A : Nat → Prop} {r : Option Nat} {τ : hs_T} {N0 : Nat}
set_option maxRecDepth 100000 in
set_option maxHeartbeats 4000000 in
theorem wJx4a65c_grow_d5877_e (fu : Nat) (C : hs_Cx p s m args meth c X A yJx4a65c_grow_d5877 cJx4a65c_grow_d5877 1 (some (.array (.object "java/lang/Object"))) wsJx4a65c_grow_d5877) (hem : ad hs_em = X.2.2.1.2.2.2) {H : Heap} {locs : List Loc} {ls : Array Slot} (σ : hs_T) (o : Nat) (hf : fJx4a65c_grow_d5877 fu σ o = some (r, τ)) (hB : hs_H X.1 X.2.1 ad A σ H) (hS : va_S A s.heap H locs) (hl : lv_has ls 1 [(0, .ref (ad o))]) (hN : N0 = hs_N σ) : W p l e rmJx4a65c_grow_d5877 s m args below meth c H locs 0 0 (MQ below (hs_Q1 hs_tvr X ad N0 A r τ) args s 1 600 A) (F0 m 0 ls []) := by
  obtain ⟨hx, hb, hml, hr, hts, hown, hlk, hnm, hV, hA0, hA⟩ := id C
  have hown : s.vm.findClass RJx4a65c = some m.cls := hown
  have hK := hV.1
  have hNw := hV.2.1
  unfold fJx4a65c_grow_d5877 at hf
  have hag : hs_Ag N0 ad ad := fun _ _ => rfl
  have hN0 : N0 ≤ hs_N σ := Nat.le_of_eq hN
  refine lv_aload_n hx hb dJx4a65c_grow_d5877_0 rfl (lv_at hl 0 rfl) ?_
  refine lv_aload_n hx hb dJx4a65c_grow_d5877_1 rfl (lv_at hl 0 rfl) ?_
  obtain ⟨v2, h1, hf⟩ := hs_bi hf
  refine x_getI hx hb hts inJx4a65c_grow_d5877_Jx4a65c hown hK hB (by decide) rfl (k := 2) (by decide) rfl h1 (hts _ lkJx4a65c_grow_d5877_0) (fun _ h9 => h9) dJx4a65c_grow_d5877_2 ?_
  refine lv_iconst (v := 1) hx hb dJx4a65c_grow_d5877_5 (by decide) ?_
  refine lv_iadd hx hb dJx4a65c_grow_d5877_6 ?_
  obtain ⟨_, h5, hf⟩ := hs_bi hf
  have hl := lv_sub hl [] (l' := []) rfl
  obtain ⟨r7, σ4, h3, hf⟩ := hs_b2i hf
  obtain ⟨_, h6, hf⟩ := hs_bi hf
  obtain ⟨n8, hf, rfl⟩ := hs_mx hf
  refine hs_call1 (va_runV (As := [.int (v2 + 1)]) (rest := []) ⟨hx, hb, hml, hown, hts⟩ (ctJx4a65c_grow_92f84 l fu σ o (v2 + 1) X ad H.size _ _ h3) (cwV 1 hts gJx4a65c_grow_d5877_Jx4a65c_grow_92f84 rfl rfl rfl (by decide +kernel) ⟨Nat.le_of_ble_eq_true rfl, Nat.le_of_ble_eq_true rfl⟩) (hs_preV (hs_recv hK hB (hs_ck_i h5) (by decide) rfl) hV hB hS hA0 hA hem) rfl rfl hl.1 rfl (lv_room (Nat.le_of_ble_eq_true rfl)) dJx4a65c_grow_d5877_7 ⟨Nat.le_of_ble_eq_true rfl, Nat.le_of_ble_eq_true rfl⟩) hB hS hA (fun ad9 H locs g10 hB hS => ?_)
  have hem : ad9 hs_em = X.2.2.1.2.2.2 := (g10 _ (Or.inr rfl)).trans hem
  have hag := hs_agt hag hN0 g10
  refine W.eq (g2 := F0 m 10 ls [.ref (ad9 n8)]) rfl ?_
  have hN0 : N0 ≤ hs_N σ4 := Nat.le_trans hN0 (hs_le_i h6)
  obtain ⟨rfl, rfl⟩ := hs_ri hf
  refine W.widen (k := 1) (n := 600) (Nat.le_of_ble_eq_true rfl) (Nat.le_of_ble_eq_true rfl) ?_
  exact hs_aret1 hx hb hr (Or.inr ⟨_, rfl⟩) hlk (some n8) rfl hag hB hS dJx4a65c_grow_d5877_10
end SJx4a65c_grow_d5877
set_option maxRecDepth 100000 in
theorem ctJx4a65c_grow_d5877 (l : Launch) (fu : Nat) (σ : hs_T) (o : Nat) : hs_C1 hs_tvr l yJx4a65c_grow_d5877 wsJx4a65c_grow_d5877 rmJx4a65c_grow_d5877 1 600 (fun ad => [.ref (ad o)]) σ (fJx4a65c_grow_d5877 fu σ o) := by
  intro X ad sz r τ hf
  refine hs_enter (cc := cJx4a65c_grow_d5877) (maxL := 1) (ret := (some (.array (.object "java/lang/Object")))) (by decide) rfl (Nat.le_of_ble_eq_true rfl) ?_
  intro p e s m below meth c ls C hl hem hB hS hsz
  exact wJx4a65c_grow_d5877_e fu C hem σ o hf hB hS hl rfl
/-! java/util/ArrayList.add(Ljava/lang/Object;[Ljava/lang/Object;I)V -/
abbrev rmJx4a65c_add_72be8 : Room := { frames := 5, cells := 1, slots := 600, locals := 105 }
theorem inJx4a65c_add_72be8_Jx4a65c : ∀ w ∈ wsJx4a65c0, w ∈ wsJx4a65c_add_72be8 := fun _ h => List.mem_cons_of_mem _ (List.mem_append_right _ h)
theorem lkJx4a65c_add_72be8_0 : Cond.fieldLink RJx4a65c 48 "java/util/ArrayList" "size" "I" ∈ wsJx4a65c_add_72be8 := by decide +kernel
def fJx4a65c_add_72be8 (fu : Nat) (σ : hs_T) (o : Nat) (a1 : Nat) (a2 : Nat) (a3 : Int32) : Option (Unit × hs_T) :=
 (hs_lnq σ a2).bind fun v1 =>
 if a3 = v1 then
 ((hs_ck σ 1 o).bind fun _ =>
 (hs_lv σ [o, a1]).bind fun _ =>
 hs_b2 (fJx4a65c_grow_d5877 fu σ o) fun r12 σ9 =>
 (hs_le (hs_N σ) (hs_N σ9)).bind fun _ =>
 hs_mt r12 none (fun n13 =>
 (hs_sta σ9 n13 a3 a1).bind fun σ17 =>
 (hs_pI σ17 1 o 2 (a3 + 1)).bind fun σ20 =>
 some ((), σ20)))
 else
 ((hs_sta σ a2 a3 a1).bind fun σ4 =>
 (hs_pI σ4 1 o 2 (a3 + 1)).bind fun σ7 =>
 some ((), σ7))
section SJx4a65c_add_72be8
variable {p : Program} {l : Launch} {e : Env} {s : State} {m : MethodId} {args : Array Value} {below : List Frame} {meth : Method} {c : Code} {X : hs_X} {ad : Nat → Nat} {A : Nat → Prop} {r : Unit} {τ : hs_T} {N0 : Nat}
set_option maxRecDepth 100000 in
set_option maxHeartbeats 4000000 in
theorem wJx4a65c_add_72be8_e (fu : Nat) (C : hs_Cx p s m args meth c X A yJx4a65c_add_72be8 cJx4a65c_add_72be8 4 none wsJx4a65c_add_72be8) (hem : ad hs_em = X.2.2.1.2.2.2) {H : Heap} {locs : List Loc} {ls : Array Slot} (σ : hs_T) (o : Nat) (a1 : Nat) (a2 : Nat) (a3 : Int32) (hf : fJx4a65c_add_72be8 fu σ o a1 a2 a3 = some (r, τ)) (hB : hs_H X.1 X.2.1 ad A σ H) (hS : va_S A s.heap H locs) (hl : lv_has ls 4 [(0, .ref (ad o)), (1, .ref (ad a1)), (2, .ref (ad a2)), (3, .int a3)]) (hN : N0 = hs_N σ) : W p l e rmJx4a65c_add_72be8 s m args below meth c H locs 0 0 (MQ below (hs_Q1 hs_tvv X ad N0 A r τ) args s 1 600 A) (F0 m 0 ls []) := by
  obtain ⟨hx, hb, hml, hr, hts, hown, hlk, hnm, hV, hA0, hA⟩ := id C
  have hown : s.vm.findClass RJx4a65c = some m.cls := hown
  have hK := hV.1
  have hNw := hV.2.1
  unfold fJx4a65c_add_72be8 at hf
  have hag : hs_Ag N0 ad ad := fun _ _ => rfl
  have hN0 : N0 ≤ hs_N σ := Nat.le_of_eq hN
  refine lv_iload_n hx hb dJx4a65c_add_72be8_0 rfl (lv_at hl 3 rfl) ?_
  refine lv_aload_n hx hb dJx4a65c_add_72be8_1 rfl (lv_at hl 2 rfl) ?_
  obtain ⟨v1, h2, hf⟩ := hs_bi hf
  refine x_alenq hx hb hV hA0 hS hem hB h2 dJx4a65c_add_72be8_2 ?_
  refine lv_icmp_ne (tgt := 11) hx hb dJx4a65c_add_72be8_3 (by decide) (fun h3 => ?_) (fun h3 => ?_)
  · have hf := hs_ff h3 hf
    refine lv_aload_n hx hb dJx4a65c_add_72be8_11 rfl (lv_at hl 2 rfl) ?_
    refine lv_iload_n hx hb dJx4a65c_add_72be8_12 rfl (lv_at hl 3 rfl) ?_
    refine lv_aload_n hx hb dJx4a65c_add_72be8_13 rfl (lv_at hl 1 rfl) ?_
    obtain ⟨σ4, h5, hf⟩ := hs_bi hf
    refine x_aast hx hb hV hB hS h5 dJx4a65c_add_72be8_14 (fun H locs hB hS => ?_)
    have hN0 : N0 ≤ hs_N σ4 := by rw [hs_sta_N h5]; exact hN0
    refine lv_aload_n hx hb dJx4a65c_add_72be8_15 rfl (lv_at hl 0 rfl) ?_
    refine lv_iload_n hx hb dJx4a65c_add_72be8_16 rfl (lv_at hl 3 rfl) ?_
    refine lv_iconst (v := 1) hx hb dJx4a65c_add_72be8_17 (by decide) ?_
    refine lv_iadd hx hb dJx4a65c_add_72be8_18 ?_
    obtain ⟨σ7, h6, hf⟩ := hs_bi hf
    refine x_putI hx hb hts inJx4a65c_add_72be8_Jx4a65c tyJx4a65c_ok nmJx4a65c hown hK hB hS (by decide) rfl (k := 2) (by decide) rfl h6 (hts _ lkJx4a65c_add_72be8_0) (fun _ h9 => h9) rfl (by decide +kernel) dJx4a65c_add_72be8_19 (fun H locs hB hS => ?_)
    have hN0 : N0 ≤ hs_N σ7 := by rw [hs_pI_N h6]; exact hN0
    obtain ⟨rfl, rfl⟩ := hs_ri hf
    refine W.widen (k := 1) (n := 600) (Nat.le_of_ble_eq_true rfl) (Nat.le_of_ble_eq_true rfl) ?_
    exact hs_vret1 hx hb hr hlk hag hB hS dJx4a65c_add_72be8_22
  · have hf := hs_tt h3 hf
    refine lv_aload_n hx hb dJx4a65c_add_72be8_6 rfl (lv_at hl 0 rfl) ?_
    obtain ⟨_, h10, hf⟩ := hs_bi hf
    have hl := lv_sub hl [0, 1, 3] (l' := [(0, .ref (ad o)), (1, .ref (ad a1)), (3, .int a3)]) rfl
    obtain ⟨_, h14, hf⟩ := hs_bi hf
    obtain ⟨r12, σ9, h8, hf⟩ := hs_b2i hf
    obtain ⟨_, h11, hf⟩ := hs_bi hf
    obtain ⟨n13, hf, rfl⟩ := hs_mx hf
    refine hs_call1 (va_runV (As := []) (rest := []) ⟨hx, hb, hml, hown, hts⟩ (ctJx4a65c_grow_d5877 l fu σ o X ad H.size _ _ h8) (cwV 0 hts gJx4a65c_add_72be8_Jx4a65c_grow_d5877 rfl rfl rfl (by decide +kernel) ⟨Nat.le_of_ble_eq_true rfl, Nat.le_of_ble_eq_true rfl⟩) (hs_preV (hs_recv hK hB (hs_ck_i h10) (by decide) rfl) hV hB hS hA0 hA hem) rfl rfl hl.1 rfl (lv_room (Nat.le_of_ble_eq_true rfl)) dJx4a65c_add_72be8_7 ⟨Nat.le_of_ble_eq_true rfl, Nat.le_of_ble_eq_true rfl⟩) hB hS hA (fun ad15 H locs g16 hB hS => ?_)
    have hem : ad15 hs_em = X.2.2.1.2.2.2 := (g16 _ (Or.inr rfl)).trans hem
    have hag := hs_agt hag hN0 g16
    have hl : lv_has ls 4 [(0, .ref (ad15 o)), (1, .ref (ad15 a1)), (3, .int a3)] := by rw [g16 o (Or.inl (hs_lv_i h14 _ (List.mem_of_getElem? (i := 0) rfl))), g16 a1 (Or.inl (hs_lv_i h14 _ (List.mem_of_getElem? (i := 1) rfl)))]; exact hl
    refine W.eq (g2 := F0 m 10 ls [.ref (ad15 n13)]) rfl ?_
    have hN0 : N0 ≤ hs_N σ9 := Nat.le_trans hN0 (hs_le_i h11)
    refine lv_astore_n (lv' := [(2, .ref (ad15 n13)), (0, .ref (ad15 o)), (1, .ref (ad15 a1)), (3, .int a3)]) hx hb dJx4a65c_add_72be8_10 rfl hl (by decide) rfl (fun ls hl => ?_)
    refine lv_aload_n hx hb dJx4a65c_add_72be8_11 rfl (lv_at hl 0 rfl) ?_
    refine lv_iload_n hx hb dJx4a65c_add_72be8_12 rfl (lv_at hl 3 rfl) ?_
    refine lv_aload_n hx hb dJx4a65c_add_72be8_13 rfl (lv_at hl 2 rfl) ?_
    obtain ⟨σ17, h18, hf⟩ := hs_bi hf
    refine x_aast hx hb hV hB hS h18 dJx4a65c_add_72be8_14 (fun H locs hB hS => ?_)
    have hN0 : N0 ≤ hs_N σ17 := by rw [hs_sta_N h18]; exact hN0
    refine lv_aload_n hx hb dJx4a65c_add_72be8_15 rfl (lv_at hl 1 rfl) ?_
    refine lv_iload_n hx hb dJx4a65c_add_72be8_16 rfl (lv_at hl 3 rfl) ?_
    refine lv_iconst (v := 1) hx hb dJx4a65c_add_72be8_17 (by decide) ?_
    refine lv_iadd hx hb dJx4a65c_add_72be8_18 ?_
    obtain ⟨σ20, h19, hf⟩ := hs_bi hf
    refine x_putI hx hb hts inJx4a65c_add_72be8_Jx4a65c tyJx4a65c_ok nmJx4a65c hown hK hB hS (by decide) rfl (k := 2) (by decide) rfl h19 (hts _ lkJx4a65c_add_72be8_0) (fun _ h9 => h9) rfl (by decide +kernel) dJx4a65c_add_72be8_19 (fun H locs hB hS => ?_)
    have hN0 : N0 ≤ hs_N σ20 := by rw [hs_pI_N h19]; exact hN0
    obtain ⟨rfl, rfl⟩ := hs_ri hf
    refine W.widen (k := 1) (n := 600) (Nat.le_of_ble_eq_true rfl) (Nat.le_of_ble_eq_true rfl) ?_
    exact hs_vret1 hx hb hr hlk hag hB hS dJx4a65c_add_72be8_22
end SJx4a65c_add_72be8
set_option maxRecDepth 100000 in
theorem ctJx4a65c_add_72be8 (l : Launch) (fu : Nat) (σ : hs_T) (o : Nat) (a1 : Nat) (a2 : Nat) (a3 : Int32) : hs_C1 hs_tvv l yJx4a65c_add_72be8 wsJx4a65c_add_72be8 rmJx4a65c_add_72be8 1 600 (fun ad => [.ref (ad o), .ref (ad a1), .ref (ad a2), .int a3]) σ (fJx4a65c_add_72be8 fu σ o a1 a2 a3) := by
  intro X ad sz r τ hf
  refine hs_enter (cc := cJx4a65c_add_72be8) (maxL := 4) (ret := none) (by decide) rfl (Nat.le_of_ble_eq_true rfl) ?_
  intro p e s m below meth c ls C hl hem hB hS hsz
  exact wJx4a65c_add_72be8_e fu C hem σ o a1 a2 a3 hf hB hS hl rfl
/-! java/util/ArrayList.add(Ljava/lang/Object;)Z -/
abbrev rmJx4a65c_add_9ea2d : Room := { frames := 6, cells := 1, slots := 600, locals := 128 }
theorem inJx4a65c_add_9ea2d_Jx4a65c : ∀ w ∈ wsJx4a65c0, w ∈ wsJx4a65c_add_9ea2d := fun _ h => List.mem_cons_of_mem _ (List.mem_append_right _ h)
theorem lkJx4a65c_add_9ea2d_0 : Cond.fieldLink RJx4a65c 63 "java/util/ArrayList" "modCount" "I" ∈ wsJx4a65c_add_9ea2d := by decide +kernel
theorem lkJx4a65c_add_9ea2d_1 : Cond.fieldLink RJx4a65c 9 "java/util/ArrayList" "elementData" "[Ljava/lang/Object;" ∈ wsJx4a65c_add_9ea2d := by decide +kernel
theorem lkJx4a65c_add_9ea2d_2 : Cond.fieldLink RJx4a65c 48 "java/util/ArrayList" "size" "I" ∈ wsJx4a65c_add_9ea2d := by decide +kernel
def fJx4a65c_add_9ea2d (fu : Nat) (σ : hs_T) (o : Nat) (a1 : Nat) : Option (Int32 × hs_T) :=
 (hs_gI σ 1 o 0).bind fun v2 =>
 (hs_pI σ 1 o 0 (v2 + 1)).bind fun σ4 =>
 (hs_gN σ4 1 o 1).bind fun n6 =>
 (hs_gI σ4 1 o 2).bind fun v8 =>
 (hs_ck σ4 1 o).bind fun _ =>
 hs_b2 (fJx4a65c_add_72be8 fu σ4 o a1 n6 v8) fun _ σ10 =>
 (hs_le (hs_N σ4) (hs_N σ10)).bind fun _ =>
 some (1, σ10)
section SJx4a65c_add_9ea2d
variable {p : Program} {l : Launch} {e : Env} {s : State} {m : MethodId} {args : Array Value} {below : List Frame} {meth : Method} {c : Code} {X : hs_X} {ad : Nat → Nat} {A : Nat → Prop} {r : Int32} {τ : hs_T} {N0 : Nat}
set_option maxRecDepth 100000 in
set_option maxHeartbeats 4000000 in
theorem wJx4a65c_add_9ea2d_e (fu : Nat) (C : hs_Cx p s m args meth c X A yJx4a65c_add_9ea2d cJx4a65c_add_9ea2d 2 (some .boolean) wsJx4a65c_add_9ea2d) (hem : ad hs_em = X.2.2.1.2.2.2) {H : Heap} {locs : List Loc} {ls : Array Slot} (σ : hs_T) (o : Nat) (a1 : Nat) (hf : fJx4a65c_add_9ea2d fu σ o a1 = some (r, τ)) (hB : hs_H X.1 X.2.1 ad A σ H) (hS : va_S A s.heap H locs) (hl : lv_has ls 2 [(0, .ref (ad o)), (1, .ref (ad a1))]) (hN : N0 = hs_N σ) : W p l e rmJx4a65c_add_9ea2d s m args below meth c H locs 0 0 (MQ below (hs_Q1 hs_tvi X ad N0 A r τ) args s 1 600 A) (F0 m 0 ls []) := by
  obtain ⟨hx, hb, hml, hr, hts, hown, hlk, hnm, hV, hA0, hA⟩ := id C
  have hown : s.vm.findClass RJx4a65c = some m.cls := hown
  have hK := hV.1
  have hNw := hV.2.1
  unfold fJx4a65c_add_9ea2d at hf
  have hag : hs_Ag N0 ad ad := fun _ _ => rfl
  have hN0 : N0 ≤ hs_N σ := Nat.le_of_eq hN
  refine lv_aload_n hx hb dJx4a65c_add_9ea2d_0 rfl (lv_at hl 0 rfl) ?_
  refine lv_dup hx hb dJx4a65c_add_9ea2d_1 rfl ?_
  obtain ⟨v2, h1, hf⟩ := hs_bi hf
  refine x_getI hx hb hts inJx4a65c_add_9ea2d_Jx4a65c hown hK hB (by decide) rfl (k := 0) (by decide) rfl h1 (hts _ lkJx4a65c_add_9ea2d_0) (u_same (hts (.sameField "java/util/ArrayList" "java/util/AbstractList" "modCount" "I") (by decide +kernel))) dJx4a65c_add_9ea2d_2 ?_
  refine lv_iconst (v := 1) hx hb dJx4a65c_add_9ea2d_5 (by decide) ?_
  refine lv_iadd hx hb dJx4a65c_add_9ea2d_6 ?_
  obtain ⟨σ4, h3, hf⟩ := hs_bi hf
  refine x_putI hx hb hts inJx4a65c_add_9ea2d_Jx4a65c tyJx4a65c_ok nmJx4a65c hown hK hB hS (by decide) rfl (k := 0) (by decide) rfl h3 (hts _ lkJx4a65c_add_9ea2d_0) (u_same (hts (.sameField "java/util/ArrayList" "java/util/AbstractList" "modCount" "I") (by decide +kernel))) rfl (by decide +kernel) dJx4a65c_add_9ea2d_7 (fun H locs hB hS => ?_)
  have hN0 : N0 ≤ hs_N σ4 := by rw [hs_pI_N h3]; exact hN0
  refine lv_aload_n hx hb dJx4a65c_add_9ea2d_10 rfl (lv_at hl 0 rfl) ?_
  refine lv_aload_n hx hb dJx4a65c_add_9ea2d_11 rfl (lv_at hl 1 rfl) ?_
  refine lv_aload_n hx hb dJx4a65c_add_9ea2d_12 rfl (lv_at hl 0 rfl) ?_
  obtain ⟨n6, h5, hf⟩ := hs_bi hf
  refine x_getN hx hb hts inJx4a65c_add_9ea2d_Jx4a65c hown hK hB (by decide) rfl (k := 1) (by decide) rfl h5 (hts _ lkJx4a65c_add_9ea2d_1) (fun _ h9 => h9) dJx4a65c_add_9ea2d_13 ?_
  refine lv_aload_n hx hb dJx4a65c_add_9ea2d_16 rfl (lv_at hl 0 rfl) ?_
  obtain ⟨v8, h7, hf⟩ := hs_bi hf
  refine x_getI hx hb hts inJx4a65c_add_9ea2d_Jx4a65c hown hK hB (by decide) rfl (k := 2) (by decide) rfl h7 (hts _ lkJx4a65c_add_9ea2d_2) (fun _ h9 => h9) dJx4a65c_add_9ea2d_17 ?_
  obtain ⟨_, h11, hf⟩ := hs_bi hf
  have hl := lv_sub hl [] (l' := []) rfl
  obtain ⟨_, σ10, h9, hf⟩ := hs_b2i hf
  obtain ⟨_, h12, hf⟩ := hs_bi hf
  refine hs_call1 (va_runV (As := [.ref (ad a1), .ref (ad n6), .int v8]) (rest := []) ⟨hx, hb, hml, hown, hts⟩ (ctJx4a65c_add_72be8 l fu σ4 o a1 n6 v8 X ad H.size _ _ h9) (cwV 3 hts gJx4a65c_add_9ea2d_Jx4a65c_add_72be8 rfl rfl rfl (by decide +kernel) ⟨Nat.le_of_ble_eq_true rfl, Nat.le_of_ble_eq_true rfl⟩) (hs_preV (hs_recv hK hB (hs_ck_i h11) (by decide) rfl) hV hB hS hA0 hA hem) rfl rfl hl.1 rfl (lv_room (Nat.le_of_ble_eq_true rfl)) dJx4a65c_add_9ea2d_20 ⟨Nat.le_of_ble_eq_true rfl, Nat.le_of_ble_eq_true rfl⟩) hB hS hA (fun ad14 H locs g15 hB hS => ?_)
  have hem : ad14 hs_em = X.2.2.1.2.2.2 := (g15 _ (Or.inr rfl)).trans hem
  have hag := hs_agt hag hN0 g15
  refine W.eq (g2 := F0 m 23 ls []) rfl ?_
  have hN0 : N0 ≤ hs_N σ10 := Nat.le_trans hN0 (hs_le_i h12)
  refine lv_iconst (v := 1) hx hb dJx4a65c_add_9ea2d_23 (by decide) ?_
  obtain ⟨rfl, rfl⟩ := hs_ri hf
  refine W.widen (k := 1) (n := 600) (Nat.le_of_ble_eq_true rfl) (Nat.le_of_ble_eq_true rfl) ?_
  exact hs_zret1 hx hb hr hlk (by decide) hag hB hS dJx4a65c_add_9ea2d_24
end SJx4a65c_add_9ea2d
set_option maxRecDepth 100000 in
theorem ctJx4a65c_add_9ea2d (l : Launch) (fu : Nat) (σ : hs_T) (o : Nat) (a1 : Nat) : hs_C1 hs_tvi l yJx4a65c_add_9ea2d wsJx4a65c_add_9ea2d rmJx4a65c_add_9ea2d 1 600 (fun ad => [.ref (ad o), .ref (ad a1)]) σ (fJx4a65c_add_9ea2d fu σ o a1) := by
  intro X ad sz r τ hf
  refine hs_enter (cc := cJx4a65c_add_9ea2d) (maxL := 2) (ret := (some .boolean)) (by decide) rfl (Nat.le_of_ble_eq_true rfl) ?_
  intro p e s m below meth c ls C hl hem hB hS hsz
  exact wJx4a65c_add_9ea2d_e fu C hem σ o a1 hf hB hS hl rfl
